theorem d_M_init_0 : decode b_M_init 0 = .ok (.aload_n 0, 1) := dc_aload0 (gt_M_init_0 0)
theorem d_M_init_1 : decode b_M_init 1 = .ok (.invokespecial 1, 3) := dc_invokespecial (gt_M_init_0 1) (gt_M_init_0 2) (gt_M_init_0 3) rfl
theorem d_M_init_4 : decode b_M_init 4 = .ok (.aload_n 0, 1) := dc_aload0 (gt_M_init_0 4)
theorem d_M_init_5 : decode b_M_init 5 = .ok (.bipush 77, 2) := dc_bipush (gt_M_init_0 5) (gt_M_init_0 6) rfl
theorem d_M_init_7 : decode b_M_init 7 = .ok (.newarray .byte, 2) := dc_newarray (gt_M_init_0 7) (gt_M_init_0 8) (fun _ => rfl)
theorem d_M_init_9 : decode b_M_init 9 = .ok (.dup, 1) := dc_dup (gt_M_init_0 9)
theorem d_M_init_10 : decode b_M_init 10 = .ok (.iconst 0, 1) := dc_iconst_0 (gt_M_init_0 10)
theorem d_M_init_11 : decode b_M_init 11 = .ok (.iconst 5, 1) := dc_iconst_5 (gt_M_init_0 11)
theorem d_M_init_12 : decode b_M_init 12 = .ok (.bastore, 1) := dc_bastore (gt_M_init_0 12)
theorem d_M_init_13 : decode b_M_init 13 = .ok (.dup, 1) := dc_dup (gt_M_init_0 13)
theorem d_M_init_14 : decode b_M_init 14 = .ok (.iconst 1, 1) := dc_iconst_1 (gt_M_init_0 14)
theorem d_M_init_15 : decode b_M_init 15 = .ok (.bipush 97, 2) := dc_bipush (gt_M_init_0 15) (gt_M_init_0 16) rfl
theorem d_M_init_17 : decode b_M_init 17 = .ok (.bastore, 1) := dc_bastore (gt_M_init_0 17)
theorem d_M_init_18 : decode b_M_init 18 = .ok (.dup, 1) := dc_dup (gt_M_init_0 18)
theorem d_M_init_19 : decode b_M_init 19 = .ok (.iconst 2, 1) := dc_iconst_2 (gt_M_init_0 19)
theorem d_M_init_20 : decode b_M_init 20 = .ok (.bipush 102, 2) := dc_bipush (gt_M_init_0 20) (gt_M_init_0 21) rfl
theorem d_M_init_22 : decode b_M_init 22 = .ok (.bastore, 1) := dc_bastore (gt_M_init_0 22)
theorem d_M_init_23 : decode b_M_init 23 = .ok (.dup, 1) := dc_dup (gt_M_init_0 23)
theorem d_M_init_24 : decode b_M_init 24 = .ok (.iconst 3, 1) := dc_iconst_3 (gt_M_init_0 24)
theorem d_M_init_25 : decode b_M_init 25 = .ok (.bipush 116, 2) := dc_bipush (gt_M_init_0 25) (gt_M_init_0 26) rfl
theorem d_M_init_27 : decode b_M_init 27 = .ok (.bastore, 1) := dc_bastore (gt_M_init_0 27)
theorem d_M_init_28 : decode b_M_init 28 = .ok (.dup, 1) := dc_dup (gt_M_init_0 28)
theorem d_M_init_29 : decode b_M_init 29 = .ok (.iconst 4, 1) := dc_iconst_4 (gt_M_init_0 29)
theorem d_M_init_30 : decode b_M_init 30 = .ok (.bipush 101, 2) := dc_bipush (gt_M_init_0 30) (gt_M_init_0 31) rfl
theorem d_M_init_32 : decode b_M_init 32 = .ok (.bastore, 1) := dc_bastore (gt_M_init_0 32)
theorem d_M_init_33 : decode b_M_init 33 = .ok (.dup, 1) := dc_dup (gt_M_init_0 33)
theorem d_M_init_34 : decode b_M_init 34 = .ok (.iconst 5, 1) := dc_iconst_5 (gt_M_init_0 34)
theorem d_M_init_35 : decode b_M_init 35 = .ok (.bipush 114, 2) := dc_bipush (gt_M_init_0 35) (gt_M_init_0 36) rfl
theorem d_M_init_37 : decode b_M_init 37 = .ok (.bastore, 1) := dc_bastore (gt_M_init_0 37)
theorem d_M_init_38 : decode b_M_init 38 = .ok (.dup, 1) := dc_dup (gt_M_init_0 38)
theorem d_M_init_39 : decode b_M_init 39 = .ok (.bipush 6, 2) := dc_bipush (gt_M_init_0 39) (gt_M_init_0 40) rfl
theorem d_M_init_41 : decode b_M_init 41 = .ok (.bipush 7, 2) := dc_bipush (gt_M_init_0 41) (gt_M_init_0 42) rfl
theorem d_M_init_43 : decode b_M_init 43 = .ok (.bastore, 1) := dc_bastore (gt_M_init_0 43)
theorem d_M_init_44 : decode b_M_init 44 = .ok (.dup, 1) := dc_dup (gt_M_init_0 44)
theorem d_M_init_45 : decode b_M_init 45 = .ok (.bipush 7, 2) := dc_bipush (gt_M_init_0 45) (gt_M_init_0 46) rfl
theorem d_M_init_47 : decode b_M_init 47 = .ok (.bipush 97, 2) := dc_bipush (gt_M_init_0 47) (gt_M_init_0 48) rfl
theorem d_M_init_49 : decode b_M_init 49 = .ok (.bastore, 1) := dc_bastore (gt_M_init_0 49)
theorem d_M_init_50 : decode b_M_init 50 = .ok (.dup, 1) := dc_dup (gt_M_init_0 50)
theorem d_M_init_51 : decode b_M_init 51 = .ok (.bipush 8, 2) := dc_bipush (gt_M_init_0 51) (gt_M_init_0 52) rfl
theorem d_M_init_53 : decode b_M_init 53 = .ok (.bipush 110, 2) := dc_bipush (gt_M_init_0 53) (gt_M_init_0 54) rfl
theorem d_M_init_55 : decode b_M_init 55 = .ok (.bastore, 1) := dc_bastore (gt_M_init_0 55)
theorem d_M_init_56 : decode b_M_init 56 = .ok (.dup, 1) := dc_dup (gt_M_init_0 56)
theorem d_M_init_57 : decode b_M_init 57 = .ok (.bipush 9, 2) := dc_bipush (gt_M_init_0 57) (gt_M_init_0 58) rfl
theorem d_M_init_59 : decode b_M_init 59 = .ok (.bipush 100, 2) := dc_bipush (gt_M_init_0 59) (gt_M_init_0 60) rfl
theorem d_M_init_61 : decode b_M_init 61 = .ok (.bastore, 1) := dc_bastore (gt_M_init_0 61)
theorem d_M_init_62 : decode b_M_init 62 = .ok (.dup, 1) := dc_dup (gt_M_init_0 62)
theorem d_M_init_63 : decode b_M_init 63 = .ok (.bipush 10, 2) := dc_bipush (gt_M_init_0 63) (gt_M_init_0 64) rfl
theorem d_M_init_65 : decode b_M_init 65 = .ok (.bipush 97, 2) := dc_bipush (gt_M_init_0 65) (gt_M_init_0 66) rfl
theorem d_M_init_67 : decode b_M_init 67 = .ok (.bastore, 1) := dc_bastore (gt_M_init_0 67)
theorem d_M_init_68 : decode b_M_init 68 = .ok (.dup, 1) := dc_dup (gt_M_init_0 68)
theorem d_M_init_69 : decode b_M_init 69 = .ok (.bipush 11, 2) := dc_bipush (gt_M_init_0 69) (gt_M_init_0 70) rfl
theorem d_M_init_71 : decode b_M_init 71 = .ok (.bipush 108, 2) := dc_bipush (gt_M_init_0 71) (gt_M_init_0 72) rfl
theorem d_M_init_73 : decode b_M_init 73 = .ok (.bastore, 1) := dc_bastore (gt_M_init_0 73)
theorem d_M_init_74 : decode b_M_init 74 = .ok (.dup, 1) := dc_dup (gt_M_init_0 74)
theorem d_M_init_75 : decode b_M_init 75 = .ok (.bipush 12, 2) := dc_bipush (gt_M_init_0 75) (gt_M_init_0 76) rfl
theorem d_M_init_77 : decode b_M_init 77 = .ok (.bipush 115, 2) := dc_bipush (gt_M_init_0 77) (gt_M_init_0 78) rfl
theorem d_M_init_79 : decode b_M_init 79 = .ok (.bastore, 1) := dc_bastore (gt_M_init_0 79)
theorem d_M_init_80 : decode b_M_init 80 = .ok (.dup, 1) := dc_dup (gt_M_init_0 80)
theorem d_M_init_81 : decode b_M_init 81 = .ok (.bipush 13, 2) := dc_bipush (gt_M_init_0 81) (gt_M_init_0 82) rfl
theorem d_M_init_83 : decode b_M_init 83 = .ok (.bipush 111, 2) := dc_bipush (gt_M_init_0 83) (gt_M_init_0 84) rfl
theorem d_M_init_85 : decode b_M_init 85 = .ok (.bastore, 1) := dc_bastore (gt_M_init_0 85)
theorem d_M_init_86 : decode b_M_init 86 = .ok (.dup, 1) := dc_dup (gt_M_init_0 86)
theorem d_M_init_87 : decode b_M_init 87 = .ok (.bipush 14, 2) := dc_bipush (gt_M_init_0 87) (gt_M_init_0 88) rfl
theorem d_M_init_89 : decode b_M_init 89 = .ok (.iconst 5, 1) := dc_iconst_5 (gt_M_init_0 89)
theorem d_M_init_90 : decode b_M_init 90 = .ok (.bastore, 1) := dc_bastore (gt_M_init_0 90)
theorem d_M_init_91 : decode b_M_init 91 = .ok (.dup, 1) := dc_dup (gt_M_init_0 91)
theorem d_M_init_92 : decode b_M_init 92 = .ok (.bipush 15, 2) := dc_bipush (gt_M_init_0 92) (gt_M_init_0 93) rfl
theorem d_M_init_94 : decode b_M_init 94 = .ok (.bipush 98, 2) := dc_bipush (gt_M_init_0 94) (gt_M_init_0 95) rfl
theorem d_M_init_96 : decode b_M_init 96 = .ok (.bastore, 1) := dc_bastore (gt_M_init_0 96)
theorem d_M_init_97 : decode b_M_init 97 = .ok (.dup, 1) := dc_dup (gt_M_init_0 97)
theorem d_M_init_98 : decode b_M_init 98 = .ok (.bipush 16, 2) := dc_bipush (gt_M_init_0 98) (gt_M_init_0 99) rfl
theorem d_M_init_100 : decode b_M_init 100 = .ok (.bipush 101, 2) := dc_bipush (gt_M_init_1 0) (gt_M_init_1 1) rfl
theorem d_M_init_102 : decode b_M_init 102 = .ok (.bastore, 1) := dc_bastore (gt_M_init_1 2)
theorem d_M_init_103 : decode b_M_init 103 = .ok (.dup, 1) := dc_dup (gt_M_init_1 3)
theorem d_M_init_104 : decode b_M_init 104 = .ok (.bipush 17, 2) := dc_bipush (gt_M_init_1 4) (gt_M_init_1 5) rfl
theorem d_M_init_106 : decode b_M_init 106 = .ok (.bipush 103, 2) := dc_bipush (gt_M_init_1 6) (gt_M_init_1 7) rfl
theorem d_M_init_108 : decode b_M_init 108 = .ok (.bastore, 1) := dc_bastore (gt_M_init_1 8)
theorem d_M_init_109 : decode b_M_init 109 = .ok (.dup, 1) := dc_dup (gt_M_init_1 9)
theorem d_M_init_110 : decode b_M_init 110 = .ok (.bipush 18, 2) := dc_bipush (gt_M_init_1 10) (gt_M_init_1 11) rfl
theorem d_M_init_112 : decode b_M_init 112 = .ok (.bipush 105, 2) := dc_bipush (gt_M_init_1 12) (gt_M_init_1 13) rfl
theorem d_M_init_114 : decode b_M_init 114 = .ok (.bastore, 1) := dc_bastore (gt_M_init_1 14)
theorem d_M_init_115 : decode b_M_init 115 = .ok (.dup, 1) := dc_dup (gt_M_init_1 15)
theorem d_M_init_116 : decode b_M_init 116 = .ok (.bipush 19, 2) := dc_bipush (gt_M_init_1 16) (gt_M_init_1 17) rfl
theorem d_M_init_118 : decode b_M_init 118 = .ok (.bipush 110, 2) := dc_bipush (gt_M_init_1 18) (gt_M_init_1 19) rfl
theorem d_M_init_120 : decode b_M_init 120 = .ok (.bastore, 1) := dc_bastore (gt_M_init_1 20)
theorem d_M_init_121 : decode b_M_init 121 = .ok (.dup, 1) := dc_dup (gt_M_init_1 21)
theorem d_M_init_122 : decode b_M_init 122 = .ok (.bipush 20, 2) := dc_bipush (gt_M_init_1 22) (gt_M_init_1 23) rfl
theorem d_M_init_124 : decode b_M_init 124 = .ok (.iconst 4, 1) := dc_iconst_4 (gt_M_init_1 24)
theorem d_M_init_125 : decode b_M_init 125 = .ok (.bastore, 1) := dc_bastore (gt_M_init_1 25)
theorem d_M_init_126 : decode b_M_init 126 = .ok (.dup, 1) := dc_dup (gt_M_init_1 26)
theorem d_M_init_127 : decode b_M_init 127 = .ok (.bipush 21, 2) := dc_bipush (gt_M_init_1 27) (gt_M_init_1 28) rfl
theorem d_M_init_129 : decode b_M_init 129 = .ok (.bipush 99, 2) := dc_bipush (gt_M_init_1 29) (gt_M_init_1 30) rfl
theorem d_M_init_131 : decode b_M_init 131 = .ok (.bastore, 1) := dc_bastore (gt_M_init_1 31)
theorem d_M_init_132 : decode b_M_init 132 = .ok (.dup, 1) := dc_dup (gt_M_init_1 32)
theorem d_M_init_133 : decode b_M_init 133 = .ok (.bipush 22, 2) := dc_bipush (gt_M_init_1 33) (gt_M_init_1 34) rfl
theorem d_M_init_135 : decode b_M_init 135 = .ok (.bipush 97, 2) := dc_bipush (gt_M_init_1 35) (gt_M_init_1 36) rfl
theorem d_M_init_137 : decode b_M_init 137 = .ok (.bastore, 1) := dc_bastore (gt_M_init_1 37)
theorem d_M_init_138 : decode b_M_init 138 = .ok (.dup, 1) := dc_dup (gt_M_init_1 38)
theorem d_M_init_139 : decode b_M_init 139 = .ok (.bipush 23, 2) := dc_bipush (gt_M_init_1 39) (gt_M_init_1 40) rfl
theorem d_M_init_141 : decode b_M_init 141 = .ok (.bipush 115, 2) := dc_bipush (gt_M_init_1 41) (gt_M_init_1 42) rfl
theorem d_M_init_143 : decode b_M_init 143 = .ok (.bastore, 1) := dc_bastore (gt_M_init_1 43)
theorem d_M_init_144 : decode b_M_init 144 = .ok (.dup, 1) := dc_dup (gt_M_init_1 44)
theorem d_M_init_145 : decode b_M_init 145 = .ok (.bipush 24, 2) := dc_bipush (gt_M_init_1 45) (gt_M_init_1 46) rfl
theorem d_M_init_147 : decode b_M_init 147 = .ok (.bipush 101, 2) := dc_bipush (gt_M_init_1 47) (gt_M_init_1 48) rfl
theorem d_M_init_149 : decode b_M_init 149 = .ok (.bastore, 1) := dc_bastore (gt_M_init_1 49)
theorem d_M_init_150 : decode b_M_init 150 = .ok (.dup, 1) := dc_dup (gt_M_init_1 50)
theorem d_M_init_151 : decode b_M_init 151 = .ok (.bipush 25, 2) := dc_bipush (gt_M_init_1 51) (gt_M_init_1 52) rfl
theorem d_M_init_153 : decode b_M_init 153 = .ok (.iconst 5, 1) := dc_iconst_5 (gt_M_init_1 53)
theorem d_M_init_154 : decode b_M_init 154 = .ok (.bastore, 1) := dc_bastore (gt_M_init_1 54)
theorem d_M_init_155 : decode b_M_init 155 = .ok (.dup, 1) := dc_dup (gt_M_init_1 55)
theorem d_M_init_156 : decode b_M_init 156 = .ok (.bipush 26, 2) := dc_bipush (gt_M_init_1 56) (gt_M_init_1 57) rfl
theorem d_M_init_158 : decode b_M_init 158 = .ok (.bipush 99, 2) := dc_bipush (gt_M_init_1 58) (gt_M_init_1 59) rfl
theorem d_M_init_160 : decode b_M_init 160 = .ok (.bastore, 1) := dc_bastore (gt_M_init_1 60)
theorem d_M_init_161 : decode b_M_init 161 = .ok (.dup, 1) := dc_dup (gt_M_init_1 61)
theorem d_M_init_162 : decode b_M_init 162 = .ok (.bipush 27, 2) := dc_bipush (gt_M_init_1 62) (gt_M_init_1 63) rfl
theorem d_M_init_164 : decode b_M_init 164 = .ok (.bipush 97, 2) := dc_bipush (gt_M_init_1 64) (gt_M_init_1 65) rfl
theorem d_M_init_166 : decode b_M_init 166 = .ok (.bastore, 1) := dc_bastore (gt_M_init_1 66)
theorem d_M_init_167 : decode b_M_init 167 = .ok (.dup, 1) := dc_dup (gt_M_init_1 67)
theorem d_M_init_168 : decode b_M_init 168 = .ok (.bipush 28, 2) := dc_bipush (gt_M_init_1 68) (gt_M_init_1 69) rfl
theorem d_M_init_170 : decode b_M_init 170 = .ok (.bipush 116, 2) := dc_bipush (gt_M_init_1 70) (gt_M_init_1 71) rfl
theorem d_M_init_172 : decode b_M_init 172 = .ok (.bastore, 1) := dc_bastore (gt_M_init_1 72)
theorem d_M_init_173 : decode b_M_init 173 = .ok (.dup, 1) := dc_dup (gt_M_init_1 73)
theorem d_M_init_174 : decode b_M_init 174 = .ok (.bipush 29, 2) := dc_bipush (gt_M_init_1 74) (gt_M_init_1 75) rfl
theorem d_M_init_176 : decode b_M_init 176 = .ok (.bipush 99, 2) := dc_bipush (gt_M_init_1 76) (gt_M_init_1 77) rfl
theorem d_M_init_178 : decode b_M_init 178 = .ok (.bastore, 1) := dc_bastore (gt_M_init_1 78)
theorem d_M_init_179 : decode b_M_init 179 = .ok (.dup, 1) := dc_dup (gt_M_init_1 79)
theorem d_M_init_180 : decode b_M_init 180 = .ok (.bipush 30, 2) := dc_bipush (gt_M_init_1 80) (gt_M_init_1 81) rfl
theorem d_M_init_182 : decode b_M_init 182 = .ok (.bipush 104, 2) := dc_bipush (gt_M_init_1 82) (gt_M_init_1 83) rfl
theorem d_M_init_184 : decode b_M_init 184 = .ok (.bastore, 1) := dc_bastore (gt_M_init_1 84)
theorem d_M_init_185 : decode b_M_init 185 = .ok (.dup, 1) := dc_dup (gt_M_init_1 85)
theorem d_M_init_186 : decode b_M_init 186 = .ok (.bipush 31, 2) := dc_bipush (gt_M_init_1 86) (gt_M_init_1 87) rfl
theorem d_M_init_188 : decode b_M_init 188 = .ok (.iconst 3, 1) := dc_iconst_3 (gt_M_init_1 88)
theorem d_M_init_189 : decode b_M_init 189 = .ok (.bastore, 1) := dc_bastore (gt_M_init_1 89)
theorem d_M_init_190 : decode b_M_init 190 = .ok (.dup, 1) := dc_dup (gt_M_init_1 90)
theorem d_M_init_191 : decode b_M_init 191 = .ok (.bipush 32, 2) := dc_bipush (gt_M_init_1 91) (gt_M_init_1 92) rfl
theorem d_M_init_193 : decode b_M_init 193 = .ok (.bipush 100, 2) := dc_bipush (gt_M_init_1 93) (gt_M_init_1 94) rfl
theorem d_M_init_195 : decode b_M_init 195 = .ok (.bastore, 1) := dc_bastore (gt_M_init_1 95)
theorem d_M_init_196 : decode b_M_init 196 = .ok (.dup, 1) := dc_dup (gt_M_init_1 96)
theorem d_M_init_197 : decode b_M_init 197 = .ok (.bipush 33, 2) := dc_bipush (gt_M_init_1 97) (gt_M_init_1 98) rfl
theorem d_M_init_199 : decode b_M_init 199 = .ok (.bipush 105, 2) := dc_bipush (gt_M_init_1 99) (gt_M_init_2 0) rfl
theorem d_M_init_201 : decode b_M_init 201 = .ok (.bastore, 1) := dc_bastore (gt_M_init_2 1)
theorem d_M_init_202 : decode b_M_init 202 = .ok (.dup, 1) := dc_dup (gt_M_init_2 2)
theorem d_M_init_203 : decode b_M_init 203 = .ok (.bipush 34, 2) := dc_bipush (gt_M_init_2 3) (gt_M_init_2 4) rfl
theorem d_M_init_205 : decode b_M_init 205 = .ok (.bipush 118, 2) := dc_bipush (gt_M_init_2 5) (gt_M_init_2 6) rfl
theorem d_M_init_207 : decode b_M_init 207 = .ok (.bastore, 1) := dc_bastore (gt_M_init_2 7)
theorem d_M_init_208 : decode b_M_init 208 = .ok (.dup, 1) := dc_dup (gt_M_init_2 8)
theorem d_M_init_209 : decode b_M_init 209 = .ok (.bipush 35, 2) := dc_bipush (gt_M_init_2 9) (gt_M_init_2 10) rfl
theorem d_M_init_211 : decode b_M_init 211 = .ok (.iconst 3, 1) := dc_iconst_3 (gt_M_init_2 11)
theorem d_M_init_212 : decode b_M_init 212 = .ok (.bastore, 1) := dc_bastore (gt_M_init_2 12)
theorem d_M_init_213 : decode b_M_init 213 = .ok (.dup, 1) := dc_dup (gt_M_init_2 13)
theorem d_M_init_214 : decode b_M_init 214 = .ok (.bipush 36, 2) := dc_bipush (gt_M_init_2 14) (gt_M_init_2 15) rfl
theorem d_M_init_216 : decode b_M_init 216 = .ok (.bipush 101, 2) := dc_bipush (gt_M_init_2 16) (gt_M_init_2 17) rfl
theorem d_M_init_218 : decode b_M_init 218 = .ok (.bastore, 1) := dc_bastore (gt_M_init_2 18)
theorem d_M_init_219 : decode b_M_init 219 = .ok (.dup, 1) := dc_dup (gt_M_init_2 19)
theorem d_M_init_220 : decode b_M_init 220 = .ok (.bipush 37, 2) := dc_bipush (gt_M_init_2 20) (gt_M_init_2 21) rfl
theorem d_M_init_222 : decode b_M_init 222 = .ok (.bipush 110, 2) := dc_bipush (gt_M_init_2 22) (gt_M_init_2 23) rfl
theorem d_M_init_224 : decode b_M_init 224 = .ok (.bastore, 1) := dc_bastore (gt_M_init_2 24)
theorem d_M_init_225 : decode b_M_init 225 = .ok (.dup, 1) := dc_dup (gt_M_init_2 25)
theorem d_M_init_226 : decode b_M_init 226 = .ok (.bipush 38, 2) := dc_bipush (gt_M_init_2 26) (gt_M_init_2 27) rfl
theorem d_M_init_228 : decode b_M_init 228 = .ok (.bipush 100, 2) := dc_bipush (gt_M_init_2 28) (gt_M_init_2 29) rfl
theorem d_M_init_230 : decode b_M_init 230 = .ok (.bastore, 1) := dc_bastore (gt_M_init_2 30)
theorem d_M_init_231 : decode b_M_init 231 = .ok (.dup, 1) := dc_dup (gt_M_init_2 31)
theorem d_M_init_232 : decode b_M_init 232 = .ok (.bipush 39, 2) := dc_bipush (gt_M_init_2 32) (gt_M_init_2 33) rfl
theorem d_M_init_234 : decode b_M_init 234 = .ok (.iconst 3, 1) := dc_iconst_3 (gt_M_init_2 34)
theorem d_M_init_235 : decode b_M_init 235 = .ok (.bastore, 1) := dc_bastore (gt_M_init_2 35)
theorem d_M_init_236 : decode b_M_init 236 = .ok (.dup, 1) := dc_dup (gt_M_init_2 36)
theorem d_M_init_237 : decode b_M_init 237 = .ok (.bipush 40, 2) := dc_bipush (gt_M_init_2 37) (gt_M_init_2 38) rfl
theorem d_M_init_239 : decode b_M_init 239 = .ok (.bipush 102, 2) := dc_bipush (gt_M_init_2 39) (gt_M_init_2 40) rfl
theorem d_M_init_241 : decode b_M_init 241 = .ok (.bastore, 1) := dc_bastore (gt_M_init_2 41)
theorem d_M_init_242 : decode b_M_init 242 = .ok (.dup, 1) := dc_dup (gt_M_init_2 42)
theorem d_M_init_243 : decode b_M_init 243 = .ok (.bipush 41, 2) := dc_bipush (gt_M_init_2 43) (gt_M_init_2 44) rfl
theorem d_M_init_245 : decode b_M_init 245 = .ok (.bipush 117, 2) := dc_bipush (gt_M_init_2 45) (gt_M_init_2 46) rfl
theorem d_M_init_247 : decode b_M_init 247 = .ok (.bastore, 1) := dc_bastore (gt_M_init_2 47)
theorem d_M_init_248 : decode b_M_init 248 = .ok (.dup, 1) := dc_dup (gt_M_init_2 48)
theorem d_M_init_249 : decode b_M_init 249 = .ok (.bipush 42, 2) := dc_bipush (gt_M_init_2 49) (gt_M_init_2 50) rfl
theorem d_M_init_251 : decode b_M_init 251 = .ok (.bipush 110, 2) := dc_bipush (gt_M_init_2 51) (gt_M_init_2 52) rfl
theorem d_M_init_253 : decode b_M_init 253 = .ok (.bastore, 1) := dc_bastore (gt_M_init_2 53)
theorem d_M_init_254 : decode b_M_init 254 = .ok (.dup, 1) := dc_dup (gt_M_init_2 54)
theorem d_M_init_255 : decode b_M_init 255 = .ok (.bipush 43, 2) := dc_bipush (gt_M_init_2 55) (gt_M_init_2 56) rfl
theorem d_M_init_257 : decode b_M_init 257 = .ok (.iconst 2, 1) := dc_iconst_2 (gt_M_init_2 57)
theorem d_M_init_258 : decode b_M_init 258 = .ok (.bastore, 1) := dc_bastore (gt_M_init_2 58)
theorem d_M_init_259 : decode b_M_init 259 = .ok (.dup, 1) := dc_dup (gt_M_init_2 59)
theorem d_M_init_260 : decode b_M_init 260 = .ok (.bipush 44, 2) := dc_bipush (gt_M_init_2 60) (gt_M_init_2 61) rfl
theorem d_M_init_262 : decode b_M_init 262 = .ok (.bipush 105, 2) := dc_bipush (gt_M_init_2 62) (gt_M_init_2 63) rfl
theorem d_M_init_264 : decode b_M_init 264 = .ok (.bastore, 1) := dc_bastore (gt_M_init_2 64)
theorem d_M_init_265 : decode b_M_init 265 = .ok (.dup, 1) := dc_dup (gt_M_init_2 65)
theorem d_M_init_266 : decode b_M_init 266 = .ok (.bipush 45, 2) := dc_bipush (gt_M_init_2 66) (gt_M_init_2 67) rfl
theorem d_M_init_268 : decode b_M_init 268 = .ok (.bipush 102, 2) := dc_bipush (gt_M_init_2 68) (gt_M_init_2 69) rfl
theorem d_M_init_270 : decode b_M_init 270 = .ok (.bastore, 1) := dc_bastore (gt_M_init_2 70)
theorem d_M_init_271 : decode b_M_init 271 = .ok (.dup, 1) := dc_dup (gt_M_init_2 71)
theorem d_M_init_272 : decode b_M_init 272 = .ok (.bipush 46, 2) := dc_bipush (gt_M_init_2 72) (gt_M_init_2 73) rfl
theorem d_M_init_274 : decode b_M_init 274 = .ok (.iconst 3, 1) := dc_iconst_3 (gt_M_init_2 74)
theorem d_M_init_275 : decode b_M_init 275 = .ok (.bastore, 1) := dc_bastore (gt_M_init_2 75)
theorem d_M_init_276 : decode b_M_init 276 = .ok (.dup, 1) := dc_dup (gt_M_init_2 76)
theorem d_M_init_277 : decode b_M_init 277 = .ok (.bipush 47, 2) := dc_bipush (gt_M_init_2 77) (gt_M_init_2 78) rfl
theorem d_M_init_279 : decode b_M_init 279 = .ok (.bipush 110, 2) := dc_bipush (gt_M_init_2 79) (gt_M_init_2 80) rfl
theorem d_M_init_281 : decode b_M_init 281 = .ok (.bastore, 1) := dc_bastore (gt_M_init_2 81)
theorem d_M_init_282 : decode b_M_init 282 = .ok (.dup, 1) := dc_dup (gt_M_init_2 82)
theorem d_M_init_283 : decode b_M_init 283 = .ok (.bipush 48, 2) := dc_bipush (gt_M_init_2 83) (gt_M_init_2 84) rfl
theorem d_M_init_285 : decode b_M_init 285 = .ok (.bipush 111, 2) := dc_bipush (gt_M_init_2 85) (gt_M_init_2 86) rfl
theorem d_M_init_287 : decode b_M_init 287 = .ok (.bastore, 1) := dc_bastore (gt_M_init_2 87)
theorem d_M_init_288 : decode b_M_init 288 = .ok (.dup, 1) := dc_dup (gt_M_init_2 88)
theorem d_M_init_289 : decode b_M_init 289 = .ok (.bipush 49, 2) := dc_bipush (gt_M_init_2 89) (gt_M_init_2 90) rfl
theorem d_M_init_291 : decode b_M_init 291 = .ok (.bipush 116, 2) := dc_bipush (gt_M_init_2 91) (gt_M_init_2 92) rfl
theorem d_M_init_293 : decode b_M_init 293 = .ok (.bastore, 1) := dc_bastore (gt_M_init_2 93)
theorem d_M_init_294 : decode b_M_init 294 = .ok (.dup, 1) := dc_dup (gt_M_init_2 94)
theorem d_M_init_295 : decode b_M_init 295 = .ok (.bipush 50, 2) := dc_bipush (gt_M_init_2 95) (gt_M_init_2 96) rfl
theorem d_M_init_297 : decode b_M_init 297 = .ok (.iconst 2, 1) := dc_iconst_2 (gt_M_init_2 97)
theorem d_M_init_298 : decode b_M_init 298 = .ok (.bastore, 1) := dc_bastore (gt_M_init_2 98)
theorem d_M_init_299 : decode b_M_init 299 = .ok (.dup, 1) := dc_dup (gt_M_init_2 99)
theorem d_M_init_300 : decode b_M_init 300 = .ok (.bipush 51, 2) := dc_bipush (gt_M_init_3 0) (gt_M_init_3 1) rfl
theorem d_M_init_302 : decode b_M_init 302 = .ok (.bipush 111, 2) := dc_bipush (gt_M_init_3 2) (gt_M_init_3 3) rfl
theorem d_M_init_304 : decode b_M_init 304 = .ok (.bastore, 1) := dc_bastore (gt_M_init_3 4)
theorem d_M_init_305 : decode b_M_init 305 = .ok (.dup, 1) := dc_dup (gt_M_init_3 5)
theorem d_M_init_306 : decode b_M_init 306 = .ok (.bipush 52, 2) := dc_bipush (gt_M_init_3 6) (gt_M_init_3 7) rfl
theorem d_M_init_308 : decode b_M_init 308 = .ok (.bipush 102, 2) := dc_bipush (gt_M_init_3 8) (gt_M_init_3 9) rfl
theorem d_M_init_310 : decode b_M_init 310 = .ok (.bastore, 1) := dc_bastore (gt_M_init_3 10)
theorem d_M_init_311 : decode b_M_init 311 = .ok (.dup, 1) := dc_dup (gt_M_init_3 11)
theorem d_M_init_312 : decode b_M_init 312 = .ok (.bipush 53, 2) := dc_bipush (gt_M_init_3 12) (gt_M_init_3 13) rfl
theorem d_M_init_314 : decode b_M_init 314 = .ok (.bipush 6, 2) := dc_bipush (gt_M_init_3 14) (gt_M_init_3 15) rfl
theorem d_M_init_316 : decode b_M_init 316 = .ok (.bastore, 1) := dc_bastore (gt_M_init_3 16)
theorem d_M_init_317 : decode b_M_init 317 = .ok (.dup, 1) := dc_dup (gt_M_init_3 17)
theorem d_M_init_318 : decode b_M_init 318 = .ok (.bipush 54, 2) := dc_bipush (gt_M_init_3 18) (gt_M_init_3 19) rfl
theorem d_M_init_320 : decode b_M_init 320 = .ok (.bipush 111, 2) := dc_bipush (gt_M_init_3 20) (gt_M_init_3 21) rfl
theorem d_M_init_322 : decode b_M_init 322 = .ok (.bastore, 1) := dc_bastore (gt_M_init_3 22)
theorem d_M_init_323 : decode b_M_init 323 = .ok (.dup, 1) := dc_dup (gt_M_init_3 23)
theorem d_M_init_324 : decode b_M_init 324 = .ok (.bipush 55, 2) := dc_bipush (gt_M_init_3 24) (gt_M_init_3 25) rfl
theorem d_M_init_326 : decode b_M_init 326 = .ok (.bipush 114, 2) := dc_bipush (gt_M_init_3 26) (gt_M_init_3 27) rfl
theorem d_M_init_328 : decode b_M_init 328 = .ok (.bastore, 1) := dc_bastore (gt_M_init_3 28)
theorem d_M_init_329 : decode b_M_init 329 = .ok (.dup, 1) := dc_dup (gt_M_init_3 29)
theorem d_M_init_330 : decode b_M_init 330 = .ok (.bipush 56, 2) := dc_bipush (gt_M_init_3 30) (gt_M_init_3 31) rfl
theorem d_M_init_332 : decode b_M_init 332 = .ok (.bipush 101, 2) := dc_bipush (gt_M_init_3 32) (gt_M_init_3 33) rfl
theorem d_M_init_334 : decode b_M_init 334 = .ok (.bastore, 1) := dc_bastore (gt_M_init_3 34)
theorem d_M_init_335 : decode b_M_init 335 = .ok (.dup, 1) := dc_dup (gt_M_init_3 35)
theorem d_M_init_336 : decode b_M_init 336 = .ok (.bipush 57, 2) := dc_bipush (gt_M_init_3 36) (gt_M_init_3 37) rfl
theorem d_M_init_338 : decode b_M_init 338 = .ok (.bipush 108, 2) := dc_bipush (gt_M_init_3 38) (gt_M_init_3 39) rfl
theorem d_M_init_340 : decode b_M_init 340 = .ok (.bastore, 1) := dc_bastore (gt_M_init_3 40)
theorem d_M_init_341 : decode b_M_init 341 = .ok (.dup, 1) := dc_dup (gt_M_init_3 41)
theorem d_M_init_342 : decode b_M_init 342 = .ok (.bipush 58, 2) := dc_bipush (gt_M_init_3 42) (gt_M_init_3 43) rfl
theorem d_M_init_344 : decode b_M_init 344 = .ok (.bipush 115, 2) := dc_bipush (gt_M_init_3 44) (gt_M_init_3 45) rfl
theorem d_M_init_346 : decode b_M_init 346 = .ok (.bastore, 1) := dc_bastore (gt_M_init_3 46)
theorem d_M_init_347 : decode b_M_init 347 = .ok (.dup, 1) := dc_dup (gt_M_init_3 47)
theorem d_M_init_348 : decode b_M_init 348 = .ok (.bipush 59, 2) := dc_bipush (gt_M_init_3 48) (gt_M_init_3 49) rfl
theorem d_M_init_350 : decode b_M_init 350 = .ok (.bipush 101, 2) := dc_bipush (gt_M_init_3 50) (gt_M_init_3 51) rfl
theorem d_M_init_352 : decode b_M_init 352 = .ok (.bastore, 1) := dc_bastore (gt_M_init_3 52)
theorem d_M_init_353 : decode b_M_init 353 = .ok (.dup, 1) := dc_dup (gt_M_init_3 53)
theorem d_M_init_354 : decode b_M_init 354 = .ok (.bipush 60, 2) := dc_bipush (gt_M_init_3 54) (gt_M_init_3 55) rfl
theorem d_M_init_356 : decode b_M_init 356 = .ok (.bipush 7, 2) := dc_bipush (gt_M_init_3 56) (gt_M_init_3 57) rfl
theorem d_M_init_358 : decode b_M_init 358 = .ok (.bastore, 1) := dc_bastore (gt_M_init_3 58)
theorem d_M_init_359 : decode b_M_init 359 = .ok (.dup, 1) := dc_dup (gt_M_init_3 59)
theorem d_M_init_360 : decode b_M_init 360 = .ok (.bipush 61, 2) := dc_bipush (gt_M_init_3 60) (gt_M_init_3 61) rfl
theorem d_M_init_362 : decode b_M_init 362 = .ok (.bipush 114, 2) := dc_bipush (gt_M_init_3 62) (gt_M_init_3 63) rfl
theorem d_M_init_364 : decode b_M_init 364 = .ok (.bastore, 1) := dc_bastore (gt_M_init_3 64)
theorem d_M_init_365 : decode b_M_init 365 = .ok (.dup, 1) := dc_dup (gt_M_init_3 65)
theorem d_M_init_366 : decode b_M_init 366 = .ok (.bipush 62, 2) := dc_bipush (gt_M_init_3 66) (gt_M_init_3 67) rfl
theorem d_M_init_368 : decode b_M_init 368 = .ok (.bipush 101, 2) := dc_bipush (gt_M_init_3 68) (gt_M_init_3 69) rfl
theorem d_M_init_370 : decode b_M_init 370 = .ok (.bastore, 1) := dc_bastore (gt_M_init_3 70)
theorem d_M_init_371 : decode b_M_init 371 = .ok (.dup, 1) := dc_dup (gt_M_init_3 71)
theorem d_M_init_372 : decode b_M_init 372 = .ok (.bipush 63, 2) := dc_bipush (gt_M_init_3 72) (gt_M_init_3 73) rfl
theorem d_M_init_374 : decode b_M_init 374 = .ok (.bipush 99, 2) := dc_bipush (gt_M_init_3 74) (gt_M_init_3 75) rfl
theorem d_M_init_376 : decode b_M_init 376 = .ok (.bastore, 1) := dc_bastore (gt_M_init_3 76)
theorem d_M_init_377 : decode b_M_init 377 = .ok (.dup, 1) := dc_dup (gt_M_init_3 77)
theorem d_M_init_378 : decode b_M_init 378 = .ok (.bipush 64, 2) := dc_bipush (gt_M_init_3 78) (gt_M_init_3 79) rfl
theorem d_M_init_380 : decode b_M_init 380 = .ok (.bipush 101, 2) := dc_bipush (gt_M_init_3 80) (gt_M_init_3 81) rfl
theorem d_M_init_382 : decode b_M_init 382 = .ok (.bastore, 1) := dc_bastore (gt_M_init_3 82)
theorem d_M_init_383 : decode b_M_init 383 = .ok (.dup, 1) := dc_dup (gt_M_init_3 83)
theorem d_M_init_384 : decode b_M_init 384 = .ok (.bipush 65, 2) := dc_bipush (gt_M_init_3 84) (gt_M_init_3 85) rfl
theorem d_M_init_386 : decode b_M_init 386 = .ok (.bipush 105, 2) := dc_bipush (gt_M_init_3 86) (gt_M_init_3 87) rfl
theorem d_M_init_388 : decode b_M_init 388 = .ok (.bastore, 1) := dc_bastore (gt_M_init_3 88)
theorem d_M_init_389 : decode b_M_init 389 = .ok (.dup, 1) := dc_dup (gt_M_init_3 89)
theorem d_M_init_390 : decode b_M_init 390 = .ok (.bipush 66, 2) := dc_bipush (gt_M_init_3 90) (gt_M_init_3 91) rfl
theorem d_M_init_392 : decode b_M_init 392 = .ok (.bipush 118, 2) := dc_bipush (gt_M_init_3 92) (gt_M_init_3 93) rfl
theorem d_M_init_394 : decode b_M_init 394 = .ok (.bastore, 1) := dc_bastore (gt_M_init_3 94)
theorem d_M_init_395 : decode b_M_init 395 = .ok (.dup, 1) := dc_dup (gt_M_init_3 95)
theorem d_M_init_396 : decode b_M_init 396 = .ok (.bipush 67, 2) := dc_bipush (gt_M_init_3 96) (gt_M_init_3 97) rfl
theorem d_M_init_398 : decode b_M_init 398 = .ok (.bipush 101, 2) := dc_bipush (gt_M_init_3 98) (gt_M_init_3 99) rfl
theorem d_M_init_400 : decode b_M_init 400 = .ok (.bastore, 1) := dc_bastore (gt_M_init_4 0)
theorem d_M_init_401 : decode b_M_init 401 = .ok (.dup, 1) := dc_dup (gt_M_init_4 1)
theorem d_M_init_402 : decode b_M_init 402 = .ok (.bipush 68, 2) := dc_bipush (gt_M_init_4 2) (gt_M_init_4 3) rfl
theorem d_M_init_404 : decode b_M_init 404 = .ok (.iconst 3, 1) := dc_iconst_3 (gt_M_init_4 4)
theorem d_M_init_405 : decode b_M_init 405 = .ok (.bastore, 1) := dc_bastore (gt_M_init_4 5)
theorem d_M_init_406 : decode b_M_init 406 = .ok (.dup, 1) := dc_dup (gt_M_init_4 6)
theorem d_M_init_407 : decode b_M_init 407 = .ok (.bipush 69, 2) := dc_bipush (gt_M_init_4 7) (gt_M_init_4 8) rfl
theorem d_M_init_409 : decode b_M_init 409 = .ok (.bipush 114, 2) := dc_bipush (gt_M_init_4 9) (gt_M_init_4 10) rfl
theorem d_M_init_411 : decode b_M_init 411 = .ok (.bastore, 1) := dc_bastore (gt_M_init_4 11)
theorem d_M_init_412 : decode b_M_init 412 = .ok (.dup, 1) := dc_dup (gt_M_init_4 12)
theorem d_M_init_413 : decode b_M_init 413 = .ok (.bipush 70, 2) := dc_bipush (gt_M_init_4 13) (gt_M_init_4 14) rfl
theorem d_M_init_415 : decode b_M_init 415 = .ok (.bipush 101, 2) := dc_bipush (gt_M_init_4 15) (gt_M_init_4 16) rfl
theorem d_M_init_417 : decode b_M_init 417 = .ok (.bastore, 1) := dc_bastore (gt_M_init_4 17)
theorem d_M_init_418 : decode b_M_init 418 = .ok (.dup, 1) := dc_dup (gt_M_init_4 18)
theorem d_M_init_419 : decode b_M_init 419 = .ok (.bipush 71, 2) := dc_bipush (gt_M_init_4 19) (gt_M_init_4 20) rfl
theorem d_M_init_421 : decode b_M_init 421 = .ok (.bipush 109, 2) := dc_bipush (gt_M_init_4 21) (gt_M_init_4 22) rfl
theorem d_M_init_423 : decode b_M_init 423 = .ok (.bastore, 1) := dc_bastore (gt_M_init_4 23)
theorem d_M_init_424 : decode b_M_init 424 = .ok (.dup, 1) := dc_dup (gt_M_init_4 24)
theorem d_M_init_425 : decode b_M_init 425 = .ok (.bipush 72, 2) := dc_bipush (gt_M_init_4 25) (gt_M_init_4 26) rfl
theorem d_M_init_427 : decode b_M_init 427 = .ok (.iconst 4, 1) := dc_iconst_4 (gt_M_init_4 27)
theorem d_M_init_428 : decode b_M_init 428 = .ok (.bastore, 1) := dc_bastore (gt_M_init_4 28)
theorem d_M_init_429 : decode b_M_init 429 = .ok (.dup, 1) := dc_dup (gt_M_init_4 29)
theorem d_M_init_430 : decode b_M_init 430 = .ok (.bipush 73, 2) := dc_bipush (gt_M_init_4 30) (gt_M_init_4 31) rfl
theorem d_M_init_432 : decode b_M_init 432 = .ok (.bipush 119, 2) := dc_bipush (gt_M_init_4 32) (gt_M_init_4 33) rfl
theorem d_M_init_434 : decode b_M_init 434 = .ok (.bastore, 1) := dc_bastore (gt_M_init_4 34)
theorem d_M_init_435 : decode b_M_init 435 = .ok (.dup, 1) := dc_dup (gt_M_init_4 35)
theorem d_M_init_436 : decode b_M_init 436 = .ok (.bipush 74, 2) := dc_bipush (gt_M_init_4 36) (gt_M_init_4 37) rfl
theorem d_M_init_438 : decode b_M_init 438 = .ok (.bipush 104, 2) := dc_bipush (gt_M_init_4 38) (gt_M_init_4 39) rfl
theorem d_M_init_440 : decode b_M_init 440 = .ok (.bastore, 1) := dc_bastore (gt_M_init_4 40)
theorem d_M_init_441 : decode b_M_init 441 = .ok (.dup, 1) := dc_dup (gt_M_init_4 41)
theorem d_M_init_442 : decode b_M_init 442 = .ok (.bipush 75, 2) := dc_bipush (gt_M_init_4 42) (gt_M_init_4 43) rfl
theorem d_M_init_444 : decode b_M_init 444 = .ok (.bipush 101, 2) := dc_bipush (gt_M_init_4 44) (gt_M_init_4 45) rfl
theorem d_M_init_446 : decode b_M_init 446 = .ok (.bastore, 1) := dc_bastore (gt_M_init_4 46)
theorem d_M_init_447 : decode b_M_init 447 = .ok (.dup, 1) := dc_dup (gt_M_init_4 47)
theorem d_M_init_448 : decode b_M_init 448 = .ok (.bipush 76, 2) := dc_bipush (gt_M_init_4 48) (gt_M_init_4 49) rfl
theorem d_M_init_450 : decode b_M_init 450 = .ok (.bipush 110, 2) := dc_bipush (gt_M_init_4 50) (gt_M_init_4 51) rfl
theorem d_M_init_452 : decode b_M_init 452 = .ok (.bastore, 1) := dc_bastore (gt_M_init_4 52)
theorem d_M_init_453 : decode b_M_init 453 = .ok (.putfield 7, 3) := dc_putfield (gt_M_init_4 53) (gt_M_init_4 54) (gt_M_init_4 55) rfl
theorem d_M_init_456 : decode b_M_init 456 = .ok (.aload_n 0, 1) := dc_aload0 (gt_M_init_4 56)
theorem d_M_init_457 : decode b_M_init 457 = .ok (.sipush 161, 3) := dc_sipush (gt_M_init_4 57) (gt_M_init_4 58) (gt_M_init_4 59) (by decide)
theorem d_M_init_460 : decode b_M_init 460 = .ok (.newarray .byte, 2) := dc_newarray (gt_M_init_4 60) (gt_M_init_4 61) (fun _ => rfl)
theorem d_M_init_462 : decode b_M_init 462 = .ok (.dup, 1) := dc_dup (gt_M_init_4 62)
theorem d_M_init_463 : decode b_M_init 463 = .ok (.iconst 0, 1) := dc_iconst_0 (gt_M_init_4 63)
theorem d_M_init_464 : decode b_M_init 464 = .ok (.iconst 4, 1) := dc_iconst_4 (gt_M_init_4 64)
theorem d_M_init_465 : decode b_M_init 465 = .ok (.bastore, 1) := dc_bastore (gt_M_init_4 65)
theorem d_M_init_466 : decode b_M_init 466 = .ok (.dup, 1) := dc_dup (gt_M_init_4 66)
theorem d_M_init_467 : decode b_M_init 467 = .ok (.iconst 1, 1) := dc_iconst_1 (gt_M_init_4 67)
theorem d_M_init_468 : decode b_M_init 468 = .ok (.bipush 116, 2) := dc_bipush (gt_M_init_4 68) (gt_M_init_4 69) rfl
theorem d_M_init_470 : decode b_M_init 470 = .ok (.bastore, 1) := dc_bastore (gt_M_init_4 70)
theorem d_M_init_471 : decode b_M_init 471 = .ok (.dup, 1) := dc_dup (gt_M_init_4 71)
theorem d_M_init_472 : decode b_M_init 472 = .ok (.iconst 2, 1) := dc_iconst_2 (gt_M_init_4 72)
theorem d_M_init_473 : decode b_M_init 473 = .ok (.bipush 114, 2) := dc_bipush (gt_M_init_4 73) (gt_M_init_4 74) rfl
theorem d_M_init_475 : decode b_M_init 475 = .ok (.bastore, 1) := dc_bastore (gt_M_init_4 75)
theorem d_M_init_476 : decode b_M_init 476 = .ok (.dup, 1) := dc_dup (gt_M_init_4 76)
theorem d_M_init_477 : decode b_M_init 477 = .ok (.iconst 3, 1) := dc_iconst_3 (gt_M_init_4 77)
theorem d_M_init_478 : decode b_M_init 478 = .ok (.bipush 117, 2) := dc_bipush (gt_M_init_4 78) (gt_M_init_4 79) rfl
theorem d_M_init_480 : decode b_M_init 480 = .ok (.bastore, 1) := dc_bastore (gt_M_init_4 80)
theorem d_M_init_481 : decode b_M_init 481 = .ok (.dup, 1) := dc_dup (gt_M_init_4 81)
theorem d_M_init_482 : decode b_M_init 482 = .ok (.iconst 4, 1) := dc_iconst_4 (gt_M_init_4 82)
theorem d_M_init_483 : decode b_M_init 483 = .ok (.bipush 101, 2) := dc_bipush (gt_M_init_4 83) (gt_M_init_4 84) rfl
theorem d_M_init_485 : decode b_M_init 485 = .ok (.bastore, 1) := dc_bastore (gt_M_init_4 85)
theorem d_M_init_486 : decode b_M_init 486 = .ok (.dup, 1) := dc_dup (gt_M_init_4 86)
theorem d_M_init_487 : decode b_M_init 487 = .ok (.iconst 5, 1) := dc_iconst_5 (gt_M_init_4 87)
theorem d_M_init_488 : decode b_M_init 488 = .ok (.iconst 5, 1) := dc_iconst_5 (gt_M_init_4 88)
theorem d_M_init_489 : decode b_M_init 489 = .ok (.bastore, 1) := dc_bastore (gt_M_init_4 89)
theorem d_M_init_490 : decode b_M_init 490 = .ok (.dup, 1) := dc_dup (gt_M_init_4 90)
theorem d_M_init_491 : decode b_M_init 491 = .ok (.bipush 6, 2) := dc_bipush (gt_M_init_4 91) (gt_M_init_4 92) rfl
theorem d_M_init_493 : decode b_M_init 493 = .ok (.bipush 102, 2) := dc_bipush (gt_M_init_4 93) (gt_M_init_4 94) rfl
theorem d_M_init_495 : decode b_M_init 495 = .ok (.bastore, 1) := dc_bastore (gt_M_init_4 95)
theorem d_M_init_496 : decode b_M_init 496 = .ok (.dup, 1) := dc_dup (gt_M_init_4 96)
theorem d_M_init_497 : decode b_M_init 497 = .ok (.bipush 7, 2) := dc_bipush (gt_M_init_4 97) (gt_M_init_4 98) rfl
theorem d_M_init_499 : decode b_M_init 499 = .ok (.bipush 97, 2) := dc_bipush (gt_M_init_4 99) (gt_M_init_5 0) rfl
theorem d_M_init_501 : decode b_M_init 501 = .ok (.bastore, 1) := dc_bastore (gt_M_init_5 1)
theorem d_M_init_502 : decode b_M_init 502 = .ok (.dup, 1) := dc_dup (gt_M_init_5 2)
theorem d_M_init_503 : decode b_M_init 503 = .ok (.bipush 8, 2) := dc_bipush (gt_M_init_5 3) (gt_M_init_5 4) rfl
theorem d_M_init_505 : decode b_M_init 505 = .ok (.bipush 108, 2) := dc_bipush (gt_M_init_5 5) (gt_M_init_5 6) rfl
theorem d_M_init_507 : decode b_M_init 507 = .ok (.bastore, 1) := dc_bastore (gt_M_init_5 7)
theorem d_M_init_508 : decode b_M_init 508 = .ok (.dup, 1) := dc_dup (gt_M_init_5 8)
theorem d_M_init_509 : decode b_M_init 509 = .ok (.bipush 9, 2) := dc_bipush (gt_M_init_5 9) (gt_M_init_5 10) rfl
theorem d_M_init_511 : decode b_M_init 511 = .ok (.bipush 115, 2) := dc_bipush (gt_M_init_5 11) (gt_M_init_5 12) rfl
theorem d_M_init_513 : decode b_M_init 513 = .ok (.bastore, 1) := dc_bastore (gt_M_init_5 13)
theorem d_M_init_514 : decode b_M_init 514 = .ok (.dup, 1) := dc_dup (gt_M_init_5 14)
theorem d_M_init_515 : decode b_M_init 515 = .ok (.bipush 10, 2) := dc_bipush (gt_M_init_5 15) (gt_M_init_5 16) rfl
theorem d_M_init_517 : decode b_M_init 517 = .ok (.bipush 101, 2) := dc_bipush (gt_M_init_5 17) (gt_M_init_5 18) rfl
theorem d_M_init_519 : decode b_M_init 519 = .ok (.bastore, 1) := dc_bastore (gt_M_init_5 19)
theorem d_M_init_520 : decode b_M_init 520 = .ok (.dup, 1) := dc_dup (gt_M_init_5 20)
theorem d_M_init_521 : decode b_M_init 521 = .ok (.bipush 11, 2) := dc_bipush (gt_M_init_5 21) (gt_M_init_5 22) rfl
theorem d_M_init_523 : decode b_M_init 523 = .ok (.iconst 2, 1) := dc_iconst_2 (gt_M_init_5 23)
theorem d_M_init_524 : decode b_M_init 524 = .ok (.bastore, 1) := dc_bastore (gt_M_init_5 24)
theorem d_M_init_525 : decode b_M_init 525 = .ok (.dup, 1) := dc_dup (gt_M_init_5 25)
theorem d_M_init_526 : decode b_M_init 526 = .ok (.bipush 12, 2) := dc_bipush (gt_M_init_5 26) (gt_M_init_5 27) rfl
theorem d_M_init_528 : decode b_M_init 528 = .ok (.bipush 111, 2) := dc_bipush (gt_M_init_5 28) (gt_M_init_5 29) rfl
theorem d_M_init_530 : decode b_M_init 530 = .ok (.bastore, 1) := dc_bastore (gt_M_init_5 30)
theorem d_M_init_531 : decode b_M_init 531 = .ok (.dup, 1) := dc_dup (gt_M_init_5 31)
theorem d_M_init_532 : decode b_M_init 532 = .ok (.bipush 13, 2) := dc_bipush (gt_M_init_5 32) (gt_M_init_5 33) rfl
theorem d_M_init_534 : decode b_M_init 534 = .ok (.bipush 107, 2) := dc_bipush (gt_M_init_5 34) (gt_M_init_5 35) rfl
theorem d_M_init_536 : decode b_M_init 536 = .ok (.bastore, 1) := dc_bastore (gt_M_init_5 36)
theorem d_M_init_537 : decode b_M_init 537 = .ok (.dup, 1) := dc_dup (gt_M_init_5 37)
theorem d_M_init_538 : decode b_M_init 538 = .ok (.bipush 14, 2) := dc_bipush (gt_M_init_5 38) (gt_M_init_5 39) rfl
theorem d_M_init_540 : decode b_M_init 540 = .ok (.iconst 4, 1) := dc_iconst_4 (gt_M_init_5 40)
theorem d_M_init_541 : decode b_M_init 541 = .ok (.bastore, 1) := dc_bastore (gt_M_init_5 41)
theorem d_M_init_542 : decode b_M_init 542 = .ok (.dup, 1) := dc_dup (gt_M_init_5 42)
theorem d_M_init_543 : decode b_M_init 543 = .ok (.bipush 15, 2) := dc_bipush (gt_M_init_5 43) (gt_M_init_5 44) rfl
theorem d_M_init_545 : decode b_M_init 545 = .ok (.bipush 110, 2) := dc_bipush (gt_M_init_5 45) (gt_M_init_5 46) rfl
theorem d_M_init_547 : decode b_M_init 547 = .ok (.bastore, 1) := dc_bastore (gt_M_init_5 47)
theorem d_M_init_548 : decode b_M_init 548 = .ok (.dup, 1) := dc_dup (gt_M_init_5 48)
theorem d_M_init_549 : decode b_M_init 549 = .ok (.bipush 16, 2) := dc_bipush (gt_M_init_5 49) (gt_M_init_5 50) rfl
theorem d_M_init_551 : decode b_M_init 551 = .ok (.bipush 111, 2) := dc_bipush (gt_M_init_5 51) (gt_M_init_5 52) rfl
theorem d_M_init_553 : decode b_M_init 553 = .ok (.bastore, 1) := dc_bastore (gt_M_init_5 53)
theorem d_M_init_554 : decode b_M_init 554 = .ok (.dup, 1) := dc_dup (gt_M_init_5 54)
theorem d_M_init_555 : decode b_M_init 555 = .ok (.bipush 17, 2) := dc_bipush (gt_M_init_5 55) (gt_M_init_5 56) rfl
theorem d_M_init_557 : decode b_M_init 557 = .ok (.bipush 110, 2) := dc_bipush (gt_M_init_5 57) (gt_M_init_5 58) rfl
theorem d_M_init_559 : decode b_M_init 559 = .ok (.bastore, 1) := dc_bastore (gt_M_init_5 59)
theorem d_M_init_560 : decode b_M_init 560 = .ok (.dup, 1) := dc_dup (gt_M_init_5 60)
theorem d_M_init_561 : decode b_M_init 561 = .ok (.bipush 18, 2) := dc_bipush (gt_M_init_5 61) (gt_M_init_5 62) rfl
theorem d_M_init_563 : decode b_M_init 563 = .ok (.bipush 101, 2) := dc_bipush (gt_M_init_5 63) (gt_M_init_5 64) rfl
theorem d_M_init_565 : decode b_M_init 565 = .ok (.bastore, 1) := dc_bastore (gt_M_init_5 65)
theorem d_M_init_566 : decode b_M_init 566 = .ok (.dup, 1) := dc_dup (gt_M_init_5 66)
theorem d_M_init_567 : decode b_M_init 567 = .ok (.bipush 19, 2) := dc_bipush (gt_M_init_5 67) (gt_M_init_5 68) rfl
theorem d_M_init_569 : decode b_M_init 569 = .ok (.bipush 6, 2) := dc_bipush (gt_M_init_5 69) (gt_M_init_5 70) rfl
theorem d_M_init_571 : decode b_M_init 571 = .ok (.bastore, 1) := dc_bastore (gt_M_init_5 71)
theorem d_M_init_572 : decode b_M_init 572 = .ok (.dup, 1) := dc_dup (gt_M_init_5 72)
theorem d_M_init_573 : decode b_M_init 573 = .ok (.bipush 20, 2) := dc_bipush (gt_M_init_5 73) (gt_M_init_5 74) rfl
theorem d_M_init_575 : decode b_M_init 575 = .ok (.bipush 110, 2) := dc_bipush (gt_M_init_5 75) (gt_M_init_5 76) rfl
theorem d_M_init_577 : decode b_M_init 577 = .ok (.bastore, 1) := dc_bastore (gt_M_init_5 77)
theorem d_M_init_578 : decode b_M_init 578 = .ok (.dup, 1) := dc_dup (gt_M_init_5 78)
theorem d_M_init_579 : decode b_M_init 579 = .ok (.bipush 21, 2) := dc_bipush (gt_M_init_5 79) (gt_M_init_5 80) rfl
theorem d_M_init_581 : decode b_M_init 581 = .ok (.bipush 111, 2) := dc_bipush (gt_M_init_5 81) (gt_M_init_5 82) rfl
theorem d_M_init_583 : decode b_M_init 583 = .ok (.bastore, 1) := dc_bastore (gt_M_init_5 83)
theorem d_M_init_584 : decode b_M_init 584 = .ok (.dup, 1) := dc_dup (gt_M_init_5 84)
theorem d_M_init_585 : decode b_M_init 585 = .ok (.bipush 22, 2) := dc_bipush (gt_M_init_5 85) (gt_M_init_5 86) rfl
theorem d_M_init_587 : decode b_M_init 587 = .ok (.bipush 114, 2) := dc_bipush (gt_M_init_5 87) (gt_M_init_5 88) rfl
theorem d_M_init_589 : decode b_M_init 589 = .ok (.bastore, 1) := dc_bastore (gt_M_init_5 89)
theorem d_M_init_590 : decode b_M_init 590 = .ok (.dup, 1) := dc_dup (gt_M_init_5 90)
theorem d_M_init_591 : decode b_M_init 591 = .ok (.bipush 23, 2) := dc_bipush (gt_M_init_5 91) (gt_M_init_5 92) rfl
theorem d_M_init_593 : decode b_M_init 593 = .ok (.bipush 109, 2) := dc_bipush (gt_M_init_5 93) (gt_M_init_5 94) rfl
theorem d_M_init_595 : decode b_M_init 595 = .ok (.bastore, 1) := dc_bastore (gt_M_init_5 95)
theorem d_M_init_596 : decode b_M_init 596 = .ok (.dup, 1) := dc_dup (gt_M_init_5 96)
theorem d_M_init_597 : decode b_M_init 597 = .ok (.bipush 24, 2) := dc_bipush (gt_M_init_5 97) (gt_M_init_5 98) rfl
theorem d_M_init_599 : decode b_M_init 599 = .ok (.bipush 97, 2) := dc_bipush (gt_M_init_5 99) (gt_M_init_6 0) rfl
theorem d_M_init_601 : decode b_M_init 601 = .ok (.bastore, 1) := dc_bastore (gt_M_init_6 1)
theorem d_M_init_602 : decode b_M_init 602 = .ok (.dup, 1) := dc_dup (gt_M_init_6 2)
theorem d_M_init_603 : decode b_M_init 603 = .ok (.bipush 25, 2) := dc_bipush (gt_M_init_6 3) (gt_M_init_6 4) rfl
theorem d_M_init_605 : decode b_M_init 605 = .ok (.bipush 108, 2) := dc_bipush (gt_M_init_6 5) (gt_M_init_6 6) rfl
theorem d_M_init_607 : decode b_M_init 607 = .ok (.bastore, 1) := dc_bastore (gt_M_init_6 7)
theorem d_M_init_608 : decode b_M_init 608 = .ok (.dup, 1) := dc_dup (gt_M_init_6 8)
theorem d_M_init_609 : decode b_M_init 609 = .ok (.bipush 26, 2) := dc_bipush (gt_M_init_6 9) (gt_M_init_6 10) rfl
theorem d_M_init_611 : decode b_M_init 611 = .ok (.iconst 4, 1) := dc_iconst_4 (gt_M_init_6 11)
theorem d_M_init_612 : decode b_M_init 612 = .ok (.bastore, 1) := dc_bastore (gt_M_init_6 12)
theorem d_M_init_613 : decode b_M_init 613 = .ok (.dup, 1) := dc_dup (gt_M_init_6 13)
theorem d_M_init_614 : decode b_M_init 614 = .ok (.bipush 27, 2) := dc_bipush (gt_M_init_6 14) (gt_M_init_6 15) rfl
theorem d_M_init_616 : decode b_M_init 616 = .ok (.bipush 107, 2) := dc_bipush (gt_M_init_6 16) (gt_M_init_6 17) rfl
theorem d_M_init_618 : decode b_M_init 618 = .ok (.bastore, 1) := dc_bastore (gt_M_init_6 18)
theorem d_M_init_619 : decode b_M_init 619 = .ok (.dup, 1) := dc_dup (gt_M_init_6 19)
theorem d_M_init_620 : decode b_M_init 620 = .ok (.bipush 28, 2) := dc_bipush (gt_M_init_6 20) (gt_M_init_6 21) rfl
theorem d_M_init_622 : decode b_M_init 622 = .ok (.bipush 105, 2) := dc_bipush (gt_M_init_6 22) (gt_M_init_6 23) rfl
theorem d_M_init_624 : decode b_M_init 624 = .ok (.bastore, 1) := dc_bastore (gt_M_init_6 24)
theorem d_M_init_625 : decode b_M_init 625 = .ok (.dup, 1) := dc_dup (gt_M_init_6 25)
theorem d_M_init_626 : decode b_M_init 626 = .ok (.bipush 29, 2) := dc_bipush (gt_M_init_6 26) (gt_M_init_6 27) rfl
theorem d_M_init_628 : decode b_M_init 628 = .ok (.bipush 108, 2) := dc_bipush (gt_M_init_6 28) (gt_M_init_6 29) rfl
theorem d_M_init_630 : decode b_M_init 630 = .ok (.bastore, 1) := dc_bastore (gt_M_init_6 30)
theorem d_M_init_631 : decode b_M_init 631 = .ok (.dup, 1) := dc_dup (gt_M_init_6 31)
theorem d_M_init_632 : decode b_M_init 632 = .ok (.bipush 30, 2) := dc_bipush (gt_M_init_6 32) (gt_M_init_6 33) rfl
theorem d_M_init_634 : decode b_M_init 634 = .ok (.bipush 108, 2) := dc_bipush (gt_M_init_6 34) (gt_M_init_6 35) rfl
theorem d_M_init_636 : decode b_M_init 636 = .ok (.bastore, 1) := dc_bastore (gt_M_init_6 36)
theorem d_M_init_637 : decode b_M_init 637 = .ok (.dup, 1) := dc_dup (gt_M_init_6 37)
theorem d_M_init_638 : decode b_M_init 638 = .ok (.bipush 31, 2) := dc_bipush (gt_M_init_6 38) (gt_M_init_6 39) rfl
theorem d_M_init_640 : decode b_M_init 640 = .ok (.bipush 6, 2) := dc_bipush (gt_M_init_6 40) (gt_M_init_6 41) rfl
theorem d_M_init_642 : decode b_M_init 642 = .ok (.bastore, 1) := dc_bastore (gt_M_init_6 42)
theorem d_M_init_643 : decode b_M_init 643 = .ok (.dup, 1) := dc_dup (gt_M_init_6 43)
theorem d_M_init_644 : decode b_M_init 644 = .ok (.bipush 32, 2) := dc_bipush (gt_M_init_6 44) (gt_M_init_6 45) rfl
theorem d_M_init_646 : decode b_M_init 646 = .ok (.bipush 107, 2) := dc_bipush (gt_M_init_6 46) (gt_M_init_6 47) rfl
theorem d_M_init_648 : decode b_M_init 648 = .ok (.bastore, 1) := dc_bastore (gt_M_init_6 48)
theorem d_M_init_649 : decode b_M_init 649 = .ok (.dup, 1) := dc_dup (gt_M_init_6 49)
theorem d_M_init_650 : decode b_M_init 650 = .ok (.bipush 33, 2) := dc_bipush (gt_M_init_6 50) (gt_M_init_6 51) rfl
theorem d_M_init_652 : decode b_M_init 652 = .ok (.bipush 105, 2) := dc_bipush (gt_M_init_6 52) (gt_M_init_6 53) rfl
theorem d_M_init_654 : decode b_M_init 654 = .ok (.bastore, 1) := dc_bastore (gt_M_init_6 54)
theorem d_M_init_655 : decode b_M_init 655 = .ok (.dup, 1) := dc_dup (gt_M_init_6 55)
theorem d_M_init_656 : decode b_M_init 656 = .ok (.bipush 34, 2) := dc_bipush (gt_M_init_6 56) (gt_M_init_6 57) rfl
theorem d_M_init_658 : decode b_M_init 658 = .ok (.bipush 108, 2) := dc_bipush (gt_M_init_6 58) (gt_M_init_6 59) rfl
theorem d_M_init_660 : decode b_M_init 660 = .ok (.bastore, 1) := dc_bastore (gt_M_init_6 60)
theorem d_M_init_661 : decode b_M_init 661 = .ok (.dup, 1) := dc_dup (gt_M_init_6 61)
theorem d_M_init_662 : decode b_M_init 662 = .ok (.bipush 35, 2) := dc_bipush (gt_M_init_6 62) (gt_M_init_6 63) rfl
theorem d_M_init_664 : decode b_M_init 664 = .ok (.bipush 108, 2) := dc_bipush (gt_M_init_6 64) (gt_M_init_6 65) rfl
theorem d_M_init_666 : decode b_M_init 666 = .ok (.bastore, 1) := dc_bastore (gt_M_init_6 66)
theorem d_M_init_667 : decode b_M_init 667 = .ok (.dup, 1) := dc_dup (gt_M_init_6 67)
theorem d_M_init_668 : decode b_M_init 668 = .ok (.bipush 36, 2) := dc_bipush (gt_M_init_6 68) (gt_M_init_6 69) rfl
theorem d_M_init_670 : decode b_M_init 670 = .ok (.bipush 101, 2) := dc_bipush (gt_M_init_6 70) (gt_M_init_6 71) rfl
theorem d_M_init_672 : decode b_M_init 672 = .ok (.bastore, 1) := dc_bastore (gt_M_init_6 72)
theorem d_M_init_673 : decode b_M_init 673 = .ok (.dup, 1) := dc_dup (gt_M_init_6 73)
theorem d_M_init_674 : decode b_M_init 674 = .ok (.bipush 37, 2) := dc_bipush (gt_M_init_6 74) (gt_M_init_6 75) rfl
theorem d_M_init_676 : decode b_M_init 676 = .ok (.bipush 100, 2) := dc_bipush (gt_M_init_6 76) (gt_M_init_6 77) rfl
theorem d_M_init_678 : decode b_M_init 678 = .ok (.bastore, 1) := dc_bastore (gt_M_init_6 78)
theorem d_M_init_679 : decode b_M_init 679 = .ok (.dup, 1) := dc_dup (gt_M_init_6 79)
theorem d_M_init_680 : decode b_M_init 680 = .ok (.bipush 38, 2) := dc_bipush (gt_M_init_6 80) (gt_M_init_6 81) rfl
theorem d_M_init_682 : decode b_M_init 682 = .ok (.iconst 5, 1) := dc_iconst_5 (gt_M_init_6 82)
theorem d_M_init_683 : decode b_M_init 683 = .ok (.bastore, 1) := dc_bastore (gt_M_init_6 83)
theorem d_M_init_684 : decode b_M_init 684 = .ok (.dup, 1) := dc_dup (gt_M_init_6 84)
theorem d_M_init_685 : decode b_M_init 685 = .ok (.bipush 39, 2) := dc_bipush (gt_M_init_6 85) (gt_M_init_6 86) rfl
theorem d_M_init_687 : decode b_M_init 687 = .ok (.bipush 101, 2) := dc_bipush (gt_M_init_6 87) (gt_M_init_6 88) rfl
theorem d_M_init_689 : decode b_M_init 689 = .ok (.bastore, 1) := dc_bastore (gt_M_init_6 89)
theorem d_M_init_690 : decode b_M_init 690 = .ok (.dup, 1) := dc_dup (gt_M_init_6 90)
theorem d_M_init_691 : decode b_M_init 691 = .ok (.bipush 40, 2) := dc_bipush (gt_M_init_6 91) (gt_M_init_6 92) rfl
theorem d_M_init_693 : decode b_M_init 693 = .ok (.bipush 114, 2) := dc_bipush (gt_M_init_6 93) (gt_M_init_6 94) rfl
theorem d_M_init_695 : decode b_M_init 695 = .ok (.bastore, 1) := dc_bastore (gt_M_init_6 95)
theorem d_M_init_696 : decode b_M_init 696 = .ok (.dup, 1) := dc_dup (gt_M_init_6 96)
theorem d_M_init_697 : decode b_M_init 697 = .ok (.bipush 41, 2) := dc_bipush (gt_M_init_6 97) (gt_M_init_6 98) rfl
theorem d_M_init_699 : decode b_M_init 699 = .ok (.bipush 114, 2) := dc_bipush (gt_M_init_6 99) (gt_M_init_7 0) rfl
theorem d_M_init_701 : decode b_M_init 701 = .ok (.bastore, 1) := dc_bastore (gt_M_init_7 1)
theorem d_M_init_702 : decode b_M_init 702 = .ok (.dup, 1) := dc_dup (gt_M_init_7 2)
theorem d_M_init_703 : decode b_M_init 703 = .ok (.bipush 42, 2) := dc_bipush (gt_M_init_7 3) (gt_M_init_7 4) rfl
theorem d_M_init_705 : decode b_M_init 705 = .ok (.bipush 111, 2) := dc_bipush (gt_M_init_7 5) (gt_M_init_7 6) rfl
theorem d_M_init_707 : decode b_M_init 707 = .ok (.bastore, 1) := dc_bastore (gt_M_init_7 7)
theorem d_M_init_708 : decode b_M_init 708 = .ok (.dup, 1) := dc_dup (gt_M_init_7 8)
theorem d_M_init_709 : decode b_M_init 709 = .ok (.bipush 43, 2) := dc_bipush (gt_M_init_7 9) (gt_M_init_7 10) rfl
theorem d_M_init_711 : decode b_M_init 711 = .ok (.bipush 114, 2) := dc_bipush (gt_M_init_7 11) (gt_M_init_7 12) rfl
theorem d_M_init_713 : decode b_M_init 713 = .ok (.bastore, 1) := dc_bastore (gt_M_init_7 13)
theorem d_M_init_714 : decode b_M_init 714 = .ok (.dup, 1) := dc_dup (gt_M_init_7 14)
theorem d_M_init_715 : decode b_M_init 715 = .ok (.bipush 44, 2) := dc_bipush (gt_M_init_7 15) (gt_M_init_7 16) rfl
theorem d_M_init_717 : decode b_M_init 717 = .ok (.iconst 4, 1) := dc_iconst_4 (gt_M_init_7 17)
theorem d_M_init_718 : decode b_M_init 718 = .ok (.bastore, 1) := dc_bastore (gt_M_init_7 18)
theorem d_M_init_719 : decode b_M_init 719 = .ok (.dup, 1) := dc_dup (gt_M_init_7 19)
theorem d_M_init_720 : decode b_M_init 720 = .ok (.bipush 45, 2) := dc_bipush (gt_M_init_7 20) (gt_M_init_7 21) rfl
theorem d_M_init_722 : decode b_M_init 722 = .ok (.bipush 101, 2) := dc_bipush (gt_M_init_7 22) (gt_M_init_7 23) rfl
theorem d_M_init_724 : decode b_M_init 724 = .ok (.bastore, 1) := dc_bastore (gt_M_init_7 24)
theorem d_M_init_725 : decode b_M_init 725 = .ok (.dup, 1) := dc_dup (gt_M_init_7 25)
theorem d_M_init_726 : decode b_M_init 726 = .ok (.bipush 46, 2) := dc_bipush (gt_M_init_7 26) (gt_M_init_7 27) rfl
theorem d_M_init_728 : decode b_M_init 728 = .ok (.bipush 120, 2) := dc_bipush (gt_M_init_7 28) (gt_M_init_7 29) rfl
theorem d_M_init_730 : decode b_M_init 730 = .ok (.bastore, 1) := dc_bastore (gt_M_init_7 30)
theorem d_M_init_731 : decode b_M_init 731 = .ok (.dup, 1) := dc_dup (gt_M_init_7 31)
theorem d_M_init_732 : decode b_M_init 732 = .ok (.bipush 47, 2) := dc_bipush (gt_M_init_7 32) (gt_M_init_7 33) rfl
theorem d_M_init_734 : decode b_M_init 734 = .ok (.bipush 105, 2) := dc_bipush (gt_M_init_7 34) (gt_M_init_7 35) rfl
theorem d_M_init_736 : decode b_M_init 736 = .ok (.bastore, 1) := dc_bastore (gt_M_init_7 36)
theorem d_M_init_737 : decode b_M_init 737 = .ok (.dup, 1) := dc_dup (gt_M_init_7 37)
theorem d_M_init_738 : decode b_M_init 738 = .ok (.bipush 48, 2) := dc_bipush (gt_M_init_7 38) (gt_M_init_7 39) rfl
theorem d_M_init_740 : decode b_M_init 740 = .ok (.bipush 116, 2) := dc_bipush (gt_M_init_7 40) (gt_M_init_7 41) rfl
theorem d_M_init_742 : decode b_M_init 742 = .ok (.bastore, 1) := dc_bastore (gt_M_init_7 42)
theorem d_M_init_743 : decode b_M_init 743 = .ok (.dup, 1) := dc_dup (gt_M_init_7 43)
theorem d_M_init_744 : decode b_M_init 744 = .ok (.bipush 49, 2) := dc_bipush (gt_M_init_7 44) (gt_M_init_7 45) rfl
theorem d_M_init_746 : decode b_M_init 746 = .ok (.iconst 4, 1) := dc_iconst_4 (gt_M_init_7 46)
theorem d_M_init_747 : decode b_M_init 747 = .ok (.bastore, 1) := dc_bastore (gt_M_init_7 47)
theorem d_M_init_748 : decode b_M_init 748 = .ok (.dup, 1) := dc_dup (gt_M_init_7 48)
theorem d_M_init_749 : decode b_M_init 749 = .ok (.bipush 50, 2) := dc_bipush (gt_M_init_7 49) (gt_M_init_7 50) rfl
theorem d_M_init_751 : decode b_M_init 751 = .ok (.bipush 100, 2) := dc_bipush (gt_M_init_7 51) (gt_M_init_7 52) rfl
theorem d_M_init_753 : decode b_M_init 753 = .ok (.bastore, 1) := dc_bastore (gt_M_init_7 53)
theorem d_M_init_754 : decode b_M_init 754 = .ok (.dup, 1) := dc_dup (gt_M_init_7 54)
theorem d_M_init_755 : decode b_M_init 755 = .ok (.bipush 51, 2) := dc_bipush (gt_M_init_7 55) (gt_M_init_7 56) rfl
theorem d_M_init_757 : decode b_M_init 757 = .ok (.bipush 111, 2) := dc_bipush (gt_M_init_7 57) (gt_M_init_7 58) rfl
theorem d_M_init_759 : decode b_M_init 759 = .ok (.bastore, 1) := dc_bastore (gt_M_init_7 59)
theorem d_M_init_760 : decode b_M_init 760 = .ok (.dup, 1) := dc_dup (gt_M_init_7 60)
theorem d_M_init_761 : decode b_M_init 761 = .ok (.bipush 52, 2) := dc_bipush (gt_M_init_7 61) (gt_M_init_7 62) rfl
theorem d_M_init_763 : decode b_M_init 763 = .ok (.bipush 119, 2) := dc_bipush (gt_M_init_7 63) (gt_M_init_7 64) rfl
theorem d_M_init_765 : decode b_M_init 765 = .ok (.bastore, 1) := dc_bastore (gt_M_init_7 65)
theorem d_M_init_766 : decode b_M_init 766 = .ok (.dup, 1) := dc_dup (gt_M_init_7 66)
theorem d_M_init_767 : decode b_M_init 767 = .ok (.bipush 53, 2) := dc_bipush (gt_M_init_7 67) (gt_M_init_7 68) rfl
theorem d_M_init_769 : decode b_M_init 769 = .ok (.bipush 110, 2) := dc_bipush (gt_M_init_7 69) (gt_M_init_7 70) rfl
theorem d_M_init_771 : decode b_M_init 771 = .ok (.bastore, 1) := dc_bastore (gt_M_init_7 71)
theorem d_M_init_772 : decode b_M_init 772 = .ok (.dup, 1) := dc_dup (gt_M_init_7 72)
theorem d_M_init_773 : decode b_M_init 773 = .ok (.bipush 54, 2) := dc_bipush (gt_M_init_7 73) (gt_M_init_7 74) rfl
theorem d_M_init_775 : decode b_M_init 775 = .ok (.bipush 8, 2) := dc_bipush (gt_M_init_7 75) (gt_M_init_7 76) rfl
theorem d_M_init_777 : decode b_M_init 777 = .ok (.bastore, 1) := dc_bastore (gt_M_init_7 77)
theorem d_M_init_778 : decode b_M_init 778 = .ok (.dup, 1) := dc_dup (gt_M_init_7 78)
theorem d_M_init_779 : decode b_M_init 779 = .ok (.bipush 55, 2) := dc_bipush (gt_M_init_7 79) (gt_M_init_7 80) rfl
theorem d_M_init_781 : decode b_M_init 781 = .ok (.bipush 105, 2) := dc_bipush (gt_M_init_7 81) (gt_M_init_7 82) rfl
theorem d_M_init_783 : decode b_M_init 783 = .ok (.bastore, 1) := dc_bastore (gt_M_init_7 83)
theorem d_M_init_784 : decode b_M_init 784 = .ok (.dup, 1) := dc_dup (gt_M_init_7 84)
theorem d_M_init_785 : decode b_M_init 785 = .ok (.bipush 56, 2) := dc_bipush (gt_M_init_7 85) (gt_M_init_7 86) rfl
theorem d_M_init_787 : decode b_M_init 787 = .ok (.bipush 110, 2) := dc_bipush (gt_M_init_7 87) (gt_M_init_7 88) rfl
theorem d_M_init_789 : decode b_M_init 789 = .ok (.bastore, 1) := dc_bastore (gt_M_init_7 89)
theorem d_M_init_790 : decode b_M_init 790 = .ok (.dup, 1) := dc_dup (gt_M_init_7 90)
theorem d_M_init_791 : decode b_M_init 791 = .ok (.bipush 57, 2) := dc_bipush (gt_M_init_7 91) (gt_M_init_7 92) rfl
theorem d_M_init_793 : decode b_M_init 793 = .ok (.bipush 102, 2) := dc_bipush (gt_M_init_7 93) (gt_M_init_7 94) rfl
theorem d_M_init_795 : decode b_M_init 795 = .ok (.bastore, 1) := dc_bastore (gt_M_init_7 95)
theorem d_M_init_796 : decode b_M_init 796 = .ok (.dup, 1) := dc_dup (gt_M_init_7 96)
theorem d_M_init_797 : decode b_M_init 797 = .ok (.bipush 58, 2) := dc_bipush (gt_M_init_7 97) (gt_M_init_7 98) rfl
theorem d_M_init_799 : decode b_M_init 799 = .ok (.bipush 105, 2) := dc_bipush (gt_M_init_7 99) (gt_M_init_8 0) rfl
theorem d_M_init_801 : decode b_M_init 801 = .ok (.bastore, 1) := dc_bastore (gt_M_init_8 1)
theorem d_M_init_802 : decode b_M_init 802 = .ok (.dup, 1) := dc_dup (gt_M_init_8 2)
theorem d_M_init_803 : decode b_M_init 803 = .ok (.bipush 59, 2) := dc_bipush (gt_M_init_8 3) (gt_M_init_8 4) rfl
theorem d_M_init_805 : decode b_M_init 805 = .ok (.bipush 110, 2) := dc_bipush (gt_M_init_8 5) (gt_M_init_8 6) rfl
theorem d_M_init_807 : decode b_M_init 807 = .ok (.bastore, 1) := dc_bastore (gt_M_init_8 7)
theorem d_M_init_808 : decode b_M_init 808 = .ok (.dup, 1) := dc_dup (gt_M_init_8 8)
theorem d_M_init_809 : decode b_M_init 809 = .ok (.bipush 60, 2) := dc_bipush (gt_M_init_8 9) (gt_M_init_8 10) rfl
theorem d_M_init_811 : decode b_M_init 811 = .ok (.bipush 105, 2) := dc_bipush (gt_M_init_8 11) (gt_M_init_8 12) rfl
theorem d_M_init_813 : decode b_M_init 813 = .ok (.bastore, 1) := dc_bastore (gt_M_init_8 13)
theorem d_M_init_814 : decode b_M_init 814 = .ok (.dup, 1) := dc_dup (gt_M_init_8 14)
theorem d_M_init_815 : decode b_M_init 815 = .ok (.bipush 61, 2) := dc_bipush (gt_M_init_8 15) (gt_M_init_8 16) rfl
theorem d_M_init_817 : decode b_M_init 817 = .ok (.bipush 116, 2) := dc_bipush (gt_M_init_8 17) (gt_M_init_8 18) rfl
theorem d_M_init_819 : decode b_M_init 819 = .ok (.bastore, 1) := dc_bastore (gt_M_init_8 19)
theorem d_M_init_820 : decode b_M_init 820 = .ok (.dup, 1) := dc_dup (gt_M_init_8 20)
theorem d_M_init_821 : decode b_M_init 821 = .ok (.bipush 62, 2) := dc_bipush (gt_M_init_8 21) (gt_M_init_8 22) rfl
theorem d_M_init_823 : decode b_M_init 823 = .ok (.bipush 121, 2) := dc_bipush (gt_M_init_8 23) (gt_M_init_8 24) rfl
theorem d_M_init_825 : decode b_M_init 825 = .ok (.bastore, 1) := dc_bastore (gt_M_init_8 25)
theorem d_M_init_826 : decode b_M_init 826 = .ok (.dup, 1) := dc_dup (gt_M_init_8 26)
theorem d_M_init_827 : decode b_M_init 827 = .ok (.bipush 63, 2) := dc_bipush (gt_M_init_8 27) (gt_M_init_8 28) rfl
theorem d_M_init_829 : decode b_M_init 829 = .ok (.bipush 6, 2) := dc_bipush (gt_M_init_8 29) (gt_M_init_8 30) rfl
theorem d_M_init_831 : decode b_M_init 831 = .ok (.bastore, 1) := dc_bastore (gt_M_init_8 31)
theorem d_M_init_832 : decode b_M_init 832 = .ok (.dup, 1) := dc_dup (gt_M_init_8 32)
theorem d_M_init_833 : decode b_M_init 833 = .ok (.bipush 64, 2) := dc_bipush (gt_M_init_8 33) (gt_M_init_8 34) rfl
theorem d_M_init_835 : decode b_M_init 835 = .ok (.bipush 98, 2) := dc_bipush (gt_M_init_8 35) (gt_M_init_8 36) rfl
theorem d_M_init_837 : decode b_M_init 837 = .ok (.bastore, 1) := dc_bastore (gt_M_init_8 37)
theorem d_M_init_838 : decode b_M_init 838 = .ok (.dup, 1) := dc_dup (gt_M_init_8 38)
theorem d_M_init_839 : decode b_M_init 839 = .ok (.bipush 65, 2) := dc_bipush (gt_M_init_8 39) (gt_M_init_8 40) rfl
theorem d_M_init_841 : decode b_M_init 841 = .ok (.bipush 97, 2) := dc_bipush (gt_M_init_8 41) (gt_M_init_8 42) rfl
theorem d_M_init_843 : decode b_M_init 843 = .ok (.bastore, 1) := dc_bastore (gt_M_init_8 43)
theorem d_M_init_844 : decode b_M_init 844 = .ok (.dup, 1) := dc_dup (gt_M_init_8 44)
theorem d_M_init_845 : decode b_M_init 845 = .ok (.bipush 66, 2) := dc_bipush (gt_M_init_8 45) (gt_M_init_8 46) rfl
theorem d_M_init_847 : decode b_M_init 847 = .ok (.bipush 100, 2) := dc_bipush (gt_M_init_8 47) (gt_M_init_8 48) rfl
theorem d_M_init_849 : decode b_M_init 849 = .ok (.bastore, 1) := dc_bastore (gt_M_init_8 49)
theorem d_M_init_850 : decode b_M_init 850 = .ok (.dup, 1) := dc_dup (gt_M_init_8 50)
theorem d_M_init_851 : decode b_M_init 851 = .ok (.bipush 67, 2) := dc_bipush (gt_M_init_8 51) (gt_M_init_8 52) rfl
theorem d_M_init_853 : decode b_M_init 853 = .ok (.bipush 97, 2) := dc_bipush (gt_M_init_8 53) (gt_M_init_8 54) rfl
theorem d_M_init_855 : decode b_M_init 855 = .ok (.bastore, 1) := dc_bastore (gt_M_init_8 55)
theorem d_M_init_856 : decode b_M_init 856 = .ok (.dup, 1) := dc_dup (gt_M_init_8 56)
theorem d_M_init_857 : decode b_M_init 857 = .ok (.bipush 68, 2) := dc_bipush (gt_M_init_8 57) (gt_M_init_8 58) rfl
theorem d_M_init_859 : decode b_M_init 859 = .ok (.bipush 114, 2) := dc_bipush (gt_M_init_8 59) (gt_M_init_8 60) rfl
theorem d_M_init_861 : decode b_M_init 861 = .ok (.bastore, 1) := dc_bastore (gt_M_init_8 61)
theorem d_M_init_862 : decode b_M_init 862 = .ok (.dup, 1) := dc_dup (gt_M_init_8 62)
theorem d_M_init_863 : decode b_M_init 863 = .ok (.bipush 69, 2) := dc_bipush (gt_M_init_8 63) (gt_M_init_8 64) rfl
theorem d_M_init_865 : decode b_M_init 865 = .ok (.bipush 103, 2) := dc_bipush (gt_M_init_8 65) (gt_M_init_8 66) rfl
theorem d_M_init_867 : decode b_M_init 867 = .ok (.bastore, 1) := dc_bastore (gt_M_init_8 67)
theorem d_M_init_868 : decode b_M_init 868 = .ok (.dup, 1) := dc_dup (gt_M_init_8 68)
theorem d_M_init_869 : decode b_M_init 869 = .ok (.bipush 70, 2) := dc_bipush (gt_M_init_8 69) (gt_M_init_8 70) rfl
theorem d_M_init_871 : decode b_M_init 871 = .ok (.bipush 8, 2) := dc_bipush (gt_M_init_8 71) (gt_M_init_8 72) rfl
theorem d_M_init_873 : decode b_M_init 873 = .ok (.bastore, 1) := dc_bastore (gt_M_init_8 73)
theorem d_M_init_874 : decode b_M_init 874 = .ok (.dup, 1) := dc_dup (gt_M_init_8 74)
theorem d_M_init_875 : decode b_M_init 875 = .ok (.bipush 71, 2) := dc_bipush (gt_M_init_8 75) (gt_M_init_8 76) rfl
theorem d_M_init_877 : decode b_M_init 877 = .ok (.bipush 98, 2) := dc_bipush (gt_M_init_8 77) (gt_M_init_8 78) rfl
theorem d_M_init_879 : decode b_M_init 879 = .ok (.bastore, 1) := dc_bastore (gt_M_init_8 79)
theorem d_M_init_880 : decode b_M_init 880 = .ok (.dup, 1) := dc_dup (gt_M_init_8 80)
theorem d_M_init_881 : decode b_M_init 881 = .ok (.bipush 72, 2) := dc_bipush (gt_M_init_8 81) (gt_M_init_8 82) rfl
theorem d_M_init_883 : decode b_M_init 883 = .ok (.bipush 97, 2) := dc_bipush (gt_M_init_8 83) (gt_M_init_8 84) rfl
theorem d_M_init_885 : decode b_M_init 885 = .ok (.bastore, 1) := dc_bastore (gt_M_init_8 85)
theorem d_M_init_886 : decode b_M_init 886 = .ok (.dup, 1) := dc_dup (gt_M_init_8 86)
theorem d_M_init_887 : decode b_M_init 887 = .ok (.bipush 73, 2) := dc_bipush (gt_M_init_8 87) (gt_M_init_8 88) rfl
theorem d_M_init_889 : decode b_M_init 889 = .ok (.bipush 100, 2) := dc_bipush (gt_M_init_8 89) (gt_M_init_8 90) rfl
theorem d_M_init_891 : decode b_M_init 891 = .ok (.bastore, 1) := dc_bastore (gt_M_init_8 91)
theorem d_M_init_892 : decode b_M_init 892 = .ok (.dup, 1) := dc_dup (gt_M_init_8 92)
theorem d_M_init_893 : decode b_M_init 893 = .ok (.bipush 74, 2) := dc_bipush (gt_M_init_8 93) (gt_M_init_8 94) rfl
theorem d_M_init_895 : decode b_M_init 895 = .ok (.bipush 97, 2) := dc_bipush (gt_M_init_8 95) (gt_M_init_8 96) rfl
theorem d_M_init_897 : decode b_M_init 897 = .ok (.bastore, 1) := dc_bastore (gt_M_init_8 97)
theorem d_M_init_898 : decode b_M_init 898 = .ok (.dup, 1) := dc_dup (gt_M_init_8 98)
theorem d_M_init_899 : decode b_M_init 899 = .ok (.bipush 75, 2) := dc_bipush (gt_M_init_8 99) (gt_M_init_9 0) rfl
theorem d_M_init_901 : decode b_M_init 901 = .ok (.bipush 114, 2) := dc_bipush (gt_M_init_9 1) (gt_M_init_9 2) rfl
theorem d_M_init_903 : decode b_M_init 903 = .ok (.bastore, 1) := dc_bastore (gt_M_init_9 3)
theorem d_M_init_904 : decode b_M_init 904 = .ok (.dup, 1) := dc_dup (gt_M_init_9 4)
theorem d_M_init_905 : decode b_M_init 905 = .ok (.bipush 76, 2) := dc_bipush (gt_M_init_9 5) (gt_M_init_9 6) rfl
theorem d_M_init_907 : decode b_M_init 907 = .ok (.bipush 105, 2) := dc_bipush (gt_M_init_9 7) (gt_M_init_9 8) rfl
theorem d_M_init_909 : decode b_M_init 909 = .ok (.bastore, 1) := dc_bastore (gt_M_init_9 9)
theorem d_M_init_910 : decode b_M_init 910 = .ok (.dup, 1) := dc_dup (gt_M_init_9 10)
theorem d_M_init_911 : decode b_M_init 911 = .ok (.bipush 77, 2) := dc_bipush (gt_M_init_9 11) (gt_M_init_9 12) rfl
theorem d_M_init_913 : decode b_M_init 913 = .ok (.bipush 116, 2) := dc_bipush (gt_M_init_9 13) (gt_M_init_9 14) rfl
theorem d_M_init_915 : decode b_M_init 915 = .ok (.bastore, 1) := dc_bastore (gt_M_init_9 15)
theorem d_M_init_916 : decode b_M_init 916 = .ok (.dup, 1) := dc_dup (gt_M_init_9 16)
theorem d_M_init_917 : decode b_M_init 917 = .ok (.bipush 78, 2) := dc_bipush (gt_M_init_9 17) (gt_M_init_9 18) rfl
theorem d_M_init_919 : decode b_M_init 919 = .ok (.bipush 104, 2) := dc_bipush (gt_M_init_9 19) (gt_M_init_9 20) rfl
theorem d_M_init_921 : decode b_M_init 921 = .ok (.bastore, 1) := dc_bastore (gt_M_init_9 21)
theorem d_M_init_922 : decode b_M_init 922 = .ok (.dup, 1) := dc_dup (gt_M_init_9 22)
theorem d_M_init_923 : decode b_M_init 923 = .ok (.bipush 79, 2) := dc_bipush (gt_M_init_9 23) (gt_M_init_9 24) rfl
theorem d_M_init_925 : decode b_M_init 925 = .ok (.bipush 8, 2) := dc_bipush (gt_M_init_9 25) (gt_M_init_9 26) rfl
theorem d_M_init_927 : decode b_M_init 927 = .ok (.bastore, 1) := dc_bastore (gt_M_init_9 27)
theorem d_M_init_928 : decode b_M_init 928 = .ok (.dup, 1) := dc_dup (gt_M_init_9 28)
theorem d_M_init_929 : decode b_M_init 929 = .ok (.bipush 80, 2) := dc_bipush (gt_M_init_9 29) (gt_M_init_9 30) rfl
theorem d_M_init_931 : decode b_M_init 931 = .ok (.bipush 98, 2) := dc_bipush (gt_M_init_9 31) (gt_M_init_9 32) rfl
theorem d_M_init_933 : decode b_M_init 933 = .ok (.bastore, 1) := dc_bastore (gt_M_init_9 33)
theorem d_M_init_934 : decode b_M_init 934 = .ok (.dup, 1) := dc_dup (gt_M_init_9 34)
theorem d_M_init_935 : decode b_M_init 935 = .ok (.bipush 81, 2) := dc_bipush (gt_M_init_9 35) (gt_M_init_9 36) rfl
theorem d_M_init_937 : decode b_M_init 937 = .ok (.bipush 97, 2) := dc_bipush (gt_M_init_9 37) (gt_M_init_9 38) rfl
theorem d_M_init_939 : decode b_M_init 939 = .ok (.bastore, 1) := dc_bastore (gt_M_init_9 39)
theorem d_M_init_940 : decode b_M_init 940 = .ok (.dup, 1) := dc_dup (gt_M_init_9 40)
theorem d_M_init_941 : decode b_M_init 941 = .ok (.bipush 82, 2) := dc_bipush (gt_M_init_9 41) (gt_M_init_9 42) rfl
theorem d_M_init_943 : decode b_M_init 943 = .ok (.bipush 100, 2) := dc_bipush (gt_M_init_9 43) (gt_M_init_9 44) rfl
theorem d_M_init_945 : decode b_M_init 945 = .ok (.bastore, 1) := dc_bastore (gt_M_init_9 45)
theorem d_M_init_946 : decode b_M_init 946 = .ok (.dup, 1) := dc_dup (gt_M_init_9 46)
theorem d_M_init_947 : decode b_M_init 947 = .ok (.bipush 83, 2) := dc_bipush (gt_M_init_9 47) (gt_M_init_9 48) rfl
theorem d_M_init_949 : decode b_M_init 949 = .ok (.bipush 109, 2) := dc_bipush (gt_M_init_9 49) (gt_M_init_9 50) rfl
theorem d_M_init_951 : decode b_M_init 951 = .ok (.bastore, 1) := dc_bastore (gt_M_init_9 51)
theorem d_M_init_952 : decode b_M_init 952 = .ok (.dup, 1) := dc_dup (gt_M_init_9 52)
theorem d_M_init_953 : decode b_M_init 953 = .ok (.bipush 84, 2) := dc_bipush (gt_M_init_9 53) (gt_M_init_9 54) rfl
theorem d_M_init_955 : decode b_M_init 955 = .ok (.bipush 97, 2) := dc_bipush (gt_M_init_9 55) (gt_M_init_9 56) rfl
theorem d_M_init_957 : decode b_M_init 957 = .ok (.bastore, 1) := dc_bastore (gt_M_init_9 57)
theorem d_M_init_958 : decode b_M_init 958 = .ok (.dup, 1) := dc_dup (gt_M_init_9 58)
theorem d_M_init_959 : decode b_M_init 959 = .ok (.bipush 85, 2) := dc_bipush (gt_M_init_9 59) (gt_M_init_9 60) rfl
theorem d_M_init_961 : decode b_M_init 961 = .ok (.bipush 116, 2) := dc_bipush (gt_M_init_9 61) (gt_M_init_9 62) rfl
theorem d_M_init_963 : decode b_M_init 963 = .ok (.bastore, 1) := dc_bastore (gt_M_init_9 63)
theorem d_M_init_964 : decode b_M_init 964 = .ok (.dup, 1) := dc_dup (gt_M_init_9 64)
theorem d_M_init_965 : decode b_M_init 965 = .ok (.bipush 86, 2) := dc_bipush (gt_M_init_9 65) (gt_M_init_9 66) rfl
theorem d_M_init_967 : decode b_M_init 967 = .ok (.bipush 99, 2) := dc_bipush (gt_M_init_9 67) (gt_M_init_9 68) rfl
theorem d_M_init_969 : decode b_M_init 969 = .ok (.bastore, 1) := dc_bastore (gt_M_init_9 69)
theorem d_M_init_970 : decode b_M_init 970 = .ok (.dup, 1) := dc_dup (gt_M_init_9 70)
theorem d_M_init_971 : decode b_M_init 971 = .ok (.bipush 87, 2) := dc_bipush (gt_M_init_9 71) (gt_M_init_9 72) rfl
theorem d_M_init_973 : decode b_M_init 973 = .ok (.bipush 104, 2) := dc_bipush (gt_M_init_9 73) (gt_M_init_9 74) rfl
theorem d_M_init_975 : decode b_M_init 975 = .ok (.bastore, 1) := dc_bastore (gt_M_init_9 75)
theorem d_M_init_976 : decode b_M_init 976 = .ok (.dup, 1) := dc_dup (gt_M_init_9 76)
theorem d_M_init_977 : decode b_M_init 977 = .ok (.bipush 88, 2) := dc_bipush (gt_M_init_9 77) (gt_M_init_9 78) rfl
theorem d_M_init_979 : decode b_M_init 979 = .ok (.bipush 15, 2) := dc_bipush (gt_M_init_9 79) (gt_M_init_9 80) rfl
theorem d_M_init_981 : decode b_M_init 981 = .ok (.bastore, 1) := dc_bastore (gt_M_init_9 81)
theorem d_M_init_982 : decode b_M_init 982 = .ok (.dup, 1) := dc_dup (gt_M_init_9 82)
theorem d_M_init_983 : decode b_M_init 983 = .ok (.bipush 89, 2) := dc_bipush (gt_M_init_9 83) (gt_M_init_9 84) rfl
theorem d_M_init_985 : decode b_M_init 985 = .ok (.bipush 102, 2) := dc_bipush (gt_M_init_9 85) (gt_M_init_9 86) rfl
theorem d_M_init_987 : decode b_M_init 987 = .ok (.bastore, 1) := dc_bastore (gt_M_init_9 87)
theorem d_M_init_988 : decode b_M_init 988 = .ok (.dup, 1) := dc_dup (gt_M_init_9 88)
theorem d_M_init_989 : decode b_M_init 989 = .ok (.bipush 90, 2) := dc_bipush (gt_M_init_9 89) (gt_M_init_9 90) rfl
theorem d_M_init_991 : decode b_M_init 991 = .ok (.bipush 117, 2) := dc_bipush (gt_M_init_9 91) (gt_M_init_9 92) rfl
theorem d_M_init_993 : decode b_M_init 993 = .ok (.bastore, 1) := dc_bastore (gt_M_init_9 93)
theorem d_M_init_994 : decode b_M_init 994 = .ok (.dup, 1) := dc_dup (gt_M_init_9 94)
theorem d_M_init_995 : decode b_M_init 995 = .ok (.bipush 91, 2) := dc_bipush (gt_M_init_9 95) (gt_M_init_9 96) rfl
theorem d_M_init_997 : decode b_M_init 997 = .ok (.bipush 110, 2) := dc_bipush (gt_M_init_9 97) (gt_M_init_9 98) rfl
theorem d_M_init_999 : decode b_M_init 999 = .ok (.bastore, 1) := dc_bastore (gt_M_init_9 99)
theorem d_M_init_1000 : decode b_M_init 1000 = .ok (.dup, 1) := dc_dup (gt_M_init_10 0)
theorem d_M_init_1001 : decode b_M_init 1001 = .ok (.bipush 92, 2) := dc_bipush (gt_M_init_10 1) (gt_M_init_10 2) rfl
theorem d_M_init_1003 : decode b_M_init 1003 = .ok (.bipush 99, 2) := dc_bipush (gt_M_init_10 3) (gt_M_init_10 4) rfl
theorem d_M_init_1005 : decode b_M_init 1005 = .ok (.bastore, 1) := dc_bastore (gt_M_init_10 5)
theorem d_M_init_1006 : decode b_M_init 1006 = .ok (.dup, 1) := dc_dup (gt_M_init_10 6)
theorem d_M_init_1007 : decode b_M_init 1007 = .ok (.bipush 93, 2) := dc_bipush (gt_M_init_10 7) (gt_M_init_10 8) rfl
theorem d_M_init_1009 : decode b_M_init 1009 = .ok (.bipush 116, 2) := dc_bipush (gt_M_init_10 9) (gt_M_init_10 10) rfl
theorem d_M_init_1011 : decode b_M_init 1011 = .ok (.bastore, 1) := dc_bastore (gt_M_init_10 11)
theorem d_M_init_1012 : decode b_M_init 1012 = .ok (.dup, 1) := dc_dup (gt_M_init_10 12)
theorem d_M_init_1013 : decode b_M_init 1013 = .ok (.bipush 94, 2) := dc_bipush (gt_M_init_10 13) (gt_M_init_10 14) rfl
theorem d_M_init_1015 : decode b_M_init 1015 = .ok (.bipush 105, 2) := dc_bipush (gt_M_init_10 15) (gt_M_init_10 16) rfl
theorem d_M_init_1017 : decode b_M_init 1017 = .ok (.bastore, 1) := dc_bastore (gt_M_init_10 17)
theorem d_M_init_1018 : decode b_M_init 1018 = .ok (.dup, 1) := dc_dup (gt_M_init_10 18)
theorem d_M_init_1019 : decode b_M_init 1019 = .ok (.bipush 95, 2) := dc_bipush (gt_M_init_10 19) (gt_M_init_10 20) rfl
theorem d_M_init_1021 : decode b_M_init 1021 = .ok (.bipush 111, 2) := dc_bipush (gt_M_init_10 21) (gt_M_init_10 22) rfl
theorem d_M_init_1023 : decode b_M_init 1023 = .ok (.bastore, 1) := dc_bastore (gt_M_init_10 23)
theorem d_M_init_1024 : decode b_M_init 1024 = .ok (.dup, 1) := dc_dup (gt_M_init_10 24)
theorem d_M_init_1025 : decode b_M_init 1025 = .ok (.bipush 96, 2) := dc_bipush (gt_M_init_10 25) (gt_M_init_10 26) rfl
theorem d_M_init_1027 : decode b_M_init 1027 = .ok (.bipush 110, 2) := dc_bipush (gt_M_init_10 27) (gt_M_init_10 28) rfl
theorem d_M_init_1029 : decode b_M_init 1029 = .ok (.bastore, 1) := dc_bastore (gt_M_init_10 29)
theorem d_M_init_1030 : decode b_M_init 1030 = .ok (.dup, 1) := dc_dup (gt_M_init_10 30)
theorem d_M_init_1031 : decode b_M_init 1031 = .ok (.bipush 97, 2) := dc_bipush (gt_M_init_10 31) (gt_M_init_10 32) rfl
theorem d_M_init_1033 : decode b_M_init 1033 = .ok (.bipush 95, 2) := dc_bipush (gt_M_init_10 33) (gt_M_init_10 34) rfl
theorem d_M_init_1035 : decode b_M_init 1035 = .ok (.bastore, 1) := dc_bastore (gt_M_init_10 35)
theorem d_M_init_1036 : decode b_M_init 1036 = .ok (.dup, 1) := dc_dup (gt_M_init_10 36)
theorem d_M_init_1037 : decode b_M_init 1037 = .ok (.bipush 98, 2) := dc_bipush (gt_M_init_10 37) (gt_M_init_10 38) rfl
theorem d_M_init_1039 : decode b_M_init 1039 = .ok (.bipush 99, 2) := dc_bipush (gt_M_init_10 39) (gt_M_init_10 40) rfl
theorem d_M_init_1041 : decode b_M_init 1041 = .ok (.bastore, 1) := dc_bastore (gt_M_init_10 41)
theorem d_M_init_1042 : decode b_M_init 1042 = .ok (.dup, 1) := dc_dup (gt_M_init_10 42)
theorem d_M_init_1043 : decode b_M_init 1043 = .ok (.bipush 99, 2) := dc_bipush (gt_M_init_10 43) (gt_M_init_10 44) rfl
theorem d_M_init_1045 : decode b_M_init 1045 = .ok (.bipush 108, 2) := dc_bipush (gt_M_init_10 45) (gt_M_init_10 46) rfl
theorem d_M_init_1047 : decode b_M_init 1047 = .ok (.bastore, 1) := dc_bastore (gt_M_init_10 47)
theorem d_M_init_1048 : decode b_M_init 1048 = .ok (.dup, 1) := dc_dup (gt_M_init_10 48)
theorem d_M_init_1049 : decode b_M_init 1049 = .ok (.bipush 100, 2) := dc_bipush (gt_M_init_10 49) (gt_M_init_10 50) rfl
theorem d_M_init_1051 : decode b_M_init 1051 = .ok (.bipush 97, 2) := dc_bipush (gt_M_init_10 51) (gt_M_init_10 52) rfl
theorem d_M_init_1053 : decode b_M_init 1053 = .ok (.bastore, 1) := dc_bastore (gt_M_init_10 53)
theorem d_M_init_1054 : decode b_M_init 1054 = .ok (.dup, 1) := dc_dup (gt_M_init_10 54)
theorem d_M_init_1055 : decode b_M_init 1055 = .ok (.bipush 101, 2) := dc_bipush (gt_M_init_10 55) (gt_M_init_10 56) rfl
theorem d_M_init_1057 : decode b_M_init 1057 = .ok (.bipush 117, 2) := dc_bipush (gt_M_init_10 57) (gt_M_init_10 58) rfl
theorem d_M_init_1059 : decode b_M_init 1059 = .ok (.bastore, 1) := dc_bastore (gt_M_init_10 59)
theorem d_M_init_1060 : decode b_M_init 1060 = .ok (.dup, 1) := dc_dup (gt_M_init_10 60)
theorem d_M_init_1061 : decode b_M_init 1061 = .ok (.bipush 102, 2) := dc_bipush (gt_M_init_10 61) (gt_M_init_10 62) rfl
theorem d_M_init_1063 : decode b_M_init 1063 = .ok (.bipush 115, 2) := dc_bipush (gt_M_init_10 63) (gt_M_init_10 64) rfl
theorem d_M_init_1065 : decode b_M_init 1065 = .ok (.bastore, 1) := dc_bastore (gt_M_init_10 65)
theorem d_M_init_1066 : decode b_M_init 1066 = .ok (.dup, 1) := dc_dup (gt_M_init_10 66)
theorem d_M_init_1067 : decode b_M_init 1067 = .ok (.bipush 103, 2) := dc_bipush (gt_M_init_10 67) (gt_M_init_10 68) rfl
theorem d_M_init_1069 : decode b_M_init 1069 = .ok (.bipush 101, 2) := dc_bipush (gt_M_init_10 69) (gt_M_init_10 70) rfl
theorem d_M_init_1071 : decode b_M_init 1071 = .ok (.bastore, 1) := dc_bastore (gt_M_init_10 71)
theorem d_M_init_1072 : decode b_M_init 1072 = .ok (.dup, 1) := dc_dup (gt_M_init_10 72)
theorem d_M_init_1073 : decode b_M_init 1073 = .ok (.bipush 104, 2) := dc_bipush (gt_M_init_10 73) (gt_M_init_10 74) rfl
theorem d_M_init_1075 : decode b_M_init 1075 = .ok (.bipush 11, 2) := dc_bipush (gt_M_init_10 75) (gt_M_init_10 76) rfl
theorem d_M_init_1077 : decode b_M_init 1077 = .ok (.bastore, 1) := dc_bastore (gt_M_init_10 77)
theorem d_M_init_1078 : decode b_M_init 1078 = .ok (.dup, 1) := dc_dup (gt_M_init_10 78)
theorem d_M_init_1079 : decode b_M_init 1079 = .ok (.bipush 105, 2) := dc_bipush (gt_M_init_10 79) (gt_M_init_10 80) rfl
theorem d_M_init_1081 : decode b_M_init 1081 = .ok (.bipush 99, 2) := dc_bipush (gt_M_init_10 81) (gt_M_init_10 82) rfl
theorem d_M_init_1083 : decode b_M_init 1083 = .ok (.bastore, 1) := dc_bastore (gt_M_init_10 83)
theorem d_M_init_1084 : decode b_M_init 1084 = .ok (.dup, 1) := dc_dup (gt_M_init_10 84)
theorem d_M_init_1085 : decode b_M_init 1085 = .ok (.bipush 106, 2) := dc_bipush (gt_M_init_10 85) (gt_M_init_10 86) rfl
theorem d_M_init_1087 : decode b_M_init 1087 = .ok (.bipush 97, 2) := dc_bipush (gt_M_init_10 87) (gt_M_init_10 88) rfl
theorem d_M_init_1089 : decode b_M_init 1089 = .ok (.bastore, 1) := dc_bastore (gt_M_init_10 89)
theorem d_M_init_1090 : decode b_M_init 1090 = .ok (.dup, 1) := dc_dup (gt_M_init_10 90)
theorem d_M_init_1091 : decode b_M_init 1091 = .ok (.bipush 107, 2) := dc_bipush (gt_M_init_10 91) (gt_M_init_10 92) rfl
theorem d_M_init_1093 : decode b_M_init 1093 = .ok (.bipush 115, 2) := dc_bipush (gt_M_init_10 93) (gt_M_init_10 94) rfl
theorem d_M_init_1095 : decode b_M_init 1095 = .ok (.bastore, 1) := dc_bastore (gt_M_init_10 95)
theorem d_M_init_1096 : decode b_M_init 1096 = .ok (.dup, 1) := dc_dup (gt_M_init_10 96)
theorem d_M_init_1097 : decode b_M_init 1097 = .ok (.bipush 108, 2) := dc_bipush (gt_M_init_10 97) (gt_M_init_10 98) rfl
theorem d_M_init_1099 : decode b_M_init 1099 = .ok (.bipush 101, 2) := dc_bipush (gt_M_init_10 99) (gt_M_init_11 0) rfl
theorem d_M_init_1101 : decode b_M_init 1101 = .ok (.bastore, 1) := dc_bastore (gt_M_init_11 1)
theorem d_M_init_1102 : decode b_M_init 1102 = .ok (.dup, 1) := dc_dup (gt_M_init_11 2)
theorem d_M_init_1103 : decode b_M_init 1103 = .ok (.bipush 109, 2) := dc_bipush (gt_M_init_11 3) (gt_M_init_11 4) rfl
theorem d_M_init_1105 : decode b_M_init 1105 = .ok (.bipush 95, 2) := dc_bipush (gt_M_init_11 5) (gt_M_init_11 6) rfl
theorem d_M_init_1107 : decode b_M_init 1107 = .ok (.bastore, 1) := dc_bastore (gt_M_init_11 7)
theorem d_M_init_1108 : decode b_M_init 1108 = .ok (.dup, 1) := dc_dup (gt_M_init_11 8)
theorem d_M_init_1109 : decode b_M_init 1109 = .ok (.bipush 110, 2) := dc_bipush (gt_M_init_11 9) (gt_M_init_11 10) rfl
theorem d_M_init_1111 : decode b_M_init 1111 = .ok (.bipush 99, 2) := dc_bipush (gt_M_init_11 11) (gt_M_init_11 12) rfl
theorem d_M_init_1113 : decode b_M_init 1113 = .ok (.bastore, 1) := dc_bastore (gt_M_init_11 13)
theorem d_M_init_1114 : decode b_M_init 1114 = .ok (.dup, 1) := dc_dup (gt_M_init_11 14)
theorem d_M_init_1115 : decode b_M_init 1115 = .ok (.bipush 111, 2) := dc_bipush (gt_M_init_11 15) (gt_M_init_11 16) rfl
theorem d_M_init_1117 : decode b_M_init 1117 = .ok (.bipush 108, 2) := dc_bipush (gt_M_init_11 17) (gt_M_init_11 18) rfl
theorem d_M_init_1119 : decode b_M_init 1119 = .ok (.bastore, 1) := dc_bastore (gt_M_init_11 19)
theorem d_M_init_1120 : decode b_M_init 1120 = .ok (.dup, 1) := dc_dup (gt_M_init_11 20)
theorem d_M_init_1121 : decode b_M_init 1121 = .ok (.bipush 112, 2) := dc_bipush (gt_M_init_11 21) (gt_M_init_11 22) rfl
theorem d_M_init_1123 : decode b_M_init 1123 = .ok (.bipush 97, 2) := dc_bipush (gt_M_init_11 23) (gt_M_init_11 24) rfl
theorem d_M_init_1125 : decode b_M_init 1125 = .ok (.bastore, 1) := dc_bastore (gt_M_init_11 25)
theorem d_M_init_1126 : decode b_M_init 1126 = .ok (.dup, 1) := dc_dup (gt_M_init_11 26)
theorem d_M_init_1127 : decode b_M_init 1127 = .ok (.bipush 113, 2) := dc_bipush (gt_M_init_11 27) (gt_M_init_11 28) rfl
theorem d_M_init_1129 : decode b_M_init 1129 = .ok (.bipush 117, 2) := dc_bipush (gt_M_init_11 29) (gt_M_init_11 30) rfl
theorem d_M_init_1131 : decode b_M_init 1131 = .ok (.bastore, 1) := dc_bastore (gt_M_init_11 31)
theorem d_M_init_1132 : decode b_M_init 1132 = .ok (.dup, 1) := dc_dup (gt_M_init_11 32)
theorem d_M_init_1133 : decode b_M_init 1133 = .ok (.bipush 114, 2) := dc_bipush (gt_M_init_11 33) (gt_M_init_11 34) rfl
theorem d_M_init_1135 : decode b_M_init 1135 = .ok (.bipush 115, 2) := dc_bipush (gt_M_init_11 35) (gt_M_init_11 36) rfl
theorem d_M_init_1137 : decode b_M_init 1137 = .ok (.bastore, 1) := dc_bastore (gt_M_init_11 37)
theorem d_M_init_1138 : decode b_M_init 1138 = .ok (.dup, 1) := dc_dup (gt_M_init_11 38)
theorem d_M_init_1139 : decode b_M_init 1139 = .ok (.bipush 115, 2) := dc_bipush (gt_M_init_11 39) (gt_M_init_11 40) rfl
theorem d_M_init_1141 : decode b_M_init 1141 = .ok (.bipush 101, 2) := dc_bipush (gt_M_init_11 41) (gt_M_init_11 42) rfl
theorem d_M_init_1143 : decode b_M_init 1143 = .ok (.bastore, 1) := dc_bastore (gt_M_init_11 43)
theorem d_M_init_1144 : decode b_M_init 1144 = .ok (.dup, 1) := dc_dup (gt_M_init_11 44)
theorem d_M_init_1145 : decode b_M_init 1145 = .ok (.bipush 116, 2) := dc_bipush (gt_M_init_11 45) (gt_M_init_11 46) rfl
theorem d_M_init_1147 : decode b_M_init 1147 = .ok (.bipush 9, 2) := dc_bipush (gt_M_init_11 47) (gt_M_init_11 48) rfl
theorem d_M_init_1149 : decode b_M_init 1149 = .ok (.bastore, 1) := dc_bastore (gt_M_init_11 49)
theorem d_M_init_1150 : decode b_M_init 1150 = .ok (.dup, 1) := dc_dup (gt_M_init_11 50)
theorem d_M_init_1151 : decode b_M_init 1151 = .ok (.bipush 117, 2) := dc_bipush (gt_M_init_11 51) (gt_M_init_11 52) rfl
theorem d_M_init_1153 : decode b_M_init 1153 = .ok (.bipush 105, 2) := dc_bipush (gt_M_init_11 53) (gt_M_init_11 54) rfl
theorem d_M_init_1155 : decode b_M_init 1155 = .ok (.bastore, 1) := dc_bastore (gt_M_init_11 55)
theorem d_M_init_1156 : decode b_M_init 1156 = .ok (.dup, 1) := dc_dup (gt_M_init_11 56)
theorem d_M_init_1157 : decode b_M_init 1157 = .ok (.bipush 118, 2) := dc_bipush (gt_M_init_11 57) (gt_M_init_11 58) rfl
theorem d_M_init_1159 : decode b_M_init 1159 = .ok (.bipush 102, 2) := dc_bipush (gt_M_init_11 59) (gt_M_init_11 60) rfl
theorem d_M_init_1161 : decode b_M_init 1161 = .ok (.bastore, 1) := dc_bastore (gt_M_init_11 61)
theorem d_M_init_1162 : decode b_M_init 1162 = .ok (.dup, 1) := dc_dup (gt_M_init_11 62)
theorem d_M_init_1163 : decode b_M_init 1163 = .ok (.bipush 119, 2) := dc_bipush (gt_M_init_11 63) (gt_M_init_11 64) rfl
theorem d_M_init_1165 : decode b_M_init 1165 = .ok (.bipush 95, 2) := dc_bipush (gt_M_init_11 65) (gt_M_init_11 66) rfl
theorem d_M_init_1167 : decode b_M_init 1167 = .ok (.bastore, 1) := dc_bastore (gt_M_init_11 67)
theorem d_M_init_1168 : decode b_M_init 1168 = .ok (.dup, 1) := dc_dup (gt_M_init_11 68)
theorem d_M_init_1169 : decode b_M_init 1169 = .ok (.bipush 120, 2) := dc_bipush (gt_M_init_11 69) (gt_M_init_11 70) rfl
theorem d_M_init_1171 : decode b_M_init 1171 = .ok (.bipush 99, 2) := dc_bipush (gt_M_init_11 71) (gt_M_init_11 72) rfl
theorem d_M_init_1173 : decode b_M_init 1173 = .ok (.bastore, 1) := dc_bastore (gt_M_init_11 73)
theorem d_M_init_1174 : decode b_M_init 1174 = .ok (.dup, 1) := dc_dup (gt_M_init_11 74)
theorem d_M_init_1175 : decode b_M_init 1175 = .ok (.bipush 121, 2) := dc_bipush (gt_M_init_11 75) (gt_M_init_11 76) rfl
theorem d_M_init_1177 : decode b_M_init 1177 = .ok (.bipush 108, 2) := dc_bipush (gt_M_init_11 77) (gt_M_init_11 78) rfl
theorem d_M_init_1179 : decode b_M_init 1179 = .ok (.bastore, 1) := dc_bastore (gt_M_init_11 79)
theorem d_M_init_1180 : decode b_M_init 1180 = .ok (.dup, 1) := dc_dup (gt_M_init_11 80)
theorem d_M_init_1181 : decode b_M_init 1181 = .ok (.bipush 122, 2) := dc_bipush (gt_M_init_11 81) (gt_M_init_11 82) rfl
theorem d_M_init_1183 : decode b_M_init 1183 = .ok (.bipush 97, 2) := dc_bipush (gt_M_init_11 83) (gt_M_init_11 84) rfl
theorem d_M_init_1185 : decode b_M_init 1185 = .ok (.bastore, 1) := dc_bastore (gt_M_init_11 85)
theorem d_M_init_1186 : decode b_M_init 1186 = .ok (.dup, 1) := dc_dup (gt_M_init_11 86)
theorem d_M_init_1187 : decode b_M_init 1187 = .ok (.bipush 123, 2) := dc_bipush (gt_M_init_11 87) (gt_M_init_11 88) rfl
theorem d_M_init_1189 : decode b_M_init 1189 = .ok (.bipush 117, 2) := dc_bipush (gt_M_init_11 89) (gt_M_init_11 90) rfl
theorem d_M_init_1191 : decode b_M_init 1191 = .ok (.bastore, 1) := dc_bastore (gt_M_init_11 91)
theorem d_M_init_1192 : decode b_M_init 1192 = .ok (.dup, 1) := dc_dup (gt_M_init_11 92)
theorem d_M_init_1193 : decode b_M_init 1193 = .ok (.bipush 124, 2) := dc_bipush (gt_M_init_11 93) (gt_M_init_11 94) rfl
theorem d_M_init_1195 : decode b_M_init 1195 = .ok (.bipush 115, 2) := dc_bipush (gt_M_init_11 95) (gt_M_init_11 96) rfl
theorem d_M_init_1197 : decode b_M_init 1197 = .ok (.bastore, 1) := dc_bastore (gt_M_init_11 97)
theorem d_M_init_1198 : decode b_M_init 1198 = .ok (.dup, 1) := dc_dup (gt_M_init_11 98)
theorem d_M_init_1199 : decode b_M_init 1199 = .ok (.bipush 125, 2) := dc_bipush (gt_M_init_11 99) (gt_M_init_12 0) rfl
theorem d_M_init_1201 : decode b_M_init 1201 = .ok (.bipush 101, 2) := dc_bipush (gt_M_init_12 1) (gt_M_init_12 2) rfl
theorem d_M_init_1203 : decode b_M_init 1203 = .ok (.bastore, 1) := dc_bastore (gt_M_init_12 3)
theorem d_M_init_1204 : decode b_M_init 1204 = .ok (.dup, 1) := dc_dup (gt_M_init_12 4)
theorem d_M_init_1205 : decode b_M_init 1205 = .ok (.bipush 126, 2) := dc_bipush (gt_M_init_12 5) (gt_M_init_12 6) rfl
theorem d_M_init_1207 : decode b_M_init 1207 = .ok (.bipush 6, 2) := dc_bipush (gt_M_init_12 7) (gt_M_init_12 8) rfl
theorem d_M_init_1209 : decode b_M_init 1209 = .ok (.bastore, 1) := dc_bastore (gt_M_init_12 9)
theorem d_M_init_1210 : decode b_M_init 1210 = .ok (.dup, 1) := dc_dup (gt_M_init_12 10)
theorem d_M_init_1211 : decode b_M_init 1211 = .ok (.bipush 127, 2) := dc_bipush (gt_M_init_12 11) (gt_M_init_12 12) rfl
theorem d_M_init_1213 : decode b_M_init 1213 = .ok (.bipush 98, 2) := dc_bipush (gt_M_init_12 13) (gt_M_init_12 14) rfl
theorem d_M_init_1215 : decode b_M_init 1215 = .ok (.bastore, 1) := dc_bastore (gt_M_init_12 15)
theorem d_M_init_1216 : decode b_M_init 1216 = .ok (.dup, 1) := dc_dup (gt_M_init_12 16)
theorem d_M_init_1217 : decode b_M_init 1217 = .ok (.sipush 128, 3) := dc_sipush (gt_M_init_12 17) (gt_M_init_12 18) (gt_M_init_12 19) (by decide)
theorem d_M_init_1220 : decode b_M_init 1220 = .ok (.bipush 97, 2) := dc_bipush (gt_M_init_12 20) (gt_M_init_12 21) rfl
theorem d_M_init_1222 : decode b_M_init 1222 = .ok (.bastore, 1) := dc_bastore (gt_M_init_12 22)
theorem d_M_init_1223 : decode b_M_init 1223 = .ok (.dup, 1) := dc_dup (gt_M_init_12 23)
theorem d_M_init_1224 : decode b_M_init 1224 = .ok (.sipush 129, 3) := dc_sipush (gt_M_init_12 24) (gt_M_init_12 25) (gt_M_init_12 26) (by decide)
theorem d_M_init_1227 : decode b_M_init 1227 = .ok (.bipush 100, 2) := dc_bipush (gt_M_init_12 27) (gt_M_init_12 28) rfl
theorem d_M_init_1229 : decode b_M_init 1229 = .ok (.bastore, 1) := dc_bastore (gt_M_init_12 29)
theorem d_M_init_1230 : decode b_M_init 1230 = .ok (.dup, 1) := dc_dup (gt_M_init_12 30)
theorem d_M_init_1231 : decode b_M_init 1231 = .ok (.sipush 130, 3) := dc_sipush (gt_M_init_12 31) (gt_M_init_12 32) (gt_M_init_12 33) (by decide)
theorem d_M_init_1234 : decode b_M_init 1234 = .ok (.bipush 102, 2) := dc_bipush (gt_M_init_12 34) (gt_M_init_12 35) rfl
theorem d_M_init_1236 : decode b_M_init 1236 = .ok (.bastore, 1) := dc_bastore (gt_M_init_12 36)
theorem d_M_init_1237 : decode b_M_init 1237 = .ok (.dup, 1) := dc_dup (gt_M_init_12 37)
theorem d_M_init_1238 : decode b_M_init 1238 = .ok (.sipush 131, 3) := dc_sipush (gt_M_init_12 38) (gt_M_init_12 39) (gt_M_init_12 40) (by decide)
theorem d_M_init_1241 : decode b_M_init 1241 = .ok (.bipush 117, 2) := dc_bipush (gt_M_init_12 41) (gt_M_init_12 42) rfl
theorem d_M_init_1243 : decode b_M_init 1243 = .ok (.bastore, 1) := dc_bastore (gt_M_init_12 43)
theorem d_M_init_1244 : decode b_M_init 1244 = .ok (.dup, 1) := dc_dup (gt_M_init_12 44)
theorem d_M_init_1245 : decode b_M_init 1245 = .ok (.sipush 132, 3) := dc_sipush (gt_M_init_12 45) (gt_M_init_12 46) (gt_M_init_12 47) (by decide)
theorem d_M_init_1248 : decode b_M_init 1248 = .ok (.bipush 110, 2) := dc_bipush (gt_M_init_12 48) (gt_M_init_12 49) rfl
theorem d_M_init_1250 : decode b_M_init 1250 = .ok (.bastore, 1) := dc_bastore (gt_M_init_12 50)
theorem d_M_init_1251 : decode b_M_init 1251 = .ok (.dup, 1) := dc_dup (gt_M_init_12 51)
theorem d_M_init_1252 : decode b_M_init 1252 = .ok (.sipush 133, 3) := dc_sipush (gt_M_init_12 52) (gt_M_init_12 53) (gt_M_init_12 54) (by decide)
theorem d_M_init_1255 : decode b_M_init 1255 = .ok (.bipush 8, 2) := dc_bipush (gt_M_init_12 55) (gt_M_init_12 56) rfl
theorem d_M_init_1257 : decode b_M_init 1257 = .ok (.bastore, 1) := dc_bastore (gt_M_init_12 57)
theorem d_M_init_1258 : decode b_M_init 1258 = .ok (.dup, 1) := dc_dup (gt_M_init_12 58)
theorem d_M_init_1259 : decode b_M_init 1259 = .ok (.sipush 134, 3) := dc_sipush (gt_M_init_12 59) (gt_M_init_12 60) (gt_M_init_12 61) (by decide)
theorem d_M_init_1262 : decode b_M_init 1262 = .ok (.bipush 98, 2) := dc_bipush (gt_M_init_12 62) (gt_M_init_12 63) rfl
theorem d_M_init_1264 : decode b_M_init 1264 = .ok (.bastore, 1) := dc_bastore (gt_M_init_12 64)
theorem d_M_init_1265 : decode b_M_init 1265 = .ok (.dup, 1) := dc_dup (gt_M_init_12 65)
theorem d_M_init_1266 : decode b_M_init 1266 = .ok (.sipush 135, 3) := dc_sipush (gt_M_init_12 66) (gt_M_init_12 67) (gt_M_init_12 68) (by decide)
theorem d_M_init_1269 : decode b_M_init 1269 = .ok (.bipush 97, 2) := dc_bipush (gt_M_init_12 69) (gt_M_init_12 70) rfl
theorem d_M_init_1271 : decode b_M_init 1271 = .ok (.bastore, 1) := dc_bastore (gt_M_init_12 71)
theorem d_M_init_1272 : decode b_M_init 1272 = .ok (.dup, 1) := dc_dup (gt_M_init_12 72)
theorem d_M_init_1273 : decode b_M_init 1273 = .ok (.sipush 136, 3) := dc_sipush (gt_M_init_12 73) (gt_M_init_12 74) (gt_M_init_12 75) (by decide)
theorem d_M_init_1276 : decode b_M_init 1276 = .ok (.bipush 100, 2) := dc_bipush (gt_M_init_12 76) (gt_M_init_12 77) rfl
theorem d_M_init_1278 : decode b_M_init 1278 = .ok (.bastore, 1) := dc_bastore (gt_M_init_12 78)
theorem d_M_init_1279 : decode b_M_init 1279 = .ok (.dup, 1) := dc_dup (gt_M_init_12 79)
theorem d_M_init_1280 : decode b_M_init 1280 = .ok (.sipush 137, 3) := dc_sipush (gt_M_init_12 80) (gt_M_init_12 81) (gt_M_init_12 82) (by decide)
theorem d_M_init_1283 : decode b_M_init 1283 = .ok (.bipush 97, 2) := dc_bipush (gt_M_init_12 83) (gt_M_init_12 84) rfl
theorem d_M_init_1285 : decode b_M_init 1285 = .ok (.bastore, 1) := dc_bastore (gt_M_init_12 85)
theorem d_M_init_1286 : decode b_M_init 1286 = .ok (.dup, 1) := dc_dup (gt_M_init_12 86)
theorem d_M_init_1287 : decode b_M_init 1287 = .ok (.sipush 138, 3) := dc_sipush (gt_M_init_12 87) (gt_M_init_12 88) (gt_M_init_12 89) (by decide)
theorem d_M_init_1290 : decode b_M_init 1290 = .ok (.bipush 114, 2) := dc_bipush (gt_M_init_12 90) (gt_M_init_12 91) rfl
theorem d_M_init_1292 : decode b_M_init 1292 = .ok (.bastore, 1) := dc_bastore (gt_M_init_12 92)
theorem d_M_init_1293 : decode b_M_init 1293 = .ok (.dup, 1) := dc_dup (gt_M_init_12 93)
theorem d_M_init_1294 : decode b_M_init 1294 = .ok (.sipush 139, 3) := dc_sipush (gt_M_init_12 94) (gt_M_init_12 95) (gt_M_init_12 96) (by decide)
theorem d_M_init_1297 : decode b_M_init 1297 = .ok (.bipush 105, 2) := dc_bipush (gt_M_init_12 97) (gt_M_init_12 98) rfl
theorem d_M_init_1299 : decode b_M_init 1299 = .ok (.bastore, 1) := dc_bastore (gt_M_init_12 99)
theorem d_M_init_1300 : decode b_M_init 1300 = .ok (.dup, 1) := dc_dup (gt_M_init_13 0)
theorem d_M_init_1301 : decode b_M_init 1301 = .ok (.sipush 140, 3) := dc_sipush (gt_M_init_13 1) (gt_M_init_13 2) (gt_M_init_13 3) (by decide)
theorem d_M_init_1304 : decode b_M_init 1304 = .ok (.bipush 116, 2) := dc_bipush (gt_M_init_13 4) (gt_M_init_13 5) rfl
theorem d_M_init_1306 : decode b_M_init 1306 = .ok (.bastore, 1) := dc_bastore (gt_M_init_13 6)
theorem d_M_init_1307 : decode b_M_init 1307 = .ok (.dup, 1) := dc_dup (gt_M_init_13 7)
theorem d_M_init_1308 : decode b_M_init 1308 = .ok (.sipush 141, 3) := dc_sipush (gt_M_init_13 8) (gt_M_init_13 9) (gt_M_init_13 10) (by decide)
theorem d_M_init_1311 : decode b_M_init 1311 = .ok (.bipush 121, 2) := dc_bipush (gt_M_init_13 11) (gt_M_init_13 12) rfl
theorem d_M_init_1313 : decode b_M_init 1313 = .ok (.bastore, 1) := dc_bastore (gt_M_init_13 13)
theorem d_M_init_1314 : decode b_M_init 1314 = .ok (.dup, 1) := dc_dup (gt_M_init_13 14)
theorem d_M_init_1315 : decode b_M_init 1315 = .ok (.sipush 142, 3) := dc_sipush (gt_M_init_13 15) (gt_M_init_13 16) (gt_M_init_13 17) (by decide)
theorem d_M_init_1318 : decode b_M_init 1318 = .ok (.bipush 7, 2) := dc_bipush (gt_M_init_13 18) (gt_M_init_13 19) rfl
theorem d_M_init_1320 : decode b_M_init 1320 = .ok (.bastore, 1) := dc_bastore (gt_M_init_13 20)
theorem d_M_init_1321 : decode b_M_init 1321 = .ok (.dup, 1) := dc_dup (gt_M_init_13 21)
theorem d_M_init_1322 : decode b_M_init 1322 = .ok (.sipush 143, 3) := dc_sipush (gt_M_init_13 22) (gt_M_init_13 23) (gt_M_init_13 24) (by decide)
theorem d_M_init_1325 : decode b_M_init 1325 = .ok (.bipush 110, 2) := dc_bipush (gt_M_init_13 25) (gt_M_init_13 26) rfl
theorem d_M_init_1327 : decode b_M_init 1327 = .ok (.bastore, 1) := dc_bastore (gt_M_init_13 27)
theorem d_M_init_1328 : decode b_M_init 1328 = .ok (.dup, 1) := dc_dup (gt_M_init_13 28)
theorem d_M_init_1329 : decode b_M_init 1329 = .ok (.sipush 144, 3) := dc_sipush (gt_M_init_13 29) (gt_M_init_13 30) (gt_M_init_13 31) (by decide)
theorem d_M_init_1332 : decode b_M_init 1332 = .ok (.bipush 111, 2) := dc_bipush (gt_M_init_13 32) (gt_M_init_13 33) rfl
theorem d_M_init_1334 : decode b_M_init 1334 = .ok (.bastore, 1) := dc_bastore (gt_M_init_13 34)
theorem d_M_init_1335 : decode b_M_init 1335 = .ok (.dup, 1) := dc_dup (gt_M_init_13 35)
theorem d_M_init_1336 : decode b_M_init 1336 = .ok (.sipush 145, 3) := dc_sipush (gt_M_init_13 36) (gt_M_init_13 37) (gt_M_init_13 38) (by decide)
theorem d_M_init_1339 : decode b_M_init 1339 = .ok (.bipush 99, 2) := dc_bipush (gt_M_init_13 39) (gt_M_init_13 40) rfl
theorem d_M_init_1341 : decode b_M_init 1341 = .ok (.bastore, 1) := dc_bastore (gt_M_init_13 41)
theorem d_M_init_1342 : decode b_M_init 1342 = .ok (.dup, 1) := dc_dup (gt_M_init_13 42)
theorem d_M_init_1343 : decode b_M_init 1343 = .ok (.sipush 146, 3) := dc_sipush (gt_M_init_13 43) (gt_M_init_13 44) (gt_M_init_13 45) (by decide)
theorem d_M_init_1346 : decode b_M_init 1346 = .ok (.bipush 97, 2) := dc_bipush (gt_M_init_13 46) (gt_M_init_13 47) rfl
theorem d_M_init_1348 : decode b_M_init 1348 = .ok (.bastore, 1) := dc_bastore (gt_M_init_13 48)
theorem d_M_init_1349 : decode b_M_init 1349 = .ok (.dup, 1) := dc_dup (gt_M_init_13 49)
theorem d_M_init_1350 : decode b_M_init 1350 = .ok (.sipush 147, 3) := dc_sipush (gt_M_init_13 50) (gt_M_init_13 51) (gt_M_init_13 52) (by decide)
theorem d_M_init_1353 : decode b_M_init 1353 = .ok (.bipush 116, 2) := dc_bipush (gt_M_init_13 53) (gt_M_init_13 54) rfl
theorem d_M_init_1355 : decode b_M_init 1355 = .ok (.bastore, 1) := dc_bastore (gt_M_init_13 55)
theorem d_M_init_1356 : decode b_M_init 1356 = .ok (.dup, 1) := dc_dup (gt_M_init_13 56)
theorem d_M_init_1357 : decode b_M_init 1357 = .ok (.sipush 148, 3) := dc_sipush (gt_M_init_13 57) (gt_M_init_13 58) (gt_M_init_13 59) (by decide)
theorem d_M_init_1360 : decode b_M_init 1360 = .ok (.bipush 99, 2) := dc_bipush (gt_M_init_13 60) (gt_M_init_13 61) rfl
theorem d_M_init_1362 : decode b_M_init 1362 = .ok (.bastore, 1) := dc_bastore (gt_M_init_13 62)
theorem d_M_init_1363 : decode b_M_init 1363 = .ok (.dup, 1) := dc_dup (gt_M_init_13 63)
theorem d_M_init_1364 : decode b_M_init 1364 = .ok (.sipush 149, 3) := dc_sipush (gt_M_init_13 64) (gt_M_init_13 65) (gt_M_init_13 66) (by decide)
theorem d_M_init_1367 : decode b_M_init 1367 = .ok (.bipush 104, 2) := dc_bipush (gt_M_init_13 67) (gt_M_init_13 68) rfl
theorem d_M_init_1369 : decode b_M_init 1369 = .ok (.bastore, 1) := dc_bastore (gt_M_init_13 69)
theorem d_M_init_1370 : decode b_M_init 1370 = .ok (.dup, 1) := dc_dup (gt_M_init_13 70)
theorem d_M_init_1371 : decode b_M_init 1371 = .ok (.sipush 150, 3) := dc_sipush (gt_M_init_13 71) (gt_M_init_13 72) (gt_M_init_13 73) (by decide)
theorem d_M_init_1374 : decode b_M_init 1374 = .ok (.iconst 4, 1) := dc_iconst_4 (gt_M_init_13 74)
theorem d_M_init_1375 : decode b_M_init 1375 = .ok (.bastore, 1) := dc_bastore (gt_M_init_13 75)
theorem d_M_init_1376 : decode b_M_init 1376 = .ok (.dup, 1) := dc_dup (gt_M_init_13 76)
theorem d_M_init_1377 : decode b_M_init 1377 = .ok (.sipush 151, 3) := dc_sipush (gt_M_init_13 77) (gt_M_init_13 78) (gt_M_init_13 79) (by decide)
theorem d_M_init_1380 : decode b_M_init 1380 = .ok (.bipush 104, 2) := dc_bipush (gt_M_init_13 80) (gt_M_init_13 81) rfl
theorem d_M_init_1382 : decode b_M_init 1382 = .ok (.bastore, 1) := dc_bastore (gt_M_init_13 82)
theorem d_M_init_1383 : decode b_M_init 1383 = .ok (.dup, 1) := dc_dup (gt_M_init_13 83)
theorem d_M_init_1384 : decode b_M_init 1384 = .ok (.sipush 152, 3) := dc_sipush (gt_M_init_13 84) (gt_M_init_13 85) (gt_M_init_13 86) (by decide)
theorem d_M_init_1387 : decode b_M_init 1387 = .ok (.bipush 101, 2) := dc_bipush (gt_M_init_13 87) (gt_M_init_13 88) rfl
theorem d_M_init_1389 : decode b_M_init 1389 = .ok (.bastore, 1) := dc_bastore (gt_M_init_13 89)
theorem d_M_init_1390 : decode b_M_init 1390 = .ok (.dup, 1) := dc_dup (gt_M_init_13 90)
theorem d_M_init_1391 : decode b_M_init 1391 = .ok (.sipush 153, 3) := dc_sipush (gt_M_init_13 91) (gt_M_init_13 92) (gt_M_init_13 93) (by decide)
theorem d_M_init_1394 : decode b_M_init 1394 = .ok (.bipush 97, 2) := dc_bipush (gt_M_init_13 94) (gt_M_init_13 95) rfl
theorem d_M_init_1396 : decode b_M_init 1396 = .ok (.bastore, 1) := dc_bastore (gt_M_init_13 96)
theorem d_M_init_1397 : decode b_M_init 1397 = .ok (.dup, 1) := dc_dup (gt_M_init_13 97)
theorem d_M_init_1398 : decode b_M_init 1398 = .ok (.sipush 154, 3) := dc_sipush (gt_M_init_13 98) (gt_M_init_13 99) (gt_M_init_14 0) (by decide)
theorem d_M_init_1401 : decode b_M_init 1401 = .ok (.bipush 112, 2) := dc_bipush (gt_M_init_14 1) (gt_M_init_14 2) rfl
theorem d_M_init_1403 : decode b_M_init 1403 = .ok (.bastore, 1) := dc_bastore (gt_M_init_14 3)
theorem d_M_init_1404 : decode b_M_init 1404 = .ok (.dup, 1) := dc_dup (gt_M_init_14 4)
theorem d_M_init_1405 : decode b_M_init 1405 = .ok (.sipush 155, 3) := dc_sipush (gt_M_init_14 5) (gt_M_init_14 6) (gt_M_init_14 7) (by decide)
theorem d_M_init_1408 : decode b_M_init 1408 = .ok (.iconst 5, 1) := dc_iconst_5 (gt_M_init_14 8)
theorem d_M_init_1409 : decode b_M_init 1409 = .ok (.bastore, 1) := dc_bastore (gt_M_init_14 9)
theorem d_M_init_1410 : decode b_M_init 1410 = .ok (.dup, 1) := dc_dup (gt_M_init_14 10)
theorem d_M_init_1411 : decode b_M_init 1411 = .ok (.sipush 156, 3) := dc_sipush (gt_M_init_14 11) (gt_M_init_14 12) (gt_M_init_14 13) (by decide)
theorem d_M_init_1414 : decode b_M_init 1414 = .ok (.bipush 115, 2) := dc_bipush (gt_M_init_14 14) (gt_M_init_14 15) rfl
theorem d_M_init_1416 : decode b_M_init 1416 = .ok (.bastore, 1) := dc_bastore (gt_M_init_14 16)
theorem d_M_init_1417 : decode b_M_init 1417 = .ok (.dup, 1) := dc_dup (gt_M_init_14 17)
theorem d_M_init_1418 : decode b_M_init 1418 = .ok (.sipush 157, 3) := dc_sipush (gt_M_init_14 18) (gt_M_init_14 19) (gt_M_init_14 20) (by decide)
theorem d_M_init_1421 : decode b_M_init 1421 = .ok (.bipush 116, 2) := dc_bipush (gt_M_init_14 21) (gt_M_init_14 22) rfl
theorem d_M_init_1423 : decode b_M_init 1423 = .ok (.bastore, 1) := dc_bastore (gt_M_init_14 23)
theorem d_M_init_1424 : decode b_M_init 1424 = .ok (.dup, 1) := dc_dup (gt_M_init_14 24)
theorem d_M_init_1425 : decode b_M_init 1425 = .ok (.sipush 158, 3) := dc_sipush (gt_M_init_14 25) (gt_M_init_14 26) (gt_M_init_14 27) (by decide)
theorem d_M_init_1428 : decode b_M_init 1428 = .ok (.bipush 97, 2) := dc_bipush (gt_M_init_14 28) (gt_M_init_14 29) rfl
theorem d_M_init_1430 : decode b_M_init 1430 = .ok (.bastore, 1) := dc_bastore (gt_M_init_14 30)
theorem d_M_init_1431 : decode b_M_init 1431 = .ok (.dup, 1) := dc_dup (gt_M_init_14 31)
theorem d_M_init_1432 : decode b_M_init 1432 = .ok (.sipush 159, 3) := dc_sipush (gt_M_init_14 32) (gt_M_init_14 33) (gt_M_init_14 34) (by decide)
theorem d_M_init_1435 : decode b_M_init 1435 = .ok (.bipush 99, 2) := dc_bipush (gt_M_init_14 35) (gt_M_init_14 36) rfl
theorem d_M_init_1437 : decode b_M_init 1437 = .ok (.bastore, 1) := dc_bastore (gt_M_init_14 37)
theorem d_M_init_1438 : decode b_M_init 1438 = .ok (.dup, 1) := dc_dup (gt_M_init_14 38)
theorem d_M_init_1439 : decode b_M_init 1439 = .ok (.sipush 160, 3) := dc_sipush (gt_M_init_14 39) (gt_M_init_14 40) (gt_M_init_14 41) (by decide)
theorem d_M_init_1442 : decode b_M_init 1442 = .ok (.bipush 107, 2) := dc_bipush (gt_M_init_14 42) (gt_M_init_14 43) rfl
theorem d_M_init_1444 : decode b_M_init 1444 = .ok (.bastore, 1) := dc_bastore (gt_M_init_14 44)
theorem d_M_init_1445 : decode b_M_init 1445 = .ok (.putfield 13, 3) := dc_putfield (gt_M_init_14 45) (gt_M_init_14 46) (gt_M_init_14 47) rfl
theorem d_M_init_1448 : decode b_M_init 1448 = .ok (.aload_n 0, 1) := dc_aload0 (gt_M_init_14 48)
theorem d_M_init_1449 : decode b_M_init 1449 = .ok (.sipush 218, 3) := dc_sipush (gt_M_init_14 49) (gt_M_init_14 50) (gt_M_init_14 51) (by decide)
theorem d_M_init_1452 : decode b_M_init 1452 = .ok (.newarray .byte, 2) := dc_newarray (gt_M_init_14 52) (gt_M_init_14 53) (fun _ => rfl)
theorem d_M_init_1454 : decode b_M_init 1454 = .ok (.dup, 1) := dc_dup (gt_M_init_14 54)
theorem d_M_init_1455 : decode b_M_init 1455 = .ok (.iconst 0, 1) := dc_iconst_0 (gt_M_init_14 55)
theorem d_M_init_1456 : decode b_M_init 1456 = .ok (.iconst 0, 1) := dc_iconst_0 (gt_M_init_14 56)
theorem d_M_init_1457 : decode b_M_init 1457 = .ok (.bastore, 1) := dc_bastore (gt_M_init_14 57)
theorem d_M_init_1458 : decode b_M_init 1458 = .ok (.dup, 1) := dc_dup (gt_M_init_14 58)
theorem d_M_init_1459 : decode b_M_init 1459 = .ok (.iconst 1, 1) := dc_iconst_1 (gt_M_init_14 59)
theorem d_M_init_1460 : decode b_M_init 1460 = .ok (.iconst 4, 1) := dc_iconst_4 (gt_M_init_14 60)
theorem d_M_init_1461 : decode b_M_init 1461 = .ok (.bastore, 1) := dc_bastore (gt_M_init_14 61)
theorem d_M_init_1462 : decode b_M_init 1462 = .ok (.dup, 1) := dc_dup (gt_M_init_14 62)
theorem d_M_init_1463 : decode b_M_init 1463 = .ok (.iconst 2, 1) := dc_iconst_2 (gt_M_init_14 63)
theorem d_M_init_1464 : decode b_M_init 1464 = .ok (.bipush 115, 2) := dc_bipush (gt_M_init_14 64) (gt_M_init_14 65) rfl
theorem d_M_init_1466 : decode b_M_init 1466 = .ok (.bastore, 1) := dc_bastore (gt_M_init_14 66)
theorem d_M_init_1467 : decode b_M_init 1467 = .ok (.dup, 1) := dc_dup (gt_M_init_14 67)
theorem d_M_init_1468 : decode b_M_init 1468 = .ok (.iconst 3, 1) := dc_iconst_3 (gt_M_init_14 68)
theorem d_M_init_1469 : decode b_M_init 1469 = .ok (.bipush 101, 2) := dc_bipush (gt_M_init_14 69) (gt_M_init_14 70) rfl
theorem d_M_init_1471 : decode b_M_init 1471 = .ok (.bastore, 1) := dc_bastore (gt_M_init_14 71)
theorem d_M_init_1472 : decode b_M_init 1472 = .ok (.dup, 1) := dc_dup (gt_M_init_14 72)
theorem d_M_init_1473 : decode b_M_init 1473 = .ok (.iconst 4, 1) := dc_iconst_4 (gt_M_init_14 73)
theorem d_M_init_1474 : decode b_M_init 1474 = .ok (.bipush 108, 2) := dc_bipush (gt_M_init_14 74) (gt_M_init_14 75) rfl
theorem d_M_init_1476 : decode b_M_init 1476 = .ok (.bastore, 1) := dc_bastore (gt_M_init_14 76)
theorem d_M_init_1477 : decode b_M_init 1477 = .ok (.dup, 1) := dc_dup (gt_M_init_14 77)
theorem d_M_init_1478 : decode b_M_init 1478 = .ok (.iconst 5, 1) := dc_iconst_5 (gt_M_init_14 78)
theorem d_M_init_1479 : decode b_M_init 1479 = .ok (.bipush 102, 2) := dc_bipush (gt_M_init_14 79) (gt_M_init_14 80) rfl
theorem d_M_init_1481 : decode b_M_init 1481 = .ok (.bastore, 1) := dc_bastore (gt_M_init_14 81)
theorem d_M_init_1482 : decode b_M_init 1482 = .ok (.dup, 1) := dc_dup (gt_M_init_14 82)
theorem d_M_init_1483 : decode b_M_init 1483 = .ok (.bipush 6, 2) := dc_bipush (gt_M_init_14 83) (gt_M_init_14 84) rfl
theorem d_M_init_1485 : decode b_M_init 1485 = .ok (.iconst 1, 1) := dc_iconst_1 (gt_M_init_14 85)
theorem d_M_init_1486 : decode b_M_init 1486 = .ok (.bastore, 1) := dc_bastore (gt_M_init_14 86)
theorem d_M_init_1487 : decode b_M_init 1487 = .ok (.dup, 1) := dc_dup (gt_M_init_14 87)
theorem d_M_init_1488 : decode b_M_init 1488 = .ok (.bipush 7, 2) := dc_bipush (gt_M_init_14 88) (gt_M_init_14 89) rfl
theorem d_M_init_1490 : decode b_M_init 1490 = .ok (.iconst 5, 1) := dc_iconst_5 (gt_M_init_14 90)
theorem d_M_init_1491 : decode b_M_init 1491 = .ok (.bastore, 1) := dc_bastore (gt_M_init_14 91)
theorem d_M_init_1492 : decode b_M_init 1492 = .ok (.dup, 1) := dc_dup (gt_M_init_14 92)
theorem d_M_init_1493 : decode b_M_init 1493 = .ok (.bipush 8, 2) := dc_bipush (gt_M_init_14 93) (gt_M_init_14 94) rfl
theorem d_M_init_1495 : decode b_M_init 1495 = .ok (.bipush 115, 2) := dc_bipush (gt_M_init_14 95) (gt_M_init_14 96) rfl
theorem d_M_init_1497 : decode b_M_init 1497 = .ok (.bastore, 1) := dc_bastore (gt_M_init_14 97)
theorem d_M_init_1498 : decode b_M_init 1498 = .ok (.dup, 1) := dc_dup (gt_M_init_14 98)
theorem d_M_init_1499 : decode b_M_init 1499 = .ok (.bipush 9, 2) := dc_bipush (gt_M_init_14 99) (gt_M_init_15 0) rfl
theorem d_M_init_1501 : decode b_M_init 1501 = .ok (.bipush 112, 2) := dc_bipush (gt_M_init_15 1) (gt_M_init_15 2) rfl
theorem d_M_init_1503 : decode b_M_init 1503 = .ok (.bastore, 1) := dc_bastore (gt_M_init_15 3)
theorem d_M_init_1504 : decode b_M_init 1504 = .ok (.dup, 1) := dc_dup (gt_M_init_15 4)
theorem d_M_init_1505 : decode b_M_init 1505 = .ok (.bipush 10, 2) := dc_bipush (gt_M_init_15 5) (gt_M_init_15 6) rfl
theorem d_M_init_1507 : decode b_M_init 1507 = .ok (.bipush 97, 2) := dc_bipush (gt_M_init_15 7) (gt_M_init_15 8) rfl
theorem d_M_init_1509 : decode b_M_init 1509 = .ok (.bastore, 1) := dc_bastore (gt_M_init_15 9)
theorem d_M_init_1510 : decode b_M_init 1510 = .ok (.dup, 1) := dc_dup (gt_M_init_15 10)
theorem d_M_init_1511 : decode b_M_init 1511 = .ok (.bipush 11, 2) := dc_bipush (gt_M_init_15 11) (gt_M_init_15 12) rfl
theorem d_M_init_1513 : decode b_M_init 1513 = .ok (.bipush 119, 2) := dc_bipush (gt_M_init_15 13) (gt_M_init_15 14) rfl
theorem d_M_init_1515 : decode b_M_init 1515 = .ok (.bastore, 1) := dc_bastore (gt_M_init_15 15)
theorem d_M_init_1516 : decode b_M_init 1516 = .ok (.dup, 1) := dc_dup (gt_M_init_15 16)
theorem d_M_init_1517 : decode b_M_init 1517 = .ok (.bipush 12, 2) := dc_bipush (gt_M_init_15 17) (gt_M_init_15 18) rfl
theorem d_M_init_1519 : decode b_M_init 1519 = .ok (.bipush 110, 2) := dc_bipush (gt_M_init_15 19) (gt_M_init_15 20) rfl
theorem d_M_init_1521 : decode b_M_init 1521 = .ok (.bastore, 1) := dc_bastore (gt_M_init_15 21)
theorem d_M_init_1522 : decode b_M_init 1522 = .ok (.dup, 1) := dc_dup (gt_M_init_15 22)
theorem d_M_init_1523 : decode b_M_init 1523 = .ok (.bipush 13, 2) := dc_bipush (gt_M_init_15 23) (gt_M_init_15 24) rfl
theorem d_M_init_1525 : decode b_M_init 1525 = .ok (.iconst 1, 1) := dc_iconst_1 (gt_M_init_15 25)
theorem d_M_init_1526 : decode b_M_init 1526 = .ok (.bastore, 1) := dc_bastore (gt_M_init_15 26)
theorem d_M_init_1527 : decode b_M_init 1527 = .ok (.dup, 1) := dc_dup (gt_M_init_15 27)
theorem d_M_init_1528 : decode b_M_init 1528 = .ok (.bipush 14, 2) := dc_bipush (gt_M_init_15 28) (gt_M_init_15 29) rfl
theorem d_M_init_1530 : decode b_M_init 1530 = .ok (.iconst 4, 1) := dc_iconst_4 (gt_M_init_15 30)
theorem d_M_init_1531 : decode b_M_init 1531 = .ok (.bastore, 1) := dc_bastore (gt_M_init_15 31)
theorem d_M_init_1532 : decode b_M_init 1532 = .ok (.dup, 1) := dc_dup (gt_M_init_15 32)
theorem d_M_init_1533 : decode b_M_init 1533 = .ok (.bipush 15, 2) := dc_bipush (gt_M_init_15 33) (gt_M_init_15 34) rfl
theorem d_M_init_1535 : decode b_M_init 1535 = .ok (.bipush 108, 2) := dc_bipush (gt_M_init_15 35) (gt_M_init_15 36) rfl
theorem d_M_init_1537 : decode b_M_init 1537 = .ok (.bastore, 1) := dc_bastore (gt_M_init_15 37)
theorem d_M_init_1538 : decode b_M_init 1538 = .ok (.dup, 1) := dc_dup (gt_M_init_15 38)
theorem d_M_init_1539 : decode b_M_init 1539 = .ok (.bipush 16, 2) := dc_bipush (gt_M_init_15 39) (gt_M_init_15 40) rfl
theorem d_M_init_1541 : decode b_M_init 1541 = .ok (.bipush 105, 2) := dc_bipush (gt_M_init_15 41) (gt_M_init_15 42) rfl
theorem d_M_init_1543 : decode b_M_init 1543 = .ok (.bastore, 1) := dc_bastore (gt_M_init_15 43)
theorem d_M_init_1544 : decode b_M_init 1544 = .ok (.dup, 1) := dc_dup (gt_M_init_15 44)
theorem d_M_init_1545 : decode b_M_init 1545 = .ok (.bipush 17, 2) := dc_bipush (gt_M_init_15 45) (gt_M_init_15 46) rfl
theorem d_M_init_1547 : decode b_M_init 1547 = .ok (.bipush 110, 2) := dc_bipush (gt_M_init_15 47) (gt_M_init_15 48) rfl
theorem d_M_init_1549 : decode b_M_init 1549 = .ok (.bastore, 1) := dc_bastore (gt_M_init_15 49)
theorem d_M_init_1550 : decode b_M_init 1550 = .ok (.dup, 1) := dc_dup (gt_M_init_15 50)
theorem d_M_init_1551 : decode b_M_init 1551 = .ok (.bipush 18, 2) := dc_bipush (gt_M_init_15 51) (gt_M_init_15 52) rfl
theorem d_M_init_1553 : decode b_M_init 1553 = .ok (.bipush 107, 2) := dc_bipush (gt_M_init_15 53) (gt_M_init_15 54) rfl
theorem d_M_init_1555 : decode b_M_init 1555 = .ok (.bastore, 1) := dc_bastore (gt_M_init_15 55)
theorem d_M_init_1556 : decode b_M_init 1556 = .ok (.dup, 1) := dc_dup (gt_M_init_15 56)
theorem d_M_init_1557 : decode b_M_init 1557 = .ok (.bipush 19, 2) := dc_bipush (gt_M_init_15 57) (gt_M_init_15 58) rfl
theorem d_M_init_1559 : decode b_M_init 1559 = .ok (.iconst 1, 1) := dc_iconst_1 (gt_M_init_15 59)
theorem d_M_init_1560 : decode b_M_init 1560 = .ok (.bastore, 1) := dc_bastore (gt_M_init_15 60)
theorem d_M_init_1561 : decode b_M_init 1561 = .ok (.dup, 1) := dc_dup (gt_M_init_15 61)
theorem d_M_init_1562 : decode b_M_init 1562 = .ok (.bipush 20, 2) := dc_bipush (gt_M_init_15 62) (gt_M_init_15 63) rfl
theorem d_M_init_1564 : decode b_M_init 1564 = .ok (.bipush 6, 2) := dc_bipush (gt_M_init_15 64) (gt_M_init_15 65) rfl
theorem d_M_init_1566 : decode b_M_init 1566 = .ok (.bastore, 1) := dc_bastore (gt_M_init_15 66)
theorem d_M_init_1567 : decode b_M_init 1567 = .ok (.dup, 1) := dc_dup (gt_M_init_15 67)
theorem d_M_init_1568 : decode b_M_init 1568 = .ok (.bipush 21, 2) := dc_bipush (gt_M_init_15 68) (gt_M_init_15 69) rfl
theorem d_M_init_1570 : decode b_M_init 1570 = .ok (.bipush 117, 2) := dc_bipush (gt_M_init_15 70) (gt_M_init_15 71) rfl
theorem d_M_init_1572 : decode b_M_init 1572 = .ok (.bastore, 1) := dc_bastore (gt_M_init_15 72)
theorem d_M_init_1573 : decode b_M_init 1573 = .ok (.dup, 1) := dc_dup (gt_M_init_15 73)
theorem d_M_init_1574 : decode b_M_init 1574 = .ok (.bipush 22, 2) := dc_bipush (gt_M_init_15 74) (gt_M_init_15 75) rfl
theorem d_M_init_1576 : decode b_M_init 1576 = .ok (.bipush 110, 2) := dc_bipush (gt_M_init_15 76) (gt_M_init_15 77) rfl
theorem d_M_init_1578 : decode b_M_init 1578 = .ok (.bastore, 1) := dc_bastore (gt_M_init_15 78)
theorem d_M_init_1579 : decode b_M_init 1579 = .ok (.dup, 1) := dc_dup (gt_M_init_15 79)
theorem d_M_init_1580 : decode b_M_init 1580 = .ok (.bipush 23, 2) := dc_bipush (gt_M_init_15 80) (gt_M_init_15 81) rfl
theorem d_M_init_1582 : decode b_M_init 1582 = .ok (.bipush 108, 2) := dc_bipush (gt_M_init_15 82) (gt_M_init_15 83) rfl
theorem d_M_init_1584 : decode b_M_init 1584 = .ok (.bastore, 1) := dc_bastore (gt_M_init_15 84)
theorem d_M_init_1585 : decode b_M_init 1585 = .ok (.dup, 1) := dc_dup (gt_M_init_15 85)
theorem d_M_init_1586 : decode b_M_init 1586 = .ok (.bipush 24, 2) := dc_bipush (gt_M_init_15 86) (gt_M_init_15 87) rfl
theorem d_M_init_1588 : decode b_M_init 1588 = .ok (.bipush 105, 2) := dc_bipush (gt_M_init_15 88) (gt_M_init_15 89) rfl
theorem d_M_init_1590 : decode b_M_init 1590 = .ok (.bastore, 1) := dc_bastore (gt_M_init_15 90)
theorem d_M_init_1591 : decode b_M_init 1591 = .ok (.dup, 1) := dc_dup (gt_M_init_15 91)
theorem d_M_init_1592 : decode b_M_init 1592 = .ok (.bipush 25, 2) := dc_bipush (gt_M_init_15 92) (gt_M_init_15 93) rfl
theorem d_M_init_1594 : decode b_M_init 1594 = .ok (.bipush 110, 2) := dc_bipush (gt_M_init_15 94) (gt_M_init_15 95) rfl
theorem d_M_init_1596 : decode b_M_init 1596 = .ok (.bastore, 1) := dc_bastore (gt_M_init_15 96)
theorem d_M_init_1597 : decode b_M_init 1597 = .ok (.dup, 1) := dc_dup (gt_M_init_15 97)
theorem d_M_init_1598 : decode b_M_init 1598 = .ok (.bipush 26, 2) := dc_bipush (gt_M_init_15 98) (gt_M_init_15 99) rfl
theorem d_M_init_1600 : decode b_M_init 1600 = .ok (.bipush 107, 2) := dc_bipush (gt_M_init_16 0) (gt_M_init_16 1) rfl
theorem d_M_init_1602 : decode b_M_init 1602 = .ok (.bastore, 1) := dc_bastore (gt_M_init_16 2)
theorem d_M_init_1603 : decode b_M_init 1603 = .ok (.dup, 1) := dc_dup (gt_M_init_16 3)
theorem d_M_init_1604 : decode b_M_init 1604 = .ok (.bipush 27, 2) := dc_bipush (gt_M_init_16 4) (gt_M_init_16 5) rfl
theorem d_M_init_1606 : decode b_M_init 1606 = .ok (.iconst 1, 1) := dc_iconst_1 (gt_M_init_16 6)
theorem d_M_init_1607 : decode b_M_init 1607 = .ok (.bastore, 1) := dc_bastore (gt_M_init_16 7)
theorem d_M_init_1608 : decode b_M_init 1608 = .ok (.dup, 1) := dc_dup (gt_M_init_16 8)
theorem d_M_init_1609 : decode b_M_init 1609 = .ok (.bipush 28, 2) := dc_bipush (gt_M_init_16 9) (gt_M_init_16 10) rfl
theorem d_M_init_1611 : decode b_M_init 1611 = .ok (.iconst 5, 1) := dc_iconst_5 (gt_M_init_16 11)
theorem d_M_init_1612 : decode b_M_init 1612 = .ok (.bastore, 1) := dc_bastore (gt_M_init_16 12)
theorem d_M_init_1613 : decode b_M_init 1613 = .ok (.dup, 1) := dc_dup (gt_M_init_16 13)
theorem d_M_init_1614 : decode b_M_init 1614 = .ok (.bipush 29, 2) := dc_bipush (gt_M_init_16 14) (gt_M_init_16 15) rfl
theorem d_M_init_1616 : decode b_M_init 1616 = .ok (.bipush 119, 2) := dc_bipush (gt_M_init_16 16) (gt_M_init_16 17) rfl
theorem d_M_init_1618 : decode b_M_init 1618 = .ok (.bastore, 1) := dc_bastore (gt_M_init_16 18)
theorem d_M_init_1619 : decode b_M_init 1619 = .ok (.dup, 1) := dc_dup (gt_M_init_16 19)
theorem d_M_init_1620 : decode b_M_init 1620 = .ok (.bipush 30, 2) := dc_bipush (gt_M_init_16 20) (gt_M_init_16 21) rfl
theorem d_M_init_1622 : decode b_M_init 1622 = .ok (.bipush 97, 2) := dc_bipush (gt_M_init_16 22) (gt_M_init_16 23) rfl
theorem d_M_init_1624 : decode b_M_init 1624 = .ok (.bastore, 1) := dc_bastore (gt_M_init_16 24)
theorem d_M_init_1625 : decode b_M_init 1625 = .ok (.dup, 1) := dc_dup (gt_M_init_16 25)
theorem d_M_init_1626 : decode b_M_init 1626 = .ok (.bipush 31, 2) := dc_bipush (gt_M_init_16 26) (gt_M_init_16 27) rfl
theorem d_M_init_1628 : decode b_M_init 1628 = .ok (.bipush 116, 2) := dc_bipush (gt_M_init_16 28) (gt_M_init_16 29) rfl
theorem d_M_init_1630 : decode b_M_init 1630 = .ok (.bastore, 1) := dc_bastore (gt_M_init_16 30)
theorem d_M_init_1631 : decode b_M_init 1631 = .ok (.dup, 1) := dc_dup (gt_M_init_16 31)
theorem d_M_init_1632 : decode b_M_init 1632 = .ok (.bipush 32, 2) := dc_bipush (gt_M_init_16 32) (gt_M_init_16 33) rfl
theorem d_M_init_1634 : decode b_M_init 1634 = .ok (.bipush 99, 2) := dc_bipush (gt_M_init_16 34) (gt_M_init_16 35) rfl
theorem d_M_init_1636 : decode b_M_init 1636 = .ok (.bastore, 1) := dc_bastore (gt_M_init_16 36)
theorem d_M_init_1637 : decode b_M_init 1637 = .ok (.dup, 1) := dc_dup (gt_M_init_16 37)
theorem d_M_init_1638 : decode b_M_init 1638 = .ok (.bipush 33, 2) := dc_bipush (gt_M_init_16 38) (gt_M_init_16 39) rfl
theorem d_M_init_1640 : decode b_M_init 1640 = .ok (.bipush 104, 2) := dc_bipush (gt_M_init_16 40) (gt_M_init_16 41) rfl
theorem d_M_init_1642 : decode b_M_init 1642 = .ok (.bastore, 1) := dc_bastore (gt_M_init_16 42)
theorem d_M_init_1643 : decode b_M_init 1643 = .ok (.dup, 1) := dc_dup (gt_M_init_16 43)
theorem d_M_init_1644 : decode b_M_init 1644 = .ok (.bipush 34, 2) := dc_bipush (gt_M_init_16 44) (gt_M_init_16 45) rfl
theorem d_M_init_1646 : decode b_M_init 1646 = .ok (.iconst 1, 1) := dc_iconst_1 (gt_M_init_16 46)
theorem d_M_init_1647 : decode b_M_init 1647 = .ok (.bastore, 1) := dc_bastore (gt_M_init_16 47)
theorem d_M_init_1648 : decode b_M_init 1648 = .ok (.dup, 1) := dc_dup (gt_M_init_16 48)
theorem d_M_init_1649 : decode b_M_init 1649 = .ok (.bipush 35, 2) := dc_bipush (gt_M_init_16 49) (gt_M_init_16 50) rfl
theorem d_M_init_1651 : decode b_M_init 1651 = .ok (.bipush 7, 2) := dc_bipush (gt_M_init_16 51) (gt_M_init_16 52) rfl
theorem d_M_init_1653 : decode b_M_init 1653 = .ok (.bastore, 1) := dc_bastore (gt_M_init_16 53)
theorem d_M_init_1654 : decode b_M_init 1654 = .ok (.dup, 1) := dc_dup (gt_M_init_16 54)
theorem d_M_init_1655 : decode b_M_init 1655 = .ok (.bipush 36, 2) := dc_bipush (gt_M_init_16 55) (gt_M_init_16 56) rfl
theorem d_M_init_1657 : decode b_M_init 1657 = .ok (.bipush 117, 2) := dc_bipush (gt_M_init_16 57) (gt_M_init_16 58) rfl
theorem d_M_init_1659 : decode b_M_init 1659 = .ok (.bastore, 1) := dc_bastore (gt_M_init_16 59)
theorem d_M_init_1660 : decode b_M_init 1660 = .ok (.dup, 1) := dc_dup (gt_M_init_16 60)
theorem d_M_init_1661 : decode b_M_init 1661 = .ok (.bipush 37, 2) := dc_bipush (gt_M_init_16 61) (gt_M_init_16 62) rfl
theorem d_M_init_1663 : decode b_M_init 1663 = .ok (.bipush 110, 2) := dc_bipush (gt_M_init_16 63) (gt_M_init_16 64) rfl
theorem d_M_init_1665 : decode b_M_init 1665 = .ok (.bastore, 1) := dc_bastore (gt_M_init_16 65)
theorem d_M_init_1666 : decode b_M_init 1666 = .ok (.dup, 1) := dc_dup (gt_M_init_16 66)
theorem d_M_init_1667 : decode b_M_init 1667 = .ok (.bipush 38, 2) := dc_bipush (gt_M_init_16 67) (gt_M_init_16 68) rfl
theorem d_M_init_1669 : decode b_M_init 1669 = .ok (.bipush 119, 2) := dc_bipush (gt_M_init_16 69) (gt_M_init_16 70) rfl
theorem d_M_init_1671 : decode b_M_init 1671 = .ok (.bastore, 1) := dc_bastore (gt_M_init_16 71)
theorem d_M_init_1672 : decode b_M_init 1672 = .ok (.dup, 1) := dc_dup (gt_M_init_16 72)
theorem d_M_init_1673 : decode b_M_init 1673 = .ok (.bipush 39, 2) := dc_bipush (gt_M_init_16 73) (gt_M_init_16 74) rfl
theorem d_M_init_1675 : decode b_M_init 1675 = .ok (.bipush 97, 2) := dc_bipush (gt_M_init_16 75) (gt_M_init_16 76) rfl
theorem d_M_init_1677 : decode b_M_init 1677 = .ok (.bastore, 1) := dc_bastore (gt_M_init_16 77)
theorem d_M_init_1678 : decode b_M_init 1678 = .ok (.dup, 1) := dc_dup (gt_M_init_16 78)
theorem d_M_init_1679 : decode b_M_init 1679 = .ok (.bipush 40, 2) := dc_bipush (gt_M_init_16 79) (gt_M_init_16 80) rfl
theorem d_M_init_1681 : decode b_M_init 1681 = .ok (.bipush 116, 2) := dc_bipush (gt_M_init_16 81) (gt_M_init_16 82) rfl
theorem d_M_init_1683 : decode b_M_init 1683 = .ok (.bastore, 1) := dc_bastore (gt_M_init_16 83)
theorem d_M_init_1684 : decode b_M_init 1684 = .ok (.dup, 1) := dc_dup (gt_M_init_16 84)
theorem d_M_init_1685 : decode b_M_init 1685 = .ok (.bipush 41, 2) := dc_bipush (gt_M_init_16 85) (gt_M_init_16 86) rfl
theorem d_M_init_1687 : decode b_M_init 1687 = .ok (.bipush 99, 2) := dc_bipush (gt_M_init_16 87) (gt_M_init_16 88) rfl
theorem d_M_init_1689 : decode b_M_init 1689 = .ok (.bastore, 1) := dc_bastore (gt_M_init_16 89)
theorem d_M_init_1690 : decode b_M_init 1690 = .ok (.dup, 1) := dc_dup (gt_M_init_16 90)
theorem d_M_init_1691 : decode b_M_init 1691 = .ok (.bipush 42, 2) := dc_bipush (gt_M_init_16 91) (gt_M_init_16 92) rfl
theorem d_M_init_1693 : decode b_M_init 1693 = .ok (.bipush 104, 2) := dc_bipush (gt_M_init_16 93) (gt_M_init_16 94) rfl
theorem d_M_init_1695 : decode b_M_init 1695 = .ok (.bastore, 1) := dc_bastore (gt_M_init_16 95)
theorem d_M_init_1696 : decode b_M_init 1696 = .ok (.dup, 1) := dc_dup (gt_M_init_16 96)
theorem d_M_init_1697 : decode b_M_init 1697 = .ok (.bipush 43, 2) := dc_bipush (gt_M_init_16 97) (gt_M_init_16 98) rfl
theorem d_M_init_1699 : decode b_M_init 1699 = .ok (.iconst 1, 1) := dc_iconst_1 (gt_M_init_16 99)
theorem d_M_init_1700 : decode b_M_init 1700 = .ok (.bastore, 1) := dc_bastore (gt_M_init_17 0)
theorem d_M_init_1701 : decode b_M_init 1701 = .ok (.dup, 1) := dc_dup (gt_M_init_17 1)
theorem d_M_init_1702 : decode b_M_init 1702 = .ok (.bipush 44, 2) := dc_bipush (gt_M_init_17 2) (gt_M_init_17 3) rfl
theorem d_M_init_1704 : decode b_M_init 1704 = .ok (.iconst 4, 1) := dc_iconst_4 (gt_M_init_17 4)
theorem d_M_init_1705 : decode b_M_init 1705 = .ok (.bastore, 1) := dc_bastore (gt_M_init_17 5)
theorem d_M_init_1706 : decode b_M_init 1706 = .ok (.dup, 1) := dc_dup (gt_M_init_17 6)
theorem d_M_init_1707 : decode b_M_init 1707 = .ok (.bipush 45, 2) := dc_bipush (gt_M_init_17 7) (gt_M_init_17 8) rfl
theorem d_M_init_1709 : decode b_M_init 1709 = .ok (.bipush 116, 2) := dc_bipush (gt_M_init_17 9) (gt_M_init_17 10) rfl
theorem d_M_init_1711 : decode b_M_init 1711 = .ok (.bastore, 1) := dc_bastore (gt_M_init_17 11)
theorem d_M_init_1712 : decode b_M_init 1712 = .ok (.dup, 1) := dc_dup (gt_M_init_17 12)
theorem d_M_init_1713 : decode b_M_init 1713 = .ok (.bipush 46, 2) := dc_bipush (gt_M_init_17 13) (gt_M_init_17 14) rfl
theorem d_M_init_1715 : decode b_M_init 1715 = .ok (.bipush 114, 2) := dc_bipush (gt_M_init_17 15) (gt_M_init_17 16) rfl
theorem d_M_init_1717 : decode b_M_init 1717 = .ok (.bastore, 1) := dc_bastore (gt_M_init_17 17)
theorem d_M_init_1718 : decode b_M_init 1718 = .ok (.dup, 1) := dc_dup (gt_M_init_17 18)
theorem d_M_init_1719 : decode b_M_init 1719 = .ok (.bipush 47, 2) := dc_bipush (gt_M_init_17 19) (gt_M_init_17 20) rfl
theorem d_M_init_1721 : decode b_M_init 1721 = .ok (.bipush 97, 2) := dc_bipush (gt_M_init_17 21) (gt_M_init_17 22) rfl
theorem d_M_init_1723 : decode b_M_init 1723 = .ok (.bastore, 1) := dc_bastore (gt_M_init_17 23)
theorem d_M_init_1724 : decode b_M_init 1724 = .ok (.dup, 1) := dc_dup (gt_M_init_17 24)
theorem d_M_init_1725 : decode b_M_init 1725 = .ok (.bipush 48, 2) := dc_bipush (gt_M_init_17 25) (gt_M_init_17 26) rfl
theorem d_M_init_1727 : decode b_M_init 1727 = .ok (.bipush 112, 2) := dc_bipush (gt_M_init_17 27) (gt_M_init_17 28) rfl
theorem d_M_init_1729 : decode b_M_init 1729 = .ok (.bastore, 1) := dc_bastore (gt_M_init_17 29)
theorem d_M_init_1730 : decode b_M_init 1730 = .ok (.dup, 1) := dc_dup (gt_M_init_17 30)
theorem d_M_init_1731 : decode b_M_init 1731 = .ok (.bipush 49, 2) := dc_bipush (gt_M_init_17 31) (gt_M_init_17 32) rfl
theorem d_M_init_1733 : decode b_M_init 1733 = .ok (.iconst 1, 1) := dc_iconst_1 (gt_M_init_17 33)
theorem d_M_init_1734 : decode b_M_init 1734 = .ok (.bastore, 1) := dc_bastore (gt_M_init_17 34)
theorem d_M_init_1735 : decode b_M_init 1735 = .ok (.dup, 1) := dc_dup (gt_M_init_17 35)
theorem d_M_init_1736 : decode b_M_init 1736 = .ok (.bipush 50, 2) := dc_bipush (gt_M_init_17 36) (gt_M_init_17 37) rfl
theorem d_M_init_1738 : decode b_M_init 1738 = .ok (.iconst 4, 1) := dc_iconst_4 (gt_M_init_17 38)
theorem d_M_init_1739 : decode b_M_init 1739 = .ok (.bastore, 1) := dc_bastore (gt_M_init_17 39)
theorem d_M_init_1740 : decode b_M_init 1740 = .ok (.dup, 1) := dc_dup (gt_M_init_17 40)
theorem d_M_init_1741 : decode b_M_init 1741 = .ok (.bipush 51, 2) := dc_bipush (gt_M_init_17 41) (gt_M_init_17 42) rfl
theorem d_M_init_1743 : decode b_M_init 1743 = .ok (.bipush 101, 2) := dc_bipush (gt_M_init_17 43) (gt_M_init_17 44) rfl
theorem d_M_init_1745 : decode b_M_init 1745 = .ok (.bastore, 1) := dc_bastore (gt_M_init_17 45)
theorem d_M_init_1746 : decode b_M_init 1746 = .ok (.dup, 1) := dc_dup (gt_M_init_17 46)
theorem d_M_init_1747 : decode b_M_init 1747 = .ok (.bipush 52, 2) := dc_bipush (gt_M_init_17 47) (gt_M_init_17 48) rfl
theorem d_M_init_1749 : decode b_M_init 1749 = .ok (.bipush 120, 2) := dc_bipush (gt_M_init_17 49) (gt_M_init_17 50) rfl
theorem d_M_init_1751 : decode b_M_init 1751 = .ok (.bastore, 1) := dc_bastore (gt_M_init_17 51)
theorem d_M_init_1752 : decode b_M_init 1752 = .ok (.dup, 1) := dc_dup (gt_M_init_17 52)
theorem d_M_init_1753 : decode b_M_init 1753 = .ok (.bipush 53, 2) := dc_bipush (gt_M_init_17 53) (gt_M_init_17 54) rfl
theorem d_M_init_1755 : decode b_M_init 1755 = .ok (.bipush 105, 2) := dc_bipush (gt_M_init_17 55) (gt_M_init_17 56) rfl
theorem d_M_init_1757 : decode b_M_init 1757 = .ok (.bastore, 1) := dc_bastore (gt_M_init_17 57)
theorem d_M_init_1758 : decode b_M_init 1758 = .ok (.dup, 1) := dc_dup (gt_M_init_17 58)
theorem d_M_init_1759 : decode b_M_init 1759 = .ok (.bipush 54, 2) := dc_bipush (gt_M_init_17 59) (gt_M_init_17 60) rfl
theorem d_M_init_1761 : decode b_M_init 1761 = .ok (.bipush 116, 2) := dc_bipush (gt_M_init_17 61) (gt_M_init_17 62) rfl
theorem d_M_init_1763 : decode b_M_init 1763 = .ok (.bastore, 1) := dc_bastore (gt_M_init_17 63)
theorem d_M_init_1764 : decode b_M_init 1764 = .ok (.dup, 1) := dc_dup (gt_M_init_17 64)
theorem d_M_init_1765 : decode b_M_init 1765 = .ok (.bipush 55, 2) := dc_bipush (gt_M_init_17 65) (gt_M_init_17 66) rfl
theorem d_M_init_1767 : decode b_M_init 1767 = .ok (.iconst 2, 1) := dc_iconst_2 (gt_M_init_17 67)
theorem d_M_init_1768 : decode b_M_init 1768 = .ok (.bastore, 1) := dc_bastore (gt_M_init_17 68)
theorem d_M_init_1769 : decode b_M_init 1769 = .ok (.dup, 1) := dc_dup (gt_M_init_17 69)
theorem d_M_init_1770 : decode b_M_init 1770 = .ok (.bipush 56, 2) := dc_bipush (gt_M_init_17 70) (gt_M_init_17 71) rfl
theorem d_M_init_1772 : decode b_M_init 1772 = .ok (.iconst 4, 1) := dc_iconst_4 (gt_M_init_17 72)
theorem d_M_init_1773 : decode b_M_init 1773 = .ok (.bastore, 1) := dc_bastore (gt_M_init_17 73)
theorem d_M_init_1774 : decode b_M_init 1774 = .ok (.dup, 1) := dc_dup (gt_M_init_17 74)
theorem d_M_init_1775 : decode b_M_init 1775 = .ok (.bipush 57, 2) := dc_bipush (gt_M_init_17 75) (gt_M_init_17 76) rfl
theorem d_M_init_1777 : decode b_M_init 1777 = .ok (.bipush 101, 2) := dc_bipush (gt_M_init_17 77) (gt_M_init_17 78) rfl
theorem d_M_init_1779 : decode b_M_init 1779 = .ok (.bastore, 1) := dc_bastore (gt_M_init_17 79)
theorem d_M_init_1780 : decode b_M_init 1780 = .ok (.dup, 1) := dc_dup (gt_M_init_17 80)
theorem d_M_init_1781 : decode b_M_init 1781 = .ok (.bipush 58, 2) := dc_bipush (gt_M_init_17 81) (gt_M_init_17 82) rfl
theorem d_M_init_1783 : decode b_M_init 1783 = .ok (.bipush 120, 2) := dc_bipush (gt_M_init_17 83) (gt_M_init_17 84) rfl
theorem d_M_init_1785 : decode b_M_init 1785 = .ok (.bastore, 1) := dc_bastore (gt_M_init_17 85)
theorem d_M_init_1786 : decode b_M_init 1786 = .ok (.dup, 1) := dc_dup (gt_M_init_17 86)
theorem d_M_init_1787 : decode b_M_init 1787 = .ok (.bipush 59, 2) := dc_bipush (gt_M_init_17 87) (gt_M_init_17 88) rfl
theorem d_M_init_1789 : decode b_M_init 1789 = .ok (.bipush 105, 2) := dc_bipush (gt_M_init_17 89) (gt_M_init_17 90) rfl
theorem d_M_init_1791 : decode b_M_init 1791 = .ok (.bastore, 1) := dc_bastore (gt_M_init_17 91)
theorem d_M_init_1792 : decode b_M_init 1792 = .ok (.dup, 1) := dc_dup (gt_M_init_17 92)
theorem d_M_init_1793 : decode b_M_init 1793 = .ok (.bipush 60, 2) := dc_bipush (gt_M_init_17 93) (gt_M_init_17 94) rfl
theorem d_M_init_1795 : decode b_M_init 1795 = .ok (.bipush 116, 2) := dc_bipush (gt_M_init_17 95) (gt_M_init_17 96) rfl
theorem d_M_init_1797 : decode b_M_init 1797 = .ok (.bastore, 1) := dc_bastore (gt_M_init_17 97)
theorem d_M_init_1798 : decode b_M_init 1798 = .ok (.dup, 1) := dc_dup (gt_M_init_17 98)
theorem d_M_init_1799 : decode b_M_init 1799 = .ok (.bipush 61, 2) := dc_bipush (gt_M_init_17 99) (gt_M_init_18 0) rfl
theorem d_M_init_1801 : decode b_M_init 1801 = .ok (.iconst 1, 1) := dc_iconst_1 (gt_M_init_18 1)
theorem d_M_init_1802 : decode b_M_init 1802 = .ok (.bastore, 1) := dc_bastore (gt_M_init_18 2)
theorem d_M_init_1803 : decode b_M_init 1803 = .ok (.dup, 1) := dc_dup (gt_M_init_18 3)
theorem d_M_init_1804 : decode b_M_init 1804 = .ok (.bipush 62, 2) := dc_bipush (gt_M_init_18 4) (gt_M_init_18 5) rfl
theorem d_M_init_1806 : decode b_M_init 1806 = .ok (.iconst 5, 1) := dc_iconst_5 (gt_M_init_18 6)
theorem d_M_init_1807 : decode b_M_init 1807 = .ok (.bastore, 1) := dc_bastore (gt_M_init_18 7)
theorem d_M_init_1808 : decode b_M_init 1808 = .ok (.dup, 1) := dc_dup (gt_M_init_18 8)
theorem d_M_init_1809 : decode b_M_init 1809 = .ok (.bipush 63, 2) := dc_bipush (gt_M_init_18 9) (gt_M_init_18 10) rfl
theorem d_M_init_1811 : decode b_M_init 1811 = .ok (.bipush 116, 2) := dc_bipush (gt_M_init_18 11) (gt_M_init_18 12) rfl
theorem d_M_init_1813 : decode b_M_init 1813 = .ok (.bastore, 1) := dc_bastore (gt_M_init_18 13)
theorem d_M_init_1814 : decode b_M_init 1814 = .ok (.dup, 1) := dc_dup (gt_M_init_18 14)
theorem d_M_init_1815 : decode b_M_init 1815 = .ok (.bipush 64, 2) := dc_bipush (gt_M_init_18 15) (gt_M_init_18 16) rfl
theorem d_M_init_1817 : decode b_M_init 1817 = .ok (.bipush 104, 2) := dc_bipush (gt_M_init_18 17) (gt_M_init_18 18) rfl
theorem d_M_init_1819 : decode b_M_init 1819 = .ok (.bastore, 1) := dc_bastore (gt_M_init_18 19)
theorem d_M_init_1820 : decode b_M_init 1820 = .ok (.dup, 1) := dc_dup (gt_M_init_18 20)
theorem d_M_init_1821 : decode b_M_init 1821 = .ok (.bipush 65, 2) := dc_bipush (gt_M_init_18 21) (gt_M_init_18 22) rfl
theorem d_M_init_1823 : decode b_M_init 1823 = .ok (.bipush 114, 2) := dc_bipush (gt_M_init_18 23) (gt_M_init_18 24) rfl
theorem d_M_init_1825 : decode b_M_init 1825 = .ok (.bastore, 1) := dc_bastore (gt_M_init_18 25)
theorem d_M_init_1826 : decode b_M_init 1826 = .ok (.dup, 1) := dc_dup (gt_M_init_18 26)
theorem d_M_init_1827 : decode b_M_init 1827 = .ok (.bipush 66, 2) := dc_bipush (gt_M_init_18 27) (gt_M_init_18 28) rfl
theorem d_M_init_1829 : decode b_M_init 1829 = .ok (.bipush 111, 2) := dc_bipush (gt_M_init_18 29) (gt_M_init_18 30) rfl
theorem d_M_init_1831 : decode b_M_init 1831 = .ok (.bastore, 1) := dc_bastore (gt_M_init_18 31)
theorem d_M_init_1832 : decode b_M_init 1832 = .ok (.dup, 1) := dc_dup (gt_M_init_18 32)
theorem d_M_init_1833 : decode b_M_init 1833 = .ok (.bipush 67, 2) := dc_bipush (gt_M_init_18 33) (gt_M_init_18 34) rfl
theorem d_M_init_1835 : decode b_M_init 1835 = .ok (.bipush 119, 2) := dc_bipush (gt_M_init_18 35) (gt_M_init_18 36) rfl
theorem d_M_init_1837 : decode b_M_init 1837 = .ok (.bastore, 1) := dc_bastore (gt_M_init_18 37)
theorem d_M_init_1838 : decode b_M_init 1838 = .ok (.dup, 1) := dc_dup (gt_M_init_18 38)
theorem d_M_init_1839 : decode b_M_init 1839 = .ok (.bipush 68, 2) := dc_bipush (gt_M_init_18 39) (gt_M_init_18 40) rfl
theorem d_M_init_1841 : decode b_M_init 1841 = .ok (.iconst 1, 1) := dc_iconst_1 (gt_M_init_18 41)
theorem d_M_init_1842 : decode b_M_init 1842 = .ok (.bastore, 1) := dc_bastore (gt_M_init_18 42)
theorem d_M_init_1843 : decode b_M_init 1843 = .ok (.dup, 1) := dc_dup (gt_M_init_18 43)
theorem d_M_init_1844 : decode b_M_init 1844 = .ok (.bipush 69, 2) := dc_bipush (gt_M_init_18 44) (gt_M_init_18 45) rfl
theorem d_M_init_1846 : decode b_M_init 1846 = .ok (.iconst 5, 1) := dc_iconst_5 (gt_M_init_18 46)
theorem d_M_init_1847 : decode b_M_init 1847 = .ok (.bastore, 1) := dc_bastore (gt_M_init_18 47)
theorem d_M_init_1848 : decode b_M_init 1848 = .ok (.dup, 1) := dc_dup (gt_M_init_18 48)
theorem d_M_init_1849 : decode b_M_init 1849 = .ok (.bipush 70, 2) := dc_bipush (gt_M_init_18 49) (gt_M_init_18 50) rfl
theorem d_M_init_1851 : decode b_M_init 1851 = .ok (.bipush 101, 2) := dc_bipush (gt_M_init_18 51) (gt_M_init_18 52) rfl
theorem d_M_init_1853 : decode b_M_init 1853 = .ok (.bastore, 1) := dc_bastore (gt_M_init_18 53)
theorem d_M_init_1854 : decode b_M_init 1854 = .ok (.dup, 1) := dc_dup (gt_M_init_18 54)
theorem d_M_init_1855 : decode b_M_init 1855 = .ok (.bipush 71, 2) := dc_bipush (gt_M_init_18 55) (gt_M_init_18 56) rfl
theorem d_M_init_1857 : decode b_M_init 1857 = .ok (.bipush 114, 2) := dc_bipush (gt_M_init_18 57) (gt_M_init_18 58) rfl
theorem d_M_init_1859 : decode b_M_init 1859 = .ok (.bastore, 1) := dc_bastore (gt_M_init_18 59)
theorem d_M_init_1860 : decode b_M_init 1860 = .ok (.dup, 1) := dc_dup (gt_M_init_18 60)
theorem d_M_init_1861 : decode b_M_init 1861 = .ok (.bipush 72, 2) := dc_bipush (gt_M_init_18 61) (gt_M_init_18 62) rfl
theorem d_M_init_1863 : decode b_M_init 1863 = .ok (.bipush 114, 2) := dc_bipush (gt_M_init_18 63) (gt_M_init_18 64) rfl
theorem d_M_init_1865 : decode b_M_init 1865 = .ok (.bastore, 1) := dc_bastore (gt_M_init_18 65)
theorem d_M_init_1866 : decode b_M_init 1866 = .ok (.dup, 1) := dc_dup (gt_M_init_18 66)
theorem d_M_init_1867 : decode b_M_init 1867 = .ok (.bipush 73, 2) := dc_bipush (gt_M_init_18 67) (gt_M_init_18 68) rfl
theorem d_M_init_1869 : decode b_M_init 1869 = .ok (.bipush 111, 2) := dc_bipush (gt_M_init_18 69) (gt_M_init_18 70) rfl
theorem d_M_init_1871 : decode b_M_init 1871 = .ok (.bastore, 1) := dc_bastore (gt_M_init_18 71)
theorem d_M_init_1872 : decode b_M_init 1872 = .ok (.dup, 1) := dc_dup (gt_M_init_18 72)
theorem d_M_init_1873 : decode b_M_init 1873 = .ok (.bipush 74, 2) := dc_bipush (gt_M_init_18 73) (gt_M_init_18 74) rfl
theorem d_M_init_1875 : decode b_M_init 1875 = .ok (.bipush 114, 2) := dc_bipush (gt_M_init_18 75) (gt_M_init_18 76) rfl
theorem d_M_init_1877 : decode b_M_init 1877 = .ok (.bastore, 1) := dc_bastore (gt_M_init_18 77)
theorem d_M_init_1878 : decode b_M_init 1878 = .ok (.dup, 1) := dc_dup (gt_M_init_18 78)
theorem d_M_init_1879 : decode b_M_init 1879 = .ok (.bipush 75, 2) := dc_bipush (gt_M_init_18 79) (gt_M_init_18 80) rfl
theorem d_M_init_1881 : decode b_M_init 1881 = .ok (.iconst 1, 1) := dc_iconst_1 (gt_M_init_18 81)
theorem d_M_init_1882 : decode b_M_init 1882 = .ok (.bastore, 1) := dc_bastore (gt_M_init_18 82)
theorem d_M_init_1883 : decode b_M_init 1883 = .ok (.dup, 1) := dc_dup (gt_M_init_18 83)
theorem d_M_init_1884 : decode b_M_init 1884 = .ok (.bipush 76, 2) := dc_bipush (gt_M_init_18 84) (gt_M_init_18 85) rfl
theorem d_M_init_1886 : decode b_M_init 1886 = .ok (.iconst 5, 1) := dc_iconst_5 (gt_M_init_18 86)
theorem d_M_init_1887 : decode b_M_init 1887 = .ok (.bastore, 1) := dc_bastore (gt_M_init_18 87)
theorem d_M_init_1888 : decode b_M_init 1888 = .ok (.dup, 1) := dc_dup (gt_M_init_18 88)
theorem d_M_init_1889 : decode b_M_init 1889 = .ok (.bipush 77, 2) := dc_bipush (gt_M_init_18 89) (gt_M_init_18 90) rfl
theorem d_M_init_1891 : decode b_M_init 1891 = .ok (.bipush 112, 2) := dc_bipush (gt_M_init_18 91) (gt_M_init_18 92) rfl
theorem d_M_init_1893 : decode b_M_init 1893 = .ok (.bastore, 1) := dc_bastore (gt_M_init_18 93)
theorem d_M_init_1894 : decode b_M_init 1894 = .ok (.dup, 1) := dc_dup (gt_M_init_18 94)
theorem d_M_init_1895 : decode b_M_init 1895 = .ok (.bipush 78, 2) := dc_bipush (gt_M_init_18 95) (gt_M_init_18 96) rfl
theorem d_M_init_1897 : decode b_M_init 1897 = .ok (.bipush 114, 2) := dc_bipush (gt_M_init_18 97) (gt_M_init_18 98) rfl
theorem d_M_init_1899 : decode b_M_init 1899 = .ok (.bastore, 1) := dc_bastore (gt_M_init_18 99)
theorem d_M_init_1900 : decode b_M_init 1900 = .ok (.dup, 1) := dc_dup (gt_M_init_19 0)
theorem d_M_init_1901 : decode b_M_init 1901 = .ok (.bipush 79, 2) := dc_bipush (gt_M_init_19 1) (gt_M_init_19 2) rfl
theorem d_M_init_1903 : decode b_M_init 1903 = .ok (.bipush 105, 2) := dc_bipush (gt_M_init_19 3) (gt_M_init_19 4) rfl
theorem d_M_init_1905 : decode b_M_init 1905 = .ok (.bastore, 1) := dc_bastore (gt_M_init_19 5)
theorem d_M_init_1906 : decode b_M_init 1906 = .ok (.dup, 1) := dc_dup (gt_M_init_19 6)
theorem d_M_init_1907 : decode b_M_init 1907 = .ok (.bipush 80, 2) := dc_bipush (gt_M_init_19 7) (gt_M_init_19 8) rfl
theorem d_M_init_1909 : decode b_M_init 1909 = .ok (.bipush 110, 2) := dc_bipush (gt_M_init_19 9) (gt_M_init_19 10) rfl
theorem d_M_init_1911 : decode b_M_init 1911 = .ok (.bastore, 1) := dc_bastore (gt_M_init_19 11)
theorem d_M_init_1912 : decode b_M_init 1912 = .ok (.dup, 1) := dc_dup (gt_M_init_19 12)
theorem d_M_init_1913 : decode b_M_init 1913 = .ok (.bipush 81, 2) := dc_bipush (gt_M_init_19 13) (gt_M_init_19 14) rfl
theorem d_M_init_1915 : decode b_M_init 1915 = .ok (.bipush 116, 2) := dc_bipush (gt_M_init_19 15) (gt_M_init_19 16) rfl
theorem d_M_init_1917 : decode b_M_init 1917 = .ok (.bastore, 1) := dc_bastore (gt_M_init_19 17)
theorem d_M_init_1918 : decode b_M_init 1918 = .ok (.dup, 1) := dc_dup (gt_M_init_19 18)
theorem d_M_init_1919 : decode b_M_init 1919 = .ok (.bipush 82, 2) := dc_bipush (gt_M_init_19 19) (gt_M_init_19 20) rfl
theorem d_M_init_1921 : decode b_M_init 1921 = .ok (.iconst 0, 1) := dc_iconst_0 (gt_M_init_19 21)
theorem d_M_init_1922 : decode b_M_init 1922 = .ok (.bastore, 1) := dc_bastore (gt_M_init_19 22)
theorem d_M_init_1923 : decode b_M_init 1923 = .ok (.dup, 1) := dc_dup (gt_M_init_19 23)
theorem d_M_init_1924 : decode b_M_init 1924 = .ok (.bipush 83, 2) := dc_bipush (gt_M_init_19 24) (gt_M_init_19 25) rfl
theorem d_M_init_1926 : decode b_M_init 1926 = .ok (.iconst 3, 1) := dc_iconst_3 (gt_M_init_19 26)
theorem d_M_init_1927 : decode b_M_init 1927 = .ok (.bastore, 1) := dc_bastore (gt_M_init_19 27)
theorem d_M_init_1928 : decode b_M_init 1928 = .ok (.dup, 1) := dc_dup (gt_M_init_19 28)
theorem d_M_init_1929 : decode b_M_init 1929 = .ok (.bipush 84, 2) := dc_bipush (gt_M_init_19 29) (gt_M_init_19 30) rfl
theorem d_M_init_1931 : decode b_M_init 1931 = .ok (.bipush 114, 2) := dc_bipush (gt_M_init_19 31) (gt_M_init_19 32) rfl
theorem d_M_init_1933 : decode b_M_init 1933 = .ok (.bastore, 1) := dc_bastore (gt_M_init_19 33)
theorem d_M_init_1934 : decode b_M_init 1934 = .ok (.dup, 1) := dc_dup (gt_M_init_19 34)
theorem d_M_init_1935 : decode b_M_init 1935 = .ok (.bipush 85, 2) := dc_bipush (gt_M_init_19 35) (gt_M_init_19 36) rfl
theorem d_M_init_1937 : decode b_M_init 1937 = .ok (.bipush 101, 2) := dc_bipush (gt_M_init_19 37) (gt_M_init_19 38) rfl
theorem d_M_init_1939 : decode b_M_init 1939 = .ok (.bastore, 1) := dc_bastore (gt_M_init_19 39)
theorem d_M_init_1940 : decode b_M_init 1940 = .ok (.dup, 1) := dc_dup (gt_M_init_19 40)
theorem d_M_init_1941 : decode b_M_init 1941 = .ok (.bipush 86, 2) := dc_bipush (gt_M_init_19 41) (gt_M_init_19 42) rfl
theorem d_M_init_1943 : decode b_M_init 1943 = .ok (.bipush 102, 2) := dc_bipush (gt_M_init_19 43) (gt_M_init_19 44) rfl
theorem d_M_init_1945 : decode b_M_init 1945 = .ok (.bastore, 1) := dc_bastore (gt_M_init_19 45)
theorem d_M_init_1946 : decode b_M_init 1946 = .ok (.dup, 1) := dc_dup (gt_M_init_19 46)
theorem d_M_init_1947 : decode b_M_init 1947 = .ok (.bipush 87, 2) := dc_bipush (gt_M_init_19 47) (gt_M_init_19 48) rfl
theorem d_M_init_1949 : decode b_M_init 1949 = .ok (.iconst 2, 1) := dc_iconst_2 (gt_M_init_19 49)
theorem d_M_init_1950 : decode b_M_init 1950 = .ok (.bastore, 1) := dc_bastore (gt_M_init_19 50)
theorem d_M_init_1951 : decode b_M_init 1951 = .ok (.dup, 1) := dc_dup (gt_M_init_19 51)
theorem d_M_init_1952 : decode b_M_init 1952 = .ok (.bipush 88, 2) := dc_bipush (gt_M_init_19 52) (gt_M_init_19 53) rfl
theorem d_M_init_1954 : decode b_M_init 1954 = .ok (.iconst 4, 1) := dc_iconst_4 (gt_M_init_19 54)
theorem d_M_init_1955 : decode b_M_init 1955 = .ok (.bastore, 1) := dc_bastore (gt_M_init_19 55)
theorem d_M_init_1956 : decode b_M_init 1956 = .ok (.dup, 1) := dc_dup (gt_M_init_19 56)
theorem d_M_init_1957 : decode b_M_init 1957 = .ok (.bipush 89, 2) := dc_bipush (gt_M_init_19 57) (gt_M_init_19 58) rfl
theorem d_M_init_1959 : decode b_M_init 1959 = .ok (.bipush 110, 2) := dc_bipush (gt_M_init_19 59) (gt_M_init_19 60) rfl
theorem d_M_init_1961 : decode b_M_init 1961 = .ok (.bastore, 1) := dc_bastore (gt_M_init_19 61)
theorem d_M_init_1962 : decode b_M_init 1962 = .ok (.dup, 1) := dc_dup (gt_M_init_19 62)
theorem d_M_init_1963 : decode b_M_init 1963 = .ok (.bipush 90, 2) := dc_bipush (gt_M_init_19 63) (gt_M_init_19 64) rfl
theorem d_M_init_1965 : decode b_M_init 1965 = .ok (.bipush 97, 2) := dc_bipush (gt_M_init_19 65) (gt_M_init_19 66) rfl
theorem d_M_init_1967 : decode b_M_init 1967 = .ok (.bastore, 1) := dc_bastore (gt_M_init_19 67)
theorem d_M_init_1968 : decode b_M_init 1968 = .ok (.dup, 1) := dc_dup (gt_M_init_19 68)
theorem d_M_init_1969 : decode b_M_init 1969 = .ok (.bipush 91, 2) := dc_bipush (gt_M_init_19 69) (gt_M_init_19 70) rfl
theorem d_M_init_1971 : decode b_M_init 1971 = .ok (.bipush 109, 2) := dc_bipush (gt_M_init_19 71) (gt_M_init_19 72) rfl
theorem d_M_init_1973 : decode b_M_init 1973 = .ok (.bastore, 1) := dc_bastore (gt_M_init_19 73)
theorem d_M_init_1974 : decode b_M_init 1974 = .ok (.dup, 1) := dc_dup (gt_M_init_19 74)
theorem d_M_init_1975 : decode b_M_init 1975 = .ok (.bipush 92, 2) := dc_bipush (gt_M_init_19 75) (gt_M_init_19 76) rfl
theorem d_M_init_1977 : decode b_M_init 1977 = .ok (.bipush 101, 2) := dc_bipush (gt_M_init_19 77) (gt_M_init_19 78) rfl
theorem d_M_init_1979 : decode b_M_init 1979 = .ok (.bastore, 1) := dc_bastore (gt_M_init_19 79)
theorem d_M_init_1980 : decode b_M_init 1980 = .ok (.dup, 1) := dc_dup (gt_M_init_19 80)
theorem d_M_init_1981 : decode b_M_init 1981 = .ok (.bipush 93, 2) := dc_bipush (gt_M_init_19 81) (gt_M_init_19 82) rfl
theorem d_M_init_1983 : decode b_M_init 1983 = .ok (.iconst 1, 1) := dc_iconst_1 (gt_M_init_19 83)
theorem d_M_init_1984 : decode b_M_init 1984 = .ok (.bastore, 1) := dc_bastore (gt_M_init_19 84)
theorem d_M_init_1985 : decode b_M_init 1985 = .ok (.dup, 1) := dc_dup (gt_M_init_19 85)
theorem d_M_init_1986 : decode b_M_init 1986 = .ok (.bipush 94, 2) := dc_bipush (gt_M_init_19 86) (gt_M_init_19 87) rfl
theorem d_M_init_1988 : decode b_M_init 1988 = .ok (.bipush 6, 2) := dc_bipush (gt_M_init_19 88) (gt_M_init_19 89) rfl
theorem d_M_init_1990 : decode b_M_init 1990 = .ok (.bastore, 1) := dc_bastore (gt_M_init_19 90)
theorem d_M_init_1991 : decode b_M_init 1991 = .ok (.dup, 1) := dc_dup (gt_M_init_19 91)
theorem d_M_init_1992 : decode b_M_init 1992 = .ok (.bipush 95, 2) := dc_bipush (gt_M_init_19 92) (gt_M_init_19 93) rfl
theorem d_M_init_1994 : decode b_M_init 1994 = .ok (.bipush 117, 2) := dc_bipush (gt_M_init_19 94) (gt_M_init_19 95) rfl
theorem d_M_init_1996 : decode b_M_init 1996 = .ok (.bastore, 1) := dc_bastore (gt_M_init_19 96)
theorem d_M_init_1997 : decode b_M_init 1997 = .ok (.dup, 1) := dc_dup (gt_M_init_19 97)
theorem d_M_init_1998 : decode b_M_init 1998 = .ok (.bipush 96, 2) := dc_bipush (gt_M_init_19 98) (gt_M_init_19 99) rfl
theorem d_M_init_2000 : decode b_M_init 2000 = .ok (.bipush 110, 2) := dc_bipush (gt_M_init_20 0) (gt_M_init_20 1) rfl
theorem d_M_init_2002 : decode b_M_init 2002 = .ok (.bastore, 1) := dc_bastore (gt_M_init_20 2)
theorem d_M_init_2003 : decode b_M_init 2003 = .ok (.dup, 1) := dc_dup (gt_M_init_20 3)
theorem d_M_init_2004 : decode b_M_init 2004 = .ok (.bipush 97, 2) := dc_bipush (gt_M_init_20 4) (gt_M_init_20 5) rfl
theorem d_M_init_2006 : decode b_M_init 2006 = .ok (.bipush 110, 2) := dc_bipush (gt_M_init_20 6) (gt_M_init_20 7) rfl
theorem d_M_init_2008 : decode b_M_init 2008 = .ok (.bastore, 1) := dc_bastore (gt_M_init_20 8)
theorem d_M_init_2009 : decode b_M_init 2009 = .ok (.dup, 1) := dc_dup (gt_M_init_20 9)
theorem d_M_init_2010 : decode b_M_init 2010 = .ok (.bipush 98, 2) := dc_bipush (gt_M_init_20 10) (gt_M_init_20 11) rfl
theorem d_M_init_2012 : decode b_M_init 2012 = .ok (.bipush 97, 2) := dc_bipush (gt_M_init_20 12) (gt_M_init_20 13) rfl
theorem d_M_init_2014 : decode b_M_init 2014 = .ok (.bastore, 1) := dc_bastore (gt_M_init_20 14)
theorem d_M_init_2015 : decode b_M_init 2015 = .ok (.dup, 1) := dc_dup (gt_M_init_20 15)
theorem d_M_init_2016 : decode b_M_init 2016 = .ok (.bipush 99, 2) := dc_bipush (gt_M_init_20 16) (gt_M_init_20 17) rfl
theorem d_M_init_2018 : decode b_M_init 2018 = .ok (.bipush 109, 2) := dc_bipush (gt_M_init_20 18) (gt_M_init_20 19) rfl
theorem d_M_init_2020 : decode b_M_init 2020 = .ok (.bastore, 1) := dc_bastore (gt_M_init_20 20)
theorem d_M_init_2021 : decode b_M_init 2021 = .ok (.dup, 1) := dc_dup (gt_M_init_20 21)
theorem d_M_init_2022 : decode b_M_init 2022 = .ok (.bipush 100, 2) := dc_bipush (gt_M_init_20 22) (gt_M_init_20 23) rfl
theorem d_M_init_2024 : decode b_M_init 2024 = .ok (.bipush 101, 2) := dc_bipush (gt_M_init_20 24) (gt_M_init_20 25) rfl
theorem d_M_init_2026 : decode b_M_init 2026 = .ok (.bastore, 1) := dc_bastore (gt_M_init_20 26)
theorem d_M_init_2027 : decode b_M_init 2027 = .ok (.dup, 1) := dc_dup (gt_M_init_20 27)
theorem d_M_init_2028 : decode b_M_init 2028 = .ok (.bipush 101, 2) := dc_bipush (gt_M_init_20 28) (gt_M_init_20 29) rfl
theorem d_M_init_2030 : decode b_M_init 2030 = .ok (.iconst 1, 1) := dc_iconst_1 (gt_M_init_20 30)
theorem d_M_init_2031 : decode b_M_init 2031 = .ok (.bastore, 1) := dc_bastore (gt_M_init_20 31)
theorem d_M_init_2032 : decode b_M_init 2032 = .ok (.dup, 1) := dc_dup (gt_M_init_20 32)
theorem d_M_init_2033 : decode b_M_init 2033 = .ok (.bipush 102, 2) := dc_bipush (gt_M_init_20 33) (gt_M_init_20 34) rfl
theorem d_M_init_2035 : decode b_M_init 2035 = .ok (.iconst 5, 1) := dc_iconst_5 (gt_M_init_20 35)
theorem d_M_init_2036 : decode b_M_init 2036 = .ok (.bastore, 1) := dc_bastore (gt_M_init_20 36)
theorem d_M_init_2037 : decode b_M_init 2037 = .ok (.dup, 1) := dc_dup (gt_M_init_20 37)
theorem d_M_init_2038 : decode b_M_init 2038 = .ok (.bipush 103, 2) := dc_bipush (gt_M_init_20 38) (gt_M_init_20 39) rfl
theorem d_M_init_2040 : decode b_M_init 2040 = .ok (.bipush 110, 2) := dc_bipush (gt_M_init_20 40) (gt_M_init_20 41) rfl
theorem d_M_init_2042 : decode b_M_init 2042 = .ok (.bastore, 1) := dc_bastore (gt_M_init_20 42)
theorem d_M_init_2043 : decode b_M_init 2043 = .ok (.dup, 1) := dc_dup (gt_M_init_20 43)
theorem d_M_init_2044 : decode b_M_init 2044 = .ok (.bipush 104, 2) := dc_bipush (gt_M_init_20 44) (gt_M_init_20 45) rfl
theorem d_M_init_2046 : decode b_M_init 2046 = .ok (.bipush 97, 2) := dc_bipush (gt_M_init_20 46) (gt_M_init_20 47) rfl
theorem d_M_init_2048 : decode b_M_init 2048 = .ok (.bastore, 1) := dc_bastore (gt_M_init_20 48)
theorem d_M_init_2049 : decode b_M_init 2049 = .ok (.dup, 1) := dc_dup (gt_M_init_20 49)
theorem d_M_init_2050 : decode b_M_init 2050 = .ok (.bipush 105, 2) := dc_bipush (gt_M_init_20 50) (gt_M_init_20 51) rfl
theorem d_M_init_2052 : decode b_M_init 2052 = .ok (.bipush 109, 2) := dc_bipush (gt_M_init_20 52) (gt_M_init_20 53) rfl
theorem d_M_init_2054 : decode b_M_init 2054 = .ok (.bastore, 1) := dc_bastore (gt_M_init_20 54)
theorem d_M_init_2055 : decode b_M_init 2055 = .ok (.dup, 1) := dc_dup (gt_M_init_20 55)
theorem d_M_init_2056 : decode b_M_init 2056 = .ok (.bipush 106, 2) := dc_bipush (gt_M_init_20 56) (gt_M_init_20 57) rfl
theorem d_M_init_2058 : decode b_M_init 2058 = .ok (.bipush 101, 2) := dc_bipush (gt_M_init_20 58) (gt_M_init_20 59) rfl
theorem d_M_init_2060 : decode b_M_init 2060 = .ok (.bastore, 1) := dc_bastore (gt_M_init_20 60)
theorem d_M_init_2061 : decode b_M_init 2061 = .ok (.dup, 1) := dc_dup (gt_M_init_20 61)
theorem d_M_init_2062 : decode b_M_init 2062 = .ok (.bipush 107, 2) := dc_bipush (gt_M_init_20 62) (gt_M_init_20 63) rfl
theorem d_M_init_2064 : decode b_M_init 2064 = .ok (.bipush 100, 2) := dc_bipush (gt_M_init_20 64) (gt_M_init_20 65) rfl
theorem d_M_init_2066 : decode b_M_init 2066 = .ok (.bastore, 1) := dc_bastore (gt_M_init_20 66)
theorem d_M_init_2067 : decode b_M_init 2067 = .ok (.dup, 1) := dc_dup (gt_M_init_20 67)
theorem d_M_init_2068 : decode b_M_init 2068 = .ok (.bipush 108, 2) := dc_bipush (gt_M_init_20 68) (gt_M_init_20 69) rfl
theorem d_M_init_2070 : decode b_M_init 2070 = .ok (.iconst 1, 1) := dc_iconst_1 (gt_M_init_20 70)
theorem d_M_init_2071 : decode b_M_init 2071 = .ok (.bastore, 1) := dc_bastore (gt_M_init_20 71)
theorem d_M_init_2072 : decode b_M_init 2072 = .ok (.dup, 1) := dc_dup (gt_M_init_20 72)
theorem d_M_init_2073 : decode b_M_init 2073 = .ok (.bipush 109, 2) := dc_bipush (gt_M_init_20 73) (gt_M_init_20 74) rfl
theorem d_M_init_2075 : decode b_M_init 2075 = .ok (.iconst 5, 1) := dc_iconst_5 (gt_M_init_20 75)
theorem d_M_init_2076 : decode b_M_init 2076 = .ok (.bastore, 1) := dc_bastore (gt_M_init_20 76)
theorem d_M_init_2077 : decode b_M_init 2077 = .ok (.dup, 1) := dc_dup (gt_M_init_20 77)
theorem d_M_init_2078 : decode b_M_init 2078 = .ok (.bipush 110, 2) := dc_bipush (gt_M_init_20 78) (gt_M_init_20 79) rfl
theorem d_M_init_2080 : decode b_M_init 2080 = .ok (.bipush 97, 2) := dc_bipush (gt_M_init_20 80) (gt_M_init_20 81) rfl
theorem d_M_init_2082 : decode b_M_init 2082 = .ok (.bastore, 1) := dc_bastore (gt_M_init_20 82)
theorem d_M_init_2083 : decode b_M_init 2083 = .ok (.dup, 1) := dc_dup (gt_M_init_20 83)
theorem d_M_init_2084 : decode b_M_init 2084 = .ok (.bipush 111, 2) := dc_bipush (gt_M_init_20 84) (gt_M_init_20 85) rfl
theorem d_M_init_2086 : decode b_M_init 2086 = .ok (.bipush 108, 2) := dc_bipush (gt_M_init_20 86) (gt_M_init_20 87) rfl
theorem d_M_init_2088 : decode b_M_init 2088 = .ok (.bastore, 1) := dc_bastore (gt_M_init_20 88)
theorem d_M_init_2089 : decode b_M_init 2089 = .ok (.dup, 1) := dc_dup (gt_M_init_20 89)
theorem d_M_init_2090 : decode b_M_init 2090 = .ok (.bipush 112, 2) := dc_bipush (gt_M_init_20 90) (gt_M_init_20 91) rfl
theorem d_M_init_2092 : decode b_M_init 2092 = .ok (.bipush 105, 2) := dc_bipush (gt_M_init_20 92) (gt_M_init_20 93) rfl
theorem d_M_init_2094 : decode b_M_init 2094 = .ok (.bastore, 1) := dc_bastore (gt_M_init_20 94)
theorem d_M_init_2095 : decode b_M_init 2095 = .ok (.dup, 1) := dc_dup (gt_M_init_20 95)
theorem d_M_init_2096 : decode b_M_init 2096 = .ok (.bipush 113, 2) := dc_bipush (gt_M_init_20 96) (gt_M_init_20 97) rfl
theorem d_M_init_2098 : decode b_M_init 2098 = .ok (.bipush 118, 2) := dc_bipush (gt_M_init_20 98) (gt_M_init_20 99) rfl
theorem d_M_init_2100 : decode b_M_init 2100 = .ok (.bastore, 1) := dc_bastore (gt_M_init_21 0)
theorem d_M_init_2101 : decode b_M_init 2101 = .ok (.dup, 1) := dc_dup (gt_M_init_21 1)
theorem d_M_init_2102 : decode b_M_init 2102 = .ok (.bipush 114, 2) := dc_bipush (gt_M_init_21 2) (gt_M_init_21 3) rfl
theorem d_M_init_2104 : decode b_M_init 2104 = .ok (.bipush 101, 2) := dc_bipush (gt_M_init_21 4) (gt_M_init_21 5) rfl
theorem d_M_init_2106 : decode b_M_init 2106 = .ok (.bastore, 1) := dc_bastore (gt_M_init_21 6)
theorem d_M_init_2107 : decode b_M_init 2107 = .ok (.dup, 1) := dc_dup (gt_M_init_21 7)
theorem d_M_init_2108 : decode b_M_init 2108 = .ok (.bipush 115, 2) := dc_bipush (gt_M_init_21 8) (gt_M_init_21 9) rfl
theorem d_M_init_2110 : decode b_M_init 2110 = .ok (.iconst 0, 1) := dc_iconst_0 (gt_M_init_21 10)
theorem d_M_init_2111 : decode b_M_init 2111 = .ok (.bastore, 1) := dc_bastore (gt_M_init_21 11)
theorem d_M_init_2112 : decode b_M_init 2112 = .ok (.dup, 1) := dc_dup (gt_M_init_21 12)
theorem d_M_init_2113 : decode b_M_init 2113 = .ok (.bipush 116, 2) := dc_bipush (gt_M_init_21 13) (gt_M_init_21 14) rfl
theorem d_M_init_2115 : decode b_M_init 2115 = .ok (.iconst 3, 1) := dc_iconst_3 (gt_M_init_21 15)
theorem d_M_init_2116 : decode b_M_init 2116 = .ok (.bastore, 1) := dc_bastore (gt_M_init_21 16)
theorem d_M_init_2117 : decode b_M_init 2117 = .ok (.dup, 1) := dc_dup (gt_M_init_21 17)
theorem d_M_init_2118 : decode b_M_init 2118 = .ok (.bipush 117, 2) := dc_bipush (gt_M_init_21 18) (gt_M_init_21 19) rfl
theorem d_M_init_2120 : decode b_M_init 2120 = .ok (.bipush 110, 2) := dc_bipush (gt_M_init_21 20) (gt_M_init_21 21) rfl
theorem d_M_init_2122 : decode b_M_init 2122 = .ok (.bastore, 1) := dc_bastore (gt_M_init_21 22)
theorem d_M_init_2123 : decode b_M_init 2123 = .ok (.dup, 1) := dc_dup (gt_M_init_21 23)
theorem d_M_init_2124 : decode b_M_init 2124 = .ok (.bipush 118, 2) := dc_bipush (gt_M_init_21 24) (gt_M_init_21 25) rfl
theorem d_M_init_2126 : decode b_M_init 2126 = .ok (.bipush 111, 2) := dc_bipush (gt_M_init_21 26) (gt_M_init_21 27) rfl
theorem d_M_init_2128 : decode b_M_init 2128 = .ok (.bastore, 1) := dc_bastore (gt_M_init_21 28)
theorem d_M_init_2129 : decode b_M_init 2129 = .ok (.dup, 1) := dc_dup (gt_M_init_21 29)
theorem d_M_init_2130 : decode b_M_init 2130 = .ok (.bipush 119, 2) := dc_bipush (gt_M_init_21 30) (gt_M_init_21 31) rfl
theorem d_M_init_2132 : decode b_M_init 2132 = .ok (.bipush 119, 2) := dc_bipush (gt_M_init_21 32) (gt_M_init_21 33) rfl
theorem d_M_init_2134 : decode b_M_init 2134 = .ok (.bastore, 1) := dc_bastore (gt_M_init_21 34)
theorem d_M_init_2135 : decode b_M_init 2135 = .ok (.dup, 1) := dc_dup (gt_M_init_21 35)
theorem d_M_init_2136 : decode b_M_init 2136 = .ok (.bipush 120, 2) := dc_bipush (gt_M_init_21 36) (gt_M_init_21 37) rfl
theorem d_M_init_2138 : decode b_M_init 2138 = .ok (.iconst 1, 1) := dc_iconst_1 (gt_M_init_21 38)
theorem d_M_init_2139 : decode b_M_init 2139 = .ok (.bastore, 1) := dc_bastore (gt_M_init_21 39)
theorem d_M_init_2140 : decode b_M_init 2140 = .ok (.dup, 1) := dc_dup (gt_M_init_21 40)
theorem d_M_init_2141 : decode b_M_init 2141 = .ok (.bipush 121, 2) := dc_bipush (gt_M_init_21 41) (gt_M_init_21 42) rfl
theorem d_M_init_2143 : decode b_M_init 2143 = .ok (.bipush 9, 2) := dc_bipush (gt_M_init_21 43) (gt_M_init_21 44) rfl
theorem d_M_init_2145 : decode b_M_init 2145 = .ok (.bastore, 1) := dc_bastore (gt_M_init_21 45)
theorem d_M_init_2146 : decode b_M_init 2146 = .ok (.dup, 1) := dc_dup (gt_M_init_21 46)
theorem d_M_init_2147 : decode b_M_init 2147 = .ok (.bipush 122, 2) := dc_bipush (gt_M_init_21 47) (gt_M_init_21 48) rfl
theorem d_M_init_2149 : decode b_M_init 2149 = .ok (.bipush 105, 2) := dc_bipush (gt_M_init_21 49) (gt_M_init_21 50) rfl
theorem d_M_init_2151 : decode b_M_init 2151 = .ok (.bastore, 1) := dc_bastore (gt_M_init_21 51)
theorem d_M_init_2152 : decode b_M_init 2152 = .ok (.dup, 1) := dc_dup (gt_M_init_21 52)
theorem d_M_init_2153 : decode b_M_init 2153 = .ok (.bipush 123, 2) := dc_bipush (gt_M_init_21 53) (gt_M_init_21 54) rfl
theorem d_M_init_2155 : decode b_M_init 2155 = .ok (.bipush 115, 2) := dc_bipush (gt_M_init_21 55) (gt_M_init_21 56) rfl
theorem d_M_init_2157 : decode b_M_init 2157 = .ok (.bastore, 1) := dc_bastore (gt_M_init_21 57)
theorem d_M_init_2158 : decode b_M_init 2158 = .ok (.dup, 1) := dc_dup (gt_M_init_21 58)
theorem d_M_init_2159 : decode b_M_init 2159 = .ok (.bipush 124, 2) := dc_bipush (gt_M_init_21 59) (gt_M_init_21 60) rfl
theorem d_M_init_2161 : decode b_M_init 2161 = .ok (.bipush 95, 2) := dc_bipush (gt_M_init_21 61) (gt_M_init_21 62) rfl
theorem d_M_init_2163 : decode b_M_init 2163 = .ok (.bastore, 1) := dc_bastore (gt_M_init_21 63)
theorem d_M_init_2164 : decode b_M_init 2164 = .ok (.dup, 1) := dc_dup (gt_M_init_21 64)
theorem d_M_init_2165 : decode b_M_init 2165 = .ok (.bipush 125, 2) := dc_bipush (gt_M_init_21 65) (gt_M_init_21 66) rfl
theorem d_M_init_2167 : decode b_M_init 2167 = .ok (.bipush 110, 2) := dc_bipush (gt_M_init_21 67) (gt_M_init_21 68) rfl
theorem d_M_init_2169 : decode b_M_init 2169 = .ok (.bastore, 1) := dc_bastore (gt_M_init_21 69)
theorem d_M_init_2170 : decode b_M_init 2170 = .ok (.dup, 1) := dc_dup (gt_M_init_21 70)
theorem d_M_init_2171 : decode b_M_init 2171 = .ok (.bipush 126, 2) := dc_bipush (gt_M_init_21 71) (gt_M_init_21 72) rfl
theorem d_M_init_2173 : decode b_M_init 2173 = .ok (.bipush 117, 2) := dc_bipush (gt_M_init_21 73) (gt_M_init_21 74) rfl
theorem d_M_init_2175 : decode b_M_init 2175 = .ok (.bastore, 1) := dc_bastore (gt_M_init_21 75)
theorem d_M_init_2176 : decode b_M_init 2176 = .ok (.dup, 1) := dc_dup (gt_M_init_21 76)
theorem d_M_init_2177 : decode b_M_init 2177 = .ok (.bipush 127, 2) := dc_bipush (gt_M_init_21 77) (gt_M_init_21 78) rfl
theorem d_M_init_2179 : decode b_M_init 2179 = .ok (.bipush 109, 2) := dc_bipush (gt_M_init_21 79) (gt_M_init_21 80) rfl
theorem d_M_init_2181 : decode b_M_init 2181 = .ok (.bastore, 1) := dc_bastore (gt_M_init_21 81)
theorem d_M_init_2182 : decode b_M_init 2182 = .ok (.dup, 1) := dc_dup (gt_M_init_21 82)
theorem d_M_init_2183 : decode b_M_init 2183 = .ok (.sipush 128, 3) := dc_sipush (gt_M_init_21 83) (gt_M_init_21 84) (gt_M_init_21 85) (by decide)
theorem d_M_init_2186 : decode b_M_init 2186 = .ok (.bipush 98, 2) := dc_bipush (gt_M_init_21 86) (gt_M_init_21 87) rfl
theorem d_M_init_2188 : decode b_M_init 2188 = .ok (.bastore, 1) := dc_bastore (gt_M_init_21 88)
theorem d_M_init_2189 : decode b_M_init 2189 = .ok (.dup, 1) := dc_dup (gt_M_init_21 89)
theorem d_M_init_2190 : decode b_M_init 2190 = .ok (.sipush 129, 3) := dc_sipush (gt_M_init_21 90) (gt_M_init_21 91) (gt_M_init_21 92) (by decide)
theorem d_M_init_2193 : decode b_M_init 2193 = .ok (.bipush 101, 2) := dc_bipush (gt_M_init_21 93) (gt_M_init_21 94) rfl
theorem d_M_init_2195 : decode b_M_init 2195 = .ok (.bastore, 1) := dc_bastore (gt_M_init_21 95)
theorem d_M_init_2196 : decode b_M_init 2196 = .ok (.dup, 1) := dc_dup (gt_M_init_21 96)
theorem d_M_init_2197 : decode b_M_init 2197 = .ok (.sipush 130, 3) := dc_sipush (gt_M_init_21 97) (gt_M_init_21 98) (gt_M_init_21 99) (by decide)
theorem d_M_init_2200 : decode b_M_init 2200 = .ok (.bipush 114, 2) := dc_bipush (gt_M_init_22 0) (gt_M_init_22 1) rfl
theorem d_M_init_2202 : decode b_M_init 2202 = .ok (.bastore, 1) := dc_bastore (gt_M_init_22 2)
theorem d_M_init_2203 : decode b_M_init 2203 = .ok (.dup, 1) := dc_dup (gt_M_init_22 3)
theorem d_M_init_2204 : decode b_M_init 2204 = .ok (.sipush 131, 3) := dc_sipush (gt_M_init_22 4) (gt_M_init_22 5) (gt_M_init_22 6) (by decide)
theorem d_M_init_2207 : decode b_M_init 2207 = .ok (.iconst 1, 1) := dc_iconst_1 (gt_M_init_22 7)
theorem d_M_init_2208 : decode b_M_init 2208 = .ok (.bastore, 1) := dc_bastore (gt_M_init_22 8)
theorem d_M_init_2209 : decode b_M_init 2209 = .ok (.dup, 1) := dc_dup (gt_M_init_22 9)
theorem d_M_init_2210 : decode b_M_init 2210 = .ok (.sipush 132, 3) := dc_sipush (gt_M_init_22 10) (gt_M_init_22 11) (gt_M_init_22 12) (by decide)
theorem d_M_init_2213 : decode b_M_init 2213 = .ok (.bipush 7, 2) := dc_bipush (gt_M_init_22 13) (gt_M_init_22 14) rfl
theorem d_M_init_2215 : decode b_M_init 2215 = .ok (.bastore, 1) := dc_bastore (gt_M_init_22 15)
theorem d_M_init_2216 : decode b_M_init 2216 = .ok (.dup, 1) := dc_dup (gt_M_init_22 16)
theorem d_M_init_2217 : decode b_M_init 2217 = .ok (.sipush 133, 3) := dc_sipush (gt_M_init_22 17) (gt_M_init_22 18) (gt_M_init_22 19) (by decide)
theorem d_M_init_2220 : decode b_M_init 2220 = .ok (.bipush 105, 2) := dc_bipush (gt_M_init_22 20) (gt_M_init_22 21) rfl
theorem d_M_init_2222 : decode b_M_init 2222 = .ok (.bastore, 1) := dc_bastore (gt_M_init_22 22)
theorem d_M_init_2223 : decode b_M_init 2223 = .ok (.dup, 1) := dc_dup (gt_M_init_22 23)
theorem d_M_init_2224 : decode b_M_init 2224 = .ok (.sipush 134, 3) := dc_sipush (gt_M_init_22 24) (gt_M_init_22 25) (gt_M_init_22 26) (by decide)
theorem d_M_init_2227 : decode b_M_init 2227 = .ok (.bipush 115, 2) := dc_bipush (gt_M_init_22 27) (gt_M_init_22 28) rfl
theorem d_M_init_2229 : decode b_M_init 2229 = .ok (.bastore, 1) := dc_bastore (gt_M_init_22 29)
theorem d_M_init_2230 : decode b_M_init 2230 = .ok (.dup, 1) := dc_dup (gt_M_init_22 30)
theorem d_M_init_2231 : decode b_M_init 2231 = .ok (.sipush 135, 3) := dc_sipush (gt_M_init_22 31) (gt_M_init_22 32) (gt_M_init_22 33) (by decide)
theorem d_M_init_2234 : decode b_M_init 2234 = .ok (.bipush 95, 2) := dc_bipush (gt_M_init_22 34) (gt_M_init_22 35) rfl
theorem d_M_init_2236 : decode b_M_init 2236 = .ok (.bastore, 1) := dc_bastore (gt_M_init_22 36)
theorem d_M_init_2237 : decode b_M_init 2237 = .ok (.dup, 1) := dc_dup (gt_M_init_22 37)
theorem d_M_init_2238 : decode b_M_init 2238 = .ok (.sipush 136, 3) := dc_sipush (gt_M_init_22 38) (gt_M_init_22 39) (gt_M_init_22 40) (by decide)
theorem d_M_init_2241 : decode b_M_init 2241 = .ok (.bipush 97, 2) := dc_bipush (gt_M_init_22 41) (gt_M_init_22 42) rfl
theorem d_M_init_2243 : decode b_M_init 2243 = .ok (.bastore, 1) := dc_bastore (gt_M_init_22 43)
theorem d_M_init_2244 : decode b_M_init 2244 = .ok (.dup, 1) := dc_dup (gt_M_init_22 44)
theorem d_M_init_2245 : decode b_M_init 2245 = .ok (.sipush 137, 3) := dc_sipush (gt_M_init_22 45) (gt_M_init_22 46) (gt_M_init_22 47) (by decide)
theorem d_M_init_2248 : decode b_M_init 2248 = .ok (.bipush 116, 2) := dc_bipush (gt_M_init_22 48) (gt_M_init_22 49) rfl
theorem d_M_init_2250 : decode b_M_init 2250 = .ok (.bastore, 1) := dc_bastore (gt_M_init_22 50)
theorem d_M_init_2251 : decode b_M_init 2251 = .ok (.dup, 1) := dc_dup (gt_M_init_22 51)
theorem d_M_init_2252 : decode b_M_init 2252 = .ok (.sipush 138, 3) := dc_sipush (gt_M_init_22 52) (gt_M_init_22 53) (gt_M_init_22 54) (by decide)
theorem d_M_init_2255 : decode b_M_init 2255 = .ok (.bipush 111, 2) := dc_bipush (gt_M_init_22 55) (gt_M_init_22 56) rfl
theorem d_M_init_2257 : decode b_M_init 2257 = .ok (.bastore, 1) := dc_bastore (gt_M_init_22 57)
theorem d_M_init_2258 : decode b_M_init 2258 = .ok (.dup, 1) := dc_dup (gt_M_init_22 58)
theorem d_M_init_2259 : decode b_M_init 2259 = .ok (.sipush 139, 3) := dc_sipush (gt_M_init_22 59) (gt_M_init_22 60) (gt_M_init_22 61) (by decide)
theorem d_M_init_2262 : decode b_M_init 2262 = .ok (.bipush 109, 2) := dc_bipush (gt_M_init_22 62) (gt_M_init_22 63) rfl
theorem d_M_init_2264 : decode b_M_init 2264 = .ok (.bastore, 1) := dc_bastore (gt_M_init_22 64)
theorem d_M_init_2265 : decode b_M_init 2265 = .ok (.dup, 1) := dc_dup (gt_M_init_22 65)
theorem d_M_init_2266 : decode b_M_init 2266 = .ok (.sipush 140, 3) := dc_sipush (gt_M_init_22 66) (gt_M_init_22 67) (gt_M_init_22 68) (by decide)
theorem d_M_init_2269 : decode b_M_init 2269 = .ok (.iconst 1, 1) := dc_iconst_1 (gt_M_init_22 69)
theorem d_M_init_2270 : decode b_M_init 2270 = .ok (.bastore, 1) := dc_bastore (gt_M_init_22 70)
theorem d_M_init_2271 : decode b_M_init 2271 = .ok (.dup, 1) := dc_dup (gt_M_init_22 71)
theorem d_M_init_2272 : decode b_M_init 2272 = .ok (.sipush 141, 3) := dc_sipush (gt_M_init_22 72) (gt_M_init_22 73) (gt_M_init_22 74) (by decide)
theorem d_M_init_2275 : decode b_M_init 2275 = .ok (.bipush 7, 2) := dc_bipush (gt_M_init_22 75) (gt_M_init_22 76) rfl
theorem d_M_init_2277 : decode b_M_init 2277 = .ok (.bastore, 1) := dc_bastore (gt_M_init_22 77)
theorem d_M_init_2278 : decode b_M_init 2278 = .ok (.dup, 1) := dc_dup (gt_M_init_22 78)
theorem d_M_init_2279 : decode b_M_init 2279 = .ok (.sipush 142, 3) := dc_sipush (gt_M_init_22 79) (gt_M_init_22 80) (gt_M_init_22 81) (by decide)
theorem d_M_init_2282 : decode b_M_init 2282 = .ok (.bipush 105, 2) := dc_bipush (gt_M_init_22 82) (gt_M_init_22 83) rfl
theorem d_M_init_2284 : decode b_M_init 2284 = .ok (.bastore, 1) := dc_bastore (gt_M_init_22 84)
theorem d_M_init_2285 : decode b_M_init 2285 = .ok (.dup, 1) := dc_dup (gt_M_init_22 85)
theorem d_M_init_2286 : decode b_M_init 2286 = .ok (.sipush 143, 3) := dc_sipush (gt_M_init_22 86) (gt_M_init_22 87) (gt_M_init_22 88) (by decide)
theorem d_M_init_2289 : decode b_M_init 2289 = .ok (.bipush 115, 2) := dc_bipush (gt_M_init_22 89) (gt_M_init_22 90) rfl
theorem d_M_init_2291 : decode b_M_init 2291 = .ok (.bastore, 1) := dc_bastore (gt_M_init_22 91)
theorem d_M_init_2292 : decode b_M_init 2292 = .ok (.dup, 1) := dc_dup (gt_M_init_22 92)
theorem d_M_init_2293 : decode b_M_init 2293 = .ok (.sipush 144, 3) := dc_sipush (gt_M_init_22 93) (gt_M_init_22 94) (gt_M_init_22 95) (by decide)
theorem d_M_init_2296 : decode b_M_init 2296 = .ok (.bipush 95, 2) := dc_bipush (gt_M_init_22 96) (gt_M_init_22 97) rfl
theorem d_M_init_2298 : decode b_M_init 2298 = .ok (.bastore, 1) := dc_bastore (gt_M_init_22 98)
theorem d_M_init_2299 : decode b_M_init 2299 = .ok (.dup, 1) := dc_dup (gt_M_init_22 99)
theorem d_M_init_2300 : decode b_M_init 2300 = .ok (.sipush 145, 3) := dc_sipush (gt_M_init_23 0) (gt_M_init_23 1) (gt_M_init_23 2) (by decide)
theorem d_M_init_2303 : decode b_M_init 2303 = .ok (.bipush 108, 2) := dc_bipush (gt_M_init_23 3) (gt_M_init_23 4) rfl
theorem d_M_init_2305 : decode b_M_init 2305 = .ok (.bastore, 1) := dc_bastore (gt_M_init_23 5)
theorem d_M_init_2306 : decode b_M_init 2306 = .ok (.dup, 1) := dc_dup (gt_M_init_23 6)
theorem d_M_init_2307 : decode b_M_init 2307 = .ok (.sipush 146, 3) := dc_sipush (gt_M_init_23 7) (gt_M_init_23 8) (gt_M_init_23 9) (by decide)
theorem d_M_init_2310 : decode b_M_init 2310 = .ok (.bipush 105, 2) := dc_bipush (gt_M_init_23 10) (gt_M_init_23 11) rfl
theorem d_M_init_2312 : decode b_M_init 2312 = .ok (.bastore, 1) := dc_bastore (gt_M_init_23 12)
theorem d_M_init_2313 : decode b_M_init 2313 = .ok (.dup, 1) := dc_dup (gt_M_init_23 13)
theorem d_M_init_2314 : decode b_M_init 2314 = .ok (.sipush 147, 3) := dc_sipush (gt_M_init_23 14) (gt_M_init_23 15) (gt_M_init_23 16) (by decide)
theorem d_M_init_2317 : decode b_M_init 2317 = .ok (.bipush 115, 2) := dc_bipush (gt_M_init_23 17) (gt_M_init_23 18) rfl
theorem d_M_init_2319 : decode b_M_init 2319 = .ok (.bastore, 1) := dc_bastore (gt_M_init_23 19)
theorem d_M_init_2320 : decode b_M_init 2320 = .ok (.dup, 1) := dc_dup (gt_M_init_23 20)
theorem d_M_init_2321 : decode b_M_init 2321 = .ok (.sipush 148, 3) := dc_sipush (gt_M_init_23 21) (gt_M_init_23 22) (gt_M_init_23 23) (by decide)
theorem d_M_init_2324 : decode b_M_init 2324 = .ok (.bipush 116, 2) := dc_bipush (gt_M_init_23 24) (gt_M_init_23 25) rfl
theorem d_M_init_2326 : decode b_M_init 2326 = .ok (.bastore, 1) := dc_bastore (gt_M_init_23 26)
theorem d_M_init_2327 : decode b_M_init 2327 = .ok (.dup, 1) := dc_dup (gt_M_init_23 27)
theorem d_M_init_2328 : decode b_M_init 2328 = .ok (.sipush 149, 3) := dc_sipush (gt_M_init_23 28) (gt_M_init_23 29) (gt_M_init_23 30) (by decide)
theorem d_M_init_2331 : decode b_M_init 2331 = .ok (.iconst 1, 1) := dc_iconst_1 (gt_M_init_23 31)
theorem d_M_init_2332 : decode b_M_init 2332 = .ok (.bastore, 1) := dc_bastore (gt_M_init_23 32)
theorem d_M_init_2333 : decode b_M_init 2333 = .ok (.dup, 1) := dc_dup (gt_M_init_23 33)
theorem d_M_init_2334 : decode b_M_init 2334 = .ok (.sipush 150, 3) := dc_sipush (gt_M_init_23 34) (gt_M_init_23 35) (gt_M_init_23 36) (by decide)
theorem d_M_init_2337 : decode b_M_init 2337 = .ok (.bipush 8, 2) := dc_bipush (gt_M_init_23 37) (gt_M_init_23 38) rfl
theorem d_M_init_2339 : decode b_M_init 2339 = .ok (.bastore, 1) := dc_bastore (gt_M_init_23 39)
theorem d_M_init_2340 : decode b_M_init 2340 = .ok (.dup, 1) := dc_dup (gt_M_init_23 40)
theorem d_M_init_2341 : decode b_M_init 2341 = .ok (.sipush 151, 3) := dc_sipush (gt_M_init_23 41) (gt_M_init_23 42) (gt_M_init_23 43) (by decide)
theorem d_M_init_2344 : decode b_M_init 2344 = .ok (.bipush 105, 2) := dc_bipush (gt_M_init_23 44) (gt_M_init_23 45) rfl
theorem d_M_init_2346 : decode b_M_init 2346 = .ok (.bastore, 1) := dc_bastore (gt_M_init_23 46)
theorem d_M_init_2347 : decode b_M_init 2347 = .ok (.dup, 1) := dc_dup (gt_M_init_23 47)
theorem d_M_init_2348 : decode b_M_init 2348 = .ok (.sipush 152, 3) := dc_sipush (gt_M_init_23 48) (gt_M_init_23 49) (gt_M_init_23 50) (by decide)
theorem d_M_init_2351 : decode b_M_init 2351 = .ok (.bipush 115, 2) := dc_bipush (gt_M_init_23 51) (gt_M_init_23 52) rfl
theorem d_M_init_2353 : decode b_M_init 2353 = .ok (.bastore, 1) := dc_bastore (gt_M_init_23 53)
theorem d_M_init_2354 : decode b_M_init 2354 = .ok (.dup, 1) := dc_dup (gt_M_init_23 54)
theorem d_M_init_2355 : decode b_M_init 2355 = .ok (.sipush 153, 3) := dc_sipush (gt_M_init_23 55) (gt_M_init_23 56) (gt_M_init_23 57) (by decide)
theorem d_M_init_2358 : decode b_M_init 2358 = .ok (.bipush 95, 2) := dc_bipush (gt_M_init_23 58) (gt_M_init_23 59) rfl
theorem d_M_init_2360 : decode b_M_init 2360 = .ok (.bastore, 1) := dc_bastore (gt_M_init_23 60)
theorem d_M_init_2361 : decode b_M_init 2361 = .ok (.dup, 1) := dc_dup (gt_M_init_23 61)
theorem d_M_init_2362 : decode b_M_init 2362 = .ok (.sipush 154, 3) := dc_sipush (gt_M_init_23 62) (gt_M_init_23 63) (gt_M_init_23 64) (by decide)
theorem d_M_init_2365 : decode b_M_init 2365 = .ok (.bipush 116, 2) := dc_bipush (gt_M_init_23 65) (gt_M_init_23 66) rfl
theorem d_M_init_2367 : decode b_M_init 2367 = .ok (.bastore, 1) := dc_bastore (gt_M_init_23 67)
theorem d_M_init_2368 : decode b_M_init 2368 = .ok (.dup, 1) := dc_dup (gt_M_init_23 68)
theorem d_M_init_2369 : decode b_M_init 2369 = .ok (.sipush 155, 3) := dc_sipush (gt_M_init_23 69) (gt_M_init_23 70) (gt_M_init_23 71) (by decide)
theorem d_M_init_2372 : decode b_M_init 2372 = .ok (.bipush 117, 2) := dc_bipush (gt_M_init_23 72) (gt_M_init_23 73) rfl
theorem d_M_init_2374 : decode b_M_init 2374 = .ok (.bastore, 1) := dc_bastore (gt_M_init_23 74)
theorem d_M_init_2375 : decode b_M_init 2375 = .ok (.dup, 1) := dc_dup (gt_M_init_23 75)
theorem d_M_init_2376 : decode b_M_init 2376 = .ok (.sipush 156, 3) := dc_sipush (gt_M_init_23 76) (gt_M_init_23 77) (gt_M_init_23 78) (by decide)
theorem d_M_init_2379 : decode b_M_init 2379 = .ok (.bipush 112, 2) := dc_bipush (gt_M_init_23 79) (gt_M_init_23 80) rfl
theorem d_M_init_2381 : decode b_M_init 2381 = .ok (.bastore, 1) := dc_bastore (gt_M_init_23 81)
theorem d_M_init_2382 : decode b_M_init 2382 = .ok (.dup, 1) := dc_dup (gt_M_init_23 82)
theorem d_M_init_2383 : decode b_M_init 2383 = .ok (.sipush 157, 3) := dc_sipush (gt_M_init_23 83) (gt_M_init_23 84) (gt_M_init_23 85) (by decide)
theorem d_M_init_2386 : decode b_M_init 2386 = .ok (.bipush 108, 2) := dc_bipush (gt_M_init_23 86) (gt_M_init_23 87) rfl
theorem d_M_init_2388 : decode b_M_init 2388 = .ok (.bastore, 1) := dc_bastore (gt_M_init_23 88)
theorem d_M_init_2389 : decode b_M_init 2389 = .ok (.dup, 1) := dc_dup (gt_M_init_23 89)
theorem d_M_init_2390 : decode b_M_init 2390 = .ok (.sipush 158, 3) := dc_sipush (gt_M_init_23 90) (gt_M_init_23 91) (gt_M_init_23 92) (by decide)
theorem d_M_init_2393 : decode b_M_init 2393 = .ok (.bipush 101, 2) := dc_bipush (gt_M_init_23 93) (gt_M_init_23 94) rfl
theorem d_M_init_2395 : decode b_M_init 2395 = .ok (.bastore, 1) := dc_bastore (gt_M_init_23 95)
theorem d_M_init_2396 : decode b_M_init 2396 = .ok (.dup, 1) := dc_dup (gt_M_init_23 96)
theorem d_M_init_2397 : decode b_M_init 2397 = .ok (.sipush 159, 3) := dc_sipush (gt_M_init_23 97) (gt_M_init_23 98) (gt_M_init_23 99) (by decide)
theorem d_M_init_2400 : decode b_M_init 2400 = .ok (.iconst 1, 1) := dc_iconst_1 (gt_M_init_24 0)
theorem d_M_init_2401 : decode b_M_init 2401 = .ok (.bastore, 1) := dc_bastore (gt_M_init_24 1)
theorem d_M_init_2402 : decode b_M_init 2402 = .ok (.dup, 1) := dc_dup (gt_M_init_24 2)
theorem d_M_init_2403 : decode b_M_init 2403 = .ok (.sipush 160, 3) := dc_sipush (gt_M_init_24 3) (gt_M_init_24 4) (gt_M_init_24 5) (by decide)
theorem d_M_init_2406 : decode b_M_init 2406 = .ok (.bipush 6, 2) := dc_bipush (gt_M_init_24 6) (gt_M_init_24 7) rfl
theorem d_M_init_2408 : decode b_M_init 2408 = .ok (.bastore, 1) := dc_bastore (gt_M_init_24 8)
theorem d_M_init_2409 : decode b_M_init 2409 = .ok (.dup, 1) := dc_dup (gt_M_init_24 9)
theorem d_M_init_2410 : decode b_M_init 2410 = .ok (.sipush 161, 3) := dc_sipush (gt_M_init_24 10) (gt_M_init_24 11) (gt_M_init_24 12) (by decide)
theorem d_M_init_2413 : decode b_M_init 2413 = .ok (.bipush 105, 2) := dc_bipush (gt_M_init_24 13) (gt_M_init_24 14) rfl
theorem d_M_init_2415 : decode b_M_init 2415 = .ok (.bastore, 1) := dc_bastore (gt_M_init_24 15)
theorem d_M_init_2416 : decode b_M_init 2416 = .ok (.dup, 1) := dc_dup (gt_M_init_24 16)
theorem d_M_init_2417 : decode b_M_init 2417 = .ok (.sipush 162, 3) := dc_sipush (gt_M_init_24 17) (gt_M_init_24 18) (gt_M_init_24 19) (by decide)
theorem d_M_init_2420 : decode b_M_init 2420 = .ok (.bipush 115, 2) := dc_bipush (gt_M_init_24 20) (gt_M_init_24 21) rfl
theorem d_M_init_2422 : decode b_M_init 2422 = .ok (.bastore, 1) := dc_bastore (gt_M_init_24 22)
theorem d_M_init_2423 : decode b_M_init 2423 = .ok (.dup, 1) := dc_dup (gt_M_init_24 23)
theorem d_M_init_2424 : decode b_M_init 2424 = .ok (.sipush 163, 3) := dc_sipush (gt_M_init_24 24) (gt_M_init_24 25) (gt_M_init_24 26) (by decide)
theorem d_M_init_2427 : decode b_M_init 2427 = .ok (.bipush 95, 2) := dc_bipush (gt_M_init_24 27) (gt_M_init_24 28) rfl
theorem d_M_init_2429 : decode b_M_init 2429 = .ok (.bastore, 1) := dc_bastore (gt_M_init_24 29)
theorem d_M_init_2430 : decode b_M_init 2430 = .ok (.dup, 1) := dc_dup (gt_M_init_24 30)
theorem d_M_init_2431 : decode b_M_init 2431 = .ok (.sipush 164, 3) := dc_sipush (gt_M_init_24 31) (gt_M_init_24 32) (gt_M_init_24 33) (by decide)
theorem d_M_init_2434 : decode b_M_init 2434 = .ok (.bipush 102, 2) := dc_bipush (gt_M_init_24 34) (gt_M_init_24 35) rfl
theorem d_M_init_2436 : decode b_M_init 2436 = .ok (.bastore, 1) := dc_bastore (gt_M_init_24 36)
theorem d_M_init_2437 : decode b_M_init 2437 = .ok (.dup, 1) := dc_dup (gt_M_init_24 37)
theorem d_M_init_2438 : decode b_M_init 2438 = .ok (.sipush 165, 3) := dc_sipush (gt_M_init_24 38) (gt_M_init_24 39) (gt_M_init_24 40) (by decide)
theorem d_M_init_2441 : decode b_M_init 2441 = .ok (.bipush 117, 2) := dc_bipush (gt_M_init_24 41) (gt_M_init_24 42) rfl
theorem d_M_init_2443 : decode b_M_init 2443 = .ok (.bastore, 1) := dc_bastore (gt_M_init_24 43)
theorem d_M_init_2444 : decode b_M_init 2444 = .ok (.dup, 1) := dc_dup (gt_M_init_24 44)
theorem d_M_init_2445 : decode b_M_init 2445 = .ok (.sipush 166, 3) := dc_sipush (gt_M_init_24 45) (gt_M_init_24 46) (gt_M_init_24 47) (by decide)
theorem d_M_init_2448 : decode b_M_init 2448 = .ok (.bipush 110, 2) := dc_bipush (gt_M_init_24 48) (gt_M_init_24 49) rfl
theorem d_M_init_2450 : decode b_M_init 2450 = .ok (.bastore, 1) := dc_bastore (gt_M_init_24 50)
theorem d_M_init_2451 : decode b_M_init 2451 = .ok (.dup, 1) := dc_dup (gt_M_init_24 51)
theorem d_M_init_2452 : decode b_M_init 2452 = .ok (.sipush 167, 3) := dc_sipush (gt_M_init_24 52) (gt_M_init_24 53) (gt_M_init_24 54) (by decide)
theorem d_M_init_2455 : decode b_M_init 2455 = .ok (.iconst 1, 1) := dc_iconst_1 (gt_M_init_24 55)
theorem d_M_init_2456 : decode b_M_init 2456 = .ok (.bastore, 1) := dc_bastore (gt_M_init_24 56)
theorem d_M_init_2457 : decode b_M_init 2457 = .ok (.dup, 1) := dc_dup (gt_M_init_24 57)
theorem d_M_init_2458 : decode b_M_init 2458 = .ok (.sipush 168, 3) := dc_sipush (gt_M_init_24 58) (gt_M_init_24 59) (gt_M_init_24 60) (by decide)
theorem d_M_init_2461 : decode b_M_init 2461 = .ok (.bipush 10, 2) := dc_bipush (gt_M_init_24 61) (gt_M_init_24 62) rfl
theorem d_M_init_2463 : decode b_M_init 2463 = .ok (.bastore, 1) := dc_bastore (gt_M_init_24 63)
theorem d_M_init_2464 : decode b_M_init 2464 = .ok (.dup, 1) := dc_dup (gt_M_init_24 64)
theorem d_M_init_2465 : decode b_M_init 2465 = .ok (.sipush 169, 3) := dc_sipush (gt_M_init_24 65) (gt_M_init_24 66) (gt_M_init_24 67) (by decide)
theorem d_M_init_2468 : decode b_M_init 2468 = .ok (.bipush 105, 2) := dc_bipush (gt_M_init_24 68) (gt_M_init_24 69) rfl
theorem d_M_init_2470 : decode b_M_init 2470 = .ok (.bastore, 1) := dc_bastore (gt_M_init_24 70)
theorem d_M_init_2471 : decode b_M_init 2471 = .ok (.dup, 1) := dc_dup (gt_M_init_24 71)
theorem d_M_init_2472 : decode b_M_init 2472 = .ok (.sipush 170, 3) := dc_sipush (gt_M_init_24 72) (gt_M_init_24 73) (gt_M_init_24 74) (by decide)
theorem d_M_init_2475 : decode b_M_init 2475 = .ok (.bipush 115, 2) := dc_bipush (gt_M_init_24 75) (gt_M_init_24 76) rfl
theorem d_M_init_2477 : decode b_M_init 2477 = .ok (.bastore, 1) := dc_bastore (gt_M_init_24 77)
theorem d_M_init_2478 : decode b_M_init 2478 = .ok (.dup, 1) := dc_dup (gt_M_init_24 78)
theorem d_M_init_2479 : decode b_M_init 2479 = .ok (.sipush 171, 3) := dc_sipush (gt_M_init_24 79) (gt_M_init_24 80) (gt_M_init_24 81) (by decide)
theorem d_M_init_2482 : decode b_M_init 2482 = .ok (.bipush 95, 2) := dc_bipush (gt_M_init_24 82) (gt_M_init_24 83) rfl
theorem d_M_init_2484 : decode b_M_init 2484 = .ok (.bastore, 1) := dc_bastore (gt_M_init_24 84)
theorem d_M_init_2485 : decode b_M_init 2485 = .ok (.dup, 1) := dc_dup (gt_M_init_24 85)
theorem d_M_init_2486 : decode b_M_init 2486 = .ok (.sipush 172, 3) := dc_sipush (gt_M_init_24 86) (gt_M_init_24 87) (gt_M_init_24 88) (by decide)
theorem d_M_init_2489 : decode b_M_init 2489 = .ok (.bipush 112, 2) := dc_bipush (gt_M_init_24 89) (gt_M_init_24 90) rfl
theorem d_M_init_2491 : decode b_M_init 2491 = .ok (.bastore, 1) := dc_bastore (gt_M_init_24 91)
theorem d_M_init_2492 : decode b_M_init 2492 = .ok (.dup, 1) := dc_dup (gt_M_init_24 92)
theorem d_M_init_2493 : decode b_M_init 2493 = .ok (.sipush 173, 3) := dc_sipush (gt_M_init_24 93) (gt_M_init_24 94) (gt_M_init_24 95) (by decide)
theorem d_M_init_2496 : decode b_M_init 2496 = .ok (.bipush 114, 2) := dc_bipush (gt_M_init_24 96) (gt_M_init_24 97) rfl
theorem d_M_init_2498 : decode b_M_init 2498 = .ok (.bastore, 1) := dc_bastore (gt_M_init_24 98)
theorem d_M_init_2499 : decode b_M_init 2499 = .ok (.dup, 1) := dc_dup (gt_M_init_24 99)
theorem d_M_init_2500 : decode b_M_init 2500 = .ok (.sipush 174, 3) := dc_sipush (gt_M_init_25 0) (gt_M_init_25 1) (gt_M_init_25 2) (by decide)
theorem d_M_init_2503 : decode b_M_init 2503 = .ok (.bipush 111, 2) := dc_bipush (gt_M_init_25 3) (gt_M_init_25 4) rfl
theorem d_M_init_2505 : decode b_M_init 2505 = .ok (.bastore, 1) := dc_bastore (gt_M_init_25 5)
theorem d_M_init_2506 : decode b_M_init 2506 = .ok (.dup, 1) := dc_dup (gt_M_init_25 6)
theorem d_M_init_2507 : decode b_M_init 2507 = .ok (.sipush 175, 3) := dc_sipush (gt_M_init_25 7) (gt_M_init_25 8) (gt_M_init_25 9) (by decide)
theorem d_M_init_2510 : decode b_M_init 2510 = .ok (.bipush 99, 2) := dc_bipush (gt_M_init_25 10) (gt_M_init_25 11) rfl
theorem d_M_init_2512 : decode b_M_init 2512 = .ok (.bastore, 1) := dc_bastore (gt_M_init_25 12)
theorem d_M_init_2513 : decode b_M_init 2513 = .ok (.dup, 1) := dc_dup (gt_M_init_25 13)
theorem d_M_init_2514 : decode b_M_init 2514 = .ok (.sipush 176, 3) := dc_sipush (gt_M_init_25 14) (gt_M_init_25 15) (gt_M_init_25 16) (by decide)
theorem d_M_init_2517 : decode b_M_init 2517 = .ok (.bipush 101, 2) := dc_bipush (gt_M_init_25 17) (gt_M_init_25 18) rfl
theorem d_M_init_2519 : decode b_M_init 2519 = .ok (.bastore, 1) := dc_bastore (gt_M_init_25 19)
theorem d_M_init_2520 : decode b_M_init 2520 = .ok (.dup, 1) := dc_dup (gt_M_init_25 20)
theorem d_M_init_2521 : decode b_M_init 2521 = .ok (.sipush 177, 3) := dc_sipush (gt_M_init_25 21) (gt_M_init_25 22) (gt_M_init_25 23) (by decide)
theorem d_M_init_2524 : decode b_M_init 2524 = .ok (.bipush 115, 2) := dc_bipush (gt_M_init_25 24) (gt_M_init_25 25) rfl
theorem d_M_init_2526 : decode b_M_init 2526 = .ok (.bastore, 1) := dc_bastore (gt_M_init_25 26)
theorem d_M_init_2527 : decode b_M_init 2527 = .ok (.dup, 1) := dc_dup (gt_M_init_25 27)
theorem d_M_init_2528 : decode b_M_init 2528 = .ok (.sipush 178, 3) := dc_sipush (gt_M_init_25 28) (gt_M_init_25 29) (gt_M_init_25 30) (by decide)
theorem d_M_init_2531 : decode b_M_init 2531 = .ok (.bipush 115, 2) := dc_bipush (gt_M_init_25 31) (gt_M_init_25 32) rfl
theorem d_M_init_2533 : decode b_M_init 2533 = .ok (.bastore, 1) := dc_bastore (gt_M_init_25 33)
theorem d_M_init_2534 : decode b_M_init 2534 = .ok (.dup, 1) := dc_dup (gt_M_init_25 34)
theorem d_M_init_2535 : decode b_M_init 2535 = .ok (.sipush 179, 3) := dc_sipush (gt_M_init_25 35) (gt_M_init_25 36) (gt_M_init_25 37) (by decide)
theorem d_M_init_2538 : decode b_M_init 2538 = .ok (.iconst 1, 1) := dc_iconst_1 (gt_M_init_25 38)
theorem d_M_init_2539 : decode b_M_init 2539 = .ok (.bastore, 1) := dc_bastore (gt_M_init_25 39)
theorem d_M_init_2540 : decode b_M_init 2540 = .ok (.dup, 1) := dc_dup (gt_M_init_25 40)
theorem d_M_init_2541 : decode b_M_init 2541 = .ok (.sipush 180, 3) := dc_sipush (gt_M_init_25 41) (gt_M_init_25 42) (gt_M_init_25 43) (by decide)
theorem d_M_init_2544 : decode b_M_init 2544 = .ok (.bipush 6, 2) := dc_bipush (gt_M_init_25 44) (gt_M_init_25 45) rfl
theorem d_M_init_2546 : decode b_M_init 2546 = .ok (.bastore, 1) := dc_bastore (gt_M_init_25 46)
theorem d_M_init_2547 : decode b_M_init 2547 = .ok (.dup, 1) := dc_dup (gt_M_init_25 47)
theorem d_M_init_2548 : decode b_M_init 2548 = .ok (.sipush 181, 3) := dc_sipush (gt_M_init_25 48) (gt_M_init_25 49) (gt_M_init_25 50) (by decide)
theorem d_M_init_2551 : decode b_M_init 2551 = .ok (.bipush 105, 2) := dc_bipush (gt_M_init_25 51) (gt_M_init_25 52) rfl
theorem d_M_init_2553 : decode b_M_init 2553 = .ok (.bastore, 1) := dc_bastore (gt_M_init_25 53)
theorem d_M_init_2554 : decode b_M_init 2554 = .ok (.dup, 1) := dc_dup (gt_M_init_25 54)
theorem d_M_init_2555 : decode b_M_init 2555 = .ok (.sipush 182, 3) := dc_sipush (gt_M_init_25 55) (gt_M_init_25 56) (gt_M_init_25 57) (by decide)
theorem d_M_init_2558 : decode b_M_init 2558 = .ok (.bipush 115, 2) := dc_bipush (gt_M_init_25 58) (gt_M_init_25 59) rfl
theorem d_M_init_2560 : decode b_M_init 2560 = .ok (.bastore, 1) := dc_bastore (gt_M_init_25 60)
theorem d_M_init_2561 : decode b_M_init 2561 = .ok (.dup, 1) := dc_dup (gt_M_init_25 61)
theorem d_M_init_2562 : decode b_M_init 2562 = .ok (.sipush 183, 3) := dc_sipush (gt_M_init_25 62) (gt_M_init_25 63) (gt_M_init_25 64) (by decide)
theorem d_M_init_2565 : decode b_M_init 2565 = .ok (.bipush 95, 2) := dc_bipush (gt_M_init_25 65) (gt_M_init_25 66) rfl
theorem d_M_init_2567 : decode b_M_init 2567 = .ok (.bastore, 1) := dc_bastore (gt_M_init_25 67)
theorem d_M_init_2568 : decode b_M_init 2568 = .ok (.dup, 1) := dc_dup (gt_M_init_25 68)
theorem d_M_init_2569 : decode b_M_init 2569 = .ok (.sipush 184, 3) := dc_sipush (gt_M_init_25 69) (gt_M_init_25 70) (gt_M_init_25 71) (by decide)
theorem d_M_init_2572 : decode b_M_init 2572 = .ok (.bipush 114, 2) := dc_bipush (gt_M_init_25 72) (gt_M_init_25 73) rfl
theorem d_M_init_2574 : decode b_M_init 2574 = .ok (.bastore, 1) := dc_bastore (gt_M_init_25 74)
theorem d_M_init_2575 : decode b_M_init 2575 = .ok (.dup, 1) := dc_dup (gt_M_init_25 75)
theorem d_M_init_2576 : decode b_M_init 2576 = .ok (.sipush 185, 3) := dc_sipush (gt_M_init_25 76) (gt_M_init_25 77) (gt_M_init_25 78) (by decide)
theorem d_M_init_2579 : decode b_M_init 2579 = .ok (.bipush 101, 2) := dc_bipush (gt_M_init_25 79) (gt_M_init_25 80) rfl
theorem d_M_init_2581 : decode b_M_init 2581 = .ok (.bastore, 1) := dc_bastore (gt_M_init_25 81)
theorem d_M_init_2582 : decode b_M_init 2582 = .ok (.dup, 1) := dc_dup (gt_M_init_25 82)
theorem d_M_init_2583 : decode b_M_init 2583 = .ok (.sipush 186, 3) := dc_sipush (gt_M_init_25 83) (gt_M_init_25 84) (gt_M_init_25 85) (by decide)
theorem d_M_init_2586 : decode b_M_init 2586 = .ok (.bipush 102, 2) := dc_bipush (gt_M_init_25 86) (gt_M_init_25 87) rfl
theorem d_M_init_2588 : decode b_M_init 2588 = .ok (.bastore, 1) := dc_bastore (gt_M_init_25 88)
theorem d_M_init_2589 : decode b_M_init 2589 = .ok (.dup, 1) := dc_dup (gt_M_init_25 89)
theorem d_M_init_2590 : decode b_M_init 2590 = .ok (.sipush 187, 3) := dc_sipush (gt_M_init_25 90) (gt_M_init_25 91) (gt_M_init_25 92) (by decide)
theorem d_M_init_2593 : decode b_M_init 2593 = .ok (.iconst 1, 1) := dc_iconst_1 (gt_M_init_25 93)
theorem d_M_init_2594 : decode b_M_init 2594 = .ok (.bastore, 1) := dc_bastore (gt_M_init_25 94)
theorem d_M_init_2595 : decode b_M_init 2595 = .ok (.dup, 1) := dc_dup (gt_M_init_25 95)
theorem d_M_init_2596 : decode b_M_init 2596 = .ok (.sipush 188, 3) := dc_sipush (gt_M_init_25 96) (gt_M_init_25 97) (gt_M_init_25 98) (by decide)
theorem d_M_init_2599 : decode b_M_init 2599 = .ok (.iconst 2, 1) := dc_iconst_2 (gt_M_init_25 99)
theorem d_M_init_2600 : decode b_M_init 2600 = .ok (.bastore, 1) := dc_bastore (gt_M_init_26 0)
theorem d_M_init_2601 : decode b_M_init 2601 = .ok (.dup, 1) := dc_dup (gt_M_init_26 1)
theorem d_M_init_2602 : decode b_M_init 2602 = .ok (.sipush 189, 3) := dc_sipush (gt_M_init_26 2) (gt_M_init_26 3) (gt_M_init_26 4) (by decide)
theorem d_M_init_2605 : decode b_M_init 2605 = .ok (.bipush 104, 2) := dc_bipush (gt_M_init_26 5) (gt_M_init_26 6) rfl
theorem d_M_init_2607 : decode b_M_init 2607 = .ok (.bastore, 1) := dc_bastore (gt_M_init_26 7)
theorem d_M_init_2608 : decode b_M_init 2608 = .ok (.dup, 1) := dc_dup (gt_M_init_26 8)
theorem d_M_init_2609 : decode b_M_init 2609 = .ok (.sipush 190, 3) := dc_sipush (gt_M_init_26 9) (gt_M_init_26 10) (gt_M_init_26 11) (by decide)
theorem d_M_init_2612 : decode b_M_init 2612 = .ok (.bipush 100, 2) := dc_bipush (gt_M_init_26 12) (gt_M_init_26 13) rfl
theorem d_M_init_2614 : decode b_M_init 2614 = .ok (.bastore, 1) := dc_bastore (gt_M_init_26 14)
theorem d_M_init_2615 : decode b_M_init 2615 = .ok (.dup, 1) := dc_dup (gt_M_init_26 15)
theorem d_M_init_2616 : decode b_M_init 2616 = .ok (.sipush 191, 3) := dc_sipush (gt_M_init_26 16) (gt_M_init_26 17) (gt_M_init_26 18) (by decide)
theorem d_M_init_2619 : decode b_M_init 2619 = .ok (.iconst 1, 1) := dc_iconst_1 (gt_M_init_26 19)
theorem d_M_init_2620 : decode b_M_init 2620 = .ok (.bastore, 1) := dc_bastore (gt_M_init_26 20)
theorem d_M_init_2621 : decode b_M_init 2621 = .ok (.dup, 1) := dc_dup (gt_M_init_26 21)
theorem d_M_init_2622 : decode b_M_init 2622 = .ok (.sipush 192, 3) := dc_sipush (gt_M_init_26 22) (gt_M_init_26 23) (gt_M_init_26 24) (by decide)
theorem d_M_init_2625 : decode b_M_init 2625 = .ok (.iconst 2, 1) := dc_iconst_2 (gt_M_init_26 25)
theorem d_M_init_2626 : decode b_M_init 2626 = .ok (.bastore, 1) := dc_bastore (gt_M_init_26 26)
theorem d_M_init_2627 : decode b_M_init 2627 = .ok (.dup, 1) := dc_dup (gt_M_init_26 27)
theorem d_M_init_2628 : decode b_M_init 2628 = .ok (.sipush 193, 3) := dc_sipush (gt_M_init_26 28) (gt_M_init_26 29) (gt_M_init_26 30) (by decide)
theorem d_M_init_2631 : decode b_M_init 2631 = .ok (.bipush 116, 2) := dc_bipush (gt_M_init_26 31) (gt_M_init_26 32) rfl
theorem d_M_init_2633 : decode b_M_init 2633 = .ok (.bastore, 1) := dc_bastore (gt_M_init_26 33)
theorem d_M_init_2634 : decode b_M_init 2634 = .ok (.dup, 1) := dc_dup (gt_M_init_26 34)
theorem d_M_init_2635 : decode b_M_init 2635 = .ok (.sipush 194, 3) := dc_sipush (gt_M_init_26 35) (gt_M_init_26 36) (gt_M_init_26 37) (by decide)
theorem d_M_init_2638 : decode b_M_init 2638 = .ok (.bipush 108, 2) := dc_bipush (gt_M_init_26 38) (gt_M_init_26 39) rfl
theorem d_M_init_2640 : decode b_M_init 2640 = .ok (.bastore, 1) := dc_bastore (gt_M_init_26 40)
theorem d_M_init_2641 : decode b_M_init 2641 = .ok (.dup, 1) := dc_dup (gt_M_init_26 41)
theorem d_M_init_2642 : decode b_M_init 2642 = .ok (.sipush 195, 3) := dc_sipush (gt_M_init_26 42) (gt_M_init_26 43) (gt_M_init_26 44) (by decide)
theorem d_M_init_2645 : decode b_M_init 2645 = .ok (.iconst 1, 1) := dc_iconst_1 (gt_M_init_26 45)
theorem d_M_init_2646 : decode b_M_init 2646 = .ok (.bastore, 1) := dc_bastore (gt_M_init_26 46)
theorem d_M_init_2647 : decode b_M_init 2647 = .ok (.dup, 1) := dc_dup (gt_M_init_26 47)
theorem d_M_init_2648 : decode b_M_init 2648 = .ok (.sipush 196, 3) := dc_sipush (gt_M_init_26 48) (gt_M_init_26 49) (gt_M_init_26 50) (by decide)
theorem d_M_init_2651 : decode b_M_init 2651 = .ok (.bipush 6, 2) := dc_bipush (gt_M_init_26 51) (gt_M_init_26 52) rfl
theorem d_M_init_2653 : decode b_M_init 2653 = .ok (.bastore, 1) := dc_bastore (gt_M_init_26 53)
theorem d_M_init_2654 : decode b_M_init 2654 = .ok (.dup, 1) := dc_dup (gt_M_init_26 54)
theorem d_M_init_2655 : decode b_M_init 2655 = .ok (.sipush 197, 3) := dc_sipush (gt_M_init_26 55) (gt_M_init_26 56) (gt_M_init_26 57) (by decide)
theorem d_M_init_2658 : decode b_M_init 2658 = .ok (.bipush 108, 2) := dc_bipush (gt_M_init_26 58) (gt_M_init_26 59) rfl
theorem d_M_init_2660 : decode b_M_init 2660 = .ok (.bastore, 1) := dc_bastore (gt_M_init_26 60)
theorem d_M_init_2661 : decode b_M_init 2661 = .ok (.dup, 1) := dc_dup (gt_M_init_26 61)
theorem d_M_init_2662 : decode b_M_init 2662 = .ok (.sipush 198, 3) := dc_sipush (gt_M_init_26 62) (gt_M_init_26 63) (gt_M_init_26 64) (by decide)
theorem d_M_init_2665 : decode b_M_init 2665 = .ok (.bipush 101, 2) := dc_bipush (gt_M_init_26 65) (gt_M_init_26 66) rfl
theorem d_M_init_2667 : decode b_M_init 2667 = .ok (.bastore, 1) := dc_bastore (gt_M_init_26 67)
theorem d_M_init_2668 : decode b_M_init 2668 = .ok (.dup, 1) := dc_dup (gt_M_init_26 68)
theorem d_M_init_2669 : decode b_M_init 2669 = .ok (.sipush 199, 3) := dc_sipush (gt_M_init_26 69) (gt_M_init_26 70) (gt_M_init_26 71) (by decide)
theorem d_M_init_2672 : decode b_M_init 2672 = .ok (.bipush 110, 2) := dc_bipush (gt_M_init_26 72) (gt_M_init_26 73) rfl
theorem d_M_init_2674 : decode b_M_init 2674 = .ok (.bastore, 1) := dc_bastore (gt_M_init_26 74)
theorem d_M_init_2675 : decode b_M_init 2675 = .ok (.dup, 1) := dc_dup (gt_M_init_26 75)
theorem d_M_init_2676 : decode b_M_init 2676 = .ok (.sipush 200, 3) := dc_sipush (gt_M_init_26 76) (gt_M_init_26 77) (gt_M_init_26 78) (by decide)
theorem d_M_init_2679 : decode b_M_init 2679 = .ok (.bipush 103, 2) := dc_bipush (gt_M_init_26 79) (gt_M_init_26 80) rfl
theorem d_M_init_2681 : decode b_M_init 2681 = .ok (.bastore, 1) := dc_bastore (gt_M_init_26 81)
theorem d_M_init_2682 : decode b_M_init 2682 = .ok (.dup, 1) := dc_dup (gt_M_init_26 82)
theorem d_M_init_2683 : decode b_M_init 2683 = .ok (.sipush 201, 3) := dc_sipush (gt_M_init_26 83) (gt_M_init_26 84) (gt_M_init_26 85) (by decide)
theorem d_M_init_2686 : decode b_M_init 2686 = .ok (.bipush 116, 2) := dc_bipush (gt_M_init_26 86) (gt_M_init_26 87) rfl
theorem d_M_init_2688 : decode b_M_init 2688 = .ok (.bastore, 1) := dc_bastore (gt_M_init_26 88)
theorem d_M_init_2689 : decode b_M_init 2689 = .ok (.dup, 1) := dc_dup (gt_M_init_26 89)
theorem d_M_init_2690 : decode b_M_init 2690 = .ok (.sipush 202, 3) := dc_sipush (gt_M_init_26 90) (gt_M_init_26 91) (gt_M_init_26 92) (by decide)
theorem d_M_init_2693 : decode b_M_init 2693 = .ok (.bipush 104, 2) := dc_bipush (gt_M_init_26 93) (gt_M_init_26 94) rfl
theorem d_M_init_2695 : decode b_M_init 2695 = .ok (.bastore, 1) := dc_bastore (gt_M_init_26 95)
theorem d_M_init_2696 : decode b_M_init 2696 = .ok (.dup, 1) := dc_dup (gt_M_init_26 96)
theorem d_M_init_2697 : decode b_M_init 2697 = .ok (.sipush 203, 3) := dc_sipush (gt_M_init_26 97) (gt_M_init_26 98) (gt_M_init_26 99) (by decide)
theorem d_M_init_2700 : decode b_M_init 2700 = .ok (.iconst 2, 1) := dc_iconst_2 (gt_M_init_27 0)
theorem d_M_init_2701 : decode b_M_init 2701 = .ok (.bastore, 1) := dc_bastore (gt_M_init_27 1)
theorem d_M_init_2702 : decode b_M_init 2702 = .ok (.dup, 1) := dc_dup (gt_M_init_27 2)
theorem d_M_init_2703 : decode b_M_init 2703 = .ok (.sipush 204, 3) := dc_sipush (gt_M_init_27 3) (gt_M_init_27 4) (gt_M_init_27 5) (by decide)
theorem d_M_init_2706 : decode b_M_init 2706 = .ok (.bipush 7, 2) := dc_bipush (gt_M_init_27 6) (gt_M_init_27 7) rfl
theorem d_M_init_2708 : decode b_M_init 2708 = .ok (.bastore, 1) := dc_bastore (gt_M_init_27 8)
theorem d_M_init_2709 : decode b_M_init 2709 = .ok (.dup, 1) := dc_dup (gt_M_init_27 9)
theorem d_M_init_2710 : decode b_M_init 2710 = .ok (.sipush 205, 3) := dc_sipush (gt_M_init_27 10) (gt_M_init_27 11) (gt_M_init_27 12) (by decide)
theorem d_M_init_2713 : decode b_M_init 2713 = .ok (.bipush 101, 2) := dc_bipush (gt_M_init_27 13) (gt_M_init_27 14) rfl
theorem d_M_init_2715 : decode b_M_init 2715 = .ok (.bastore, 1) := dc_bastore (gt_M_init_27 15)
theorem d_M_init_2716 : decode b_M_init 2716 = .ok (.dup, 1) := dc_dup (gt_M_init_27 16)
theorem d_M_init_2717 : decode b_M_init 2717 = .ok (.sipush 206, 3) := dc_sipush (gt_M_init_27 17) (gt_M_init_27 18) (gt_M_init_27 19) (by decide)
theorem d_M_init_2720 : decode b_M_init 2720 = .ok (.bipush 108, 2) := dc_bipush (gt_M_init_27 20) (gt_M_init_27 21) rfl
theorem d_M_init_2722 : decode b_M_init 2722 = .ok (.bastore, 1) := dc_bastore (gt_M_init_27 22)
theorem d_M_init_2723 : decode b_M_init 2723 = .ok (.dup, 1) := dc_dup (gt_M_init_27 23)
theorem d_M_init_2724 : decode b_M_init 2724 = .ok (.sipush 207, 3) := dc_sipush (gt_M_init_27 24) (gt_M_init_27 25) (gt_M_init_27 26) (by decide)
theorem d_M_init_2727 : decode b_M_init 2727 = .ok (.bipush 101, 2) := dc_bipush (gt_M_init_27 27) (gt_M_init_27 28) rfl
theorem d_M_init_2729 : decode b_M_init 2729 = .ok (.bastore, 1) := dc_bastore (gt_M_init_27 29)
theorem d_M_init_2730 : decode b_M_init 2730 = .ok (.dup, 1) := dc_dup (gt_M_init_27 30)
theorem d_M_init_2731 : decode b_M_init 2731 = .ok (.sipush 208, 3) := dc_sipush (gt_M_init_27 31) (gt_M_init_27 32) (gt_M_init_27 33) (by decide)
theorem d_M_init_2734 : decode b_M_init 2734 = .ok (.bipush 109, 2) := dc_bipush (gt_M_init_27 34) (gt_M_init_27 35) rfl
theorem d_M_init_2736 : decode b_M_init 2736 = .ok (.bastore, 1) := dc_bastore (gt_M_init_27 36)
theorem d_M_init_2737 : decode b_M_init 2737 = .ok (.dup, 1) := dc_dup (gt_M_init_27 37)
theorem d_M_init_2738 : decode b_M_init 2738 = .ok (.sipush 209, 3) := dc_sipush (gt_M_init_27 38) (gt_M_init_27 39) (gt_M_init_27 40) (by decide)
theorem d_M_init_2741 : decode b_M_init 2741 = .ok (.bipush 101, 2) := dc_bipush (gt_M_init_27 41) (gt_M_init_27 42) rfl
theorem d_M_init_2743 : decode b_M_init 2743 = .ok (.bastore, 1) := dc_bastore (gt_M_init_27 43)
theorem d_M_init_2744 : decode b_M_init 2744 = .ok (.dup, 1) := dc_dup (gt_M_init_27 44)
theorem d_M_init_2745 : decode b_M_init 2745 = .ok (.sipush 210, 3) := dc_sipush (gt_M_init_27 45) (gt_M_init_27 46) (gt_M_init_27 47) (by decide)
theorem d_M_init_2748 : decode b_M_init 2748 = .ok (.bipush 110, 2) := dc_bipush (gt_M_init_27 48) (gt_M_init_27 49) rfl
theorem d_M_init_2750 : decode b_M_init 2750 = .ok (.bastore, 1) := dc_bastore (gt_M_init_27 50)
theorem d_M_init_2751 : decode b_M_init 2751 = .ok (.dup, 1) := dc_dup (gt_M_init_27 51)
theorem d_M_init_2752 : decode b_M_init 2752 = .ok (.sipush 211, 3) := dc_sipush (gt_M_init_27 52) (gt_M_init_27 53) (gt_M_init_27 54) (by decide)
theorem d_M_init_2755 : decode b_M_init 2755 = .ok (.bipush 116, 2) := dc_bipush (gt_M_init_27 55) (gt_M_init_27 56) rfl
theorem d_M_init_2757 : decode b_M_init 2757 = .ok (.bastore, 1) := dc_bastore (gt_M_init_27 57)
theorem d_M_init_2758 : decode b_M_init 2758 = .ok (.dup, 1) := dc_dup (gt_M_init_27 58)
theorem d_M_init_2759 : decode b_M_init 2759 = .ok (.sipush 212, 3) := dc_sipush (gt_M_init_27 59) (gt_M_init_27 60) (gt_M_init_27 61) (by decide)
theorem d_M_init_2762 : decode b_M_init 2762 = .ok (.iconst 1, 1) := dc_iconst_1 (gt_M_init_27 62)
theorem d_M_init_2763 : decode b_M_init 2763 = .ok (.bastore, 1) := dc_bastore (gt_M_init_27 63)
theorem d_M_init_2764 : decode b_M_init 2764 = .ok (.dup, 1) := dc_dup (gt_M_init_27 64)
theorem d_M_init_2765 : decode b_M_init 2765 = .ok (.sipush 213, 3) := dc_sipush (gt_M_init_27 65) (gt_M_init_27 66) (gt_M_init_27 67) (by decide)
theorem d_M_init_2768 : decode b_M_init 2768 = .ok (.iconst 4, 1) := dc_iconst_4 (gt_M_init_27 68)
theorem d_M_init_2769 : decode b_M_init 2769 = .ok (.bastore, 1) := dc_bastore (gt_M_init_27 69)
theorem d_M_init_2770 : decode b_M_init 2770 = .ok (.dup, 1) := dc_dup (gt_M_init_27 70)
theorem d_M_init_2771 : decode b_M_init 2771 = .ok (.sipush 214, 3) := dc_sipush (gt_M_init_27 71) (gt_M_init_27 72) (gt_M_init_27 73) (by decide)
theorem d_M_init_2774 : decode b_M_init 2774 = .ok (.bipush 115, 2) := dc_bipush (gt_M_init_27 74) (gt_M_init_27 75) rfl
theorem d_M_init_2776 : decode b_M_init 2776 = .ok (.bastore, 1) := dc_bastore (gt_M_init_27 76)
theorem d_M_init_2777 : decode b_M_init 2777 = .ok (.dup, 1) := dc_dup (gt_M_init_27 77)
theorem d_M_init_2778 : decode b_M_init 2778 = .ok (.sipush 215, 3) := dc_sipush (gt_M_init_27 78) (gt_M_init_27 79) (gt_M_init_27 80) (by decide)
theorem d_M_init_2781 : decode b_M_init 2781 = .ok (.bipush 105, 2) := dc_bipush (gt_M_init_27 81) (gt_M_init_27 82) rfl
theorem d_M_init_2783 : decode b_M_init 2783 = .ok (.bastore, 1) := dc_bastore (gt_M_init_27 83)
theorem d_M_init_2784 : decode b_M_init 2784 = .ok (.dup, 1) := dc_dup (gt_M_init_27 84)
theorem d_M_init_2785 : decode b_M_init 2785 = .ok (.sipush 216, 3) := dc_sipush (gt_M_init_27 85) (gt_M_init_27 86) (gt_M_init_27 87) (by decide)
theorem d_M_init_2788 : decode b_M_init 2788 = .ok (.bipush 122, 2) := dc_bipush (gt_M_init_27 88) (gt_M_init_27 89) rfl
theorem d_M_init_2790 : decode b_M_init 2790 = .ok (.bastore, 1) := dc_bastore (gt_M_init_27 90)
theorem d_M_init_2791 : decode b_M_init 2791 = .ok (.dup, 1) := dc_dup (gt_M_init_27 91)
theorem d_M_init_2792 : decode b_M_init 2792 = .ok (.sipush 217, 3) := dc_sipush (gt_M_init_27 92) (gt_M_init_27 93) (gt_M_init_27 94) (by decide)
theorem d_M_init_2795 : decode b_M_init 2795 = .ok (.bipush 101, 2) := dc_bipush (gt_M_init_27 95) (gt_M_init_27 96) rfl
theorem d_M_init_2797 : decode b_M_init 2797 = .ok (.bastore, 1) := dc_bastore (gt_M_init_27 97)
theorem d_M_init_2798 : decode b_M_init 2798 = .ok (.putfield 16, 3) := dc_putfield (gt_M_init_27 98) (gt_M_init_27 99) (gt_M_init_28 0) rfl
theorem d_M_init_2801 : decode b_M_init 2801 = .ok (.aload_n 0, 1) := dc_aload0 (gt_M_init_28 1)
theorem d_M_init_2802 : decode b_M_init 2802 = .ok (.sipush 4000, 3) := dc_sipush (gt_M_init_28 2) (gt_M_init_28 3) (gt_M_init_28 4) (by decide)
theorem d_M_init_2805 : decode b_M_init 2805 = .ok (.newarray .byte, 2) := dc_newarray (gt_M_init_28 5) (gt_M_init_28 6) (fun _ => rfl)
theorem d_M_init_2807 : decode b_M_init 2807 = .ok (.putfield 19, 3) := dc_putfield (gt_M_init_28 7) (gt_M_init_28 8) (gt_M_init_28 9) rfl
theorem d_M_init_2810 : decode b_M_init 2810 = .ok (.aload_n 0, 1) := dc_aload0 (gt_M_init_28 10)
theorem d_M_init_2811 : decode b_M_init 2811 = .ok (.sipush 4002, 3) := dc_sipush (gt_M_init_28 11) (gt_M_init_28 12) (gt_M_init_28 13) (by decide)
theorem d_M_init_2814 : decode b_M_init 2814 = .ok (.newarray .byte, 2) := dc_newarray (gt_M_init_28 14) (gt_M_init_28 15) (fun _ => rfl)
theorem d_M_init_2816 : decode b_M_init 2816 = .ok (.putfield 22, 3) := dc_putfield (gt_M_init_28 16) (gt_M_init_28 17) (gt_M_init_28 18) rfl
theorem d_M_init_2819 : decode b_M_init 2819 = .ok (.aload_n 0, 1) := dc_aload0 (gt_M_init_28 19)
theorem d_M_init_2820 : decode b_M_init 2820 = .ok (.sipush 4002, 3) := dc_sipush (gt_M_init_28 20) (gt_M_init_28 21) (gt_M_init_28 22) (by decide)
theorem d_M_init_2823 : decode b_M_init 2823 = .ok (.newarray .int, 2) := dc_newarray (gt_M_init_28 23) (gt_M_init_28 24) (fun _ => rfl)
theorem d_M_init_2825 : decode b_M_init 2825 = .ok (.putfield 25, 3) := dc_putfield (gt_M_init_28 25) (gt_M_init_28 26) (gt_M_init_28 27) rfl
theorem d_M_init_2828 : decode b_M_init 2828 = .ok (.aload_n 0, 1) := dc_aload0 (gt_M_init_28 28)
theorem d_M_init_2829 : decode b_M_init 2829 = .ok (.sipush 4002, 3) := dc_sipush (gt_M_init_28 29) (gt_M_init_28 30) (gt_M_init_28 31) (by decide)
theorem d_M_init_2832 : decode b_M_init 2832 = .ok (.newarray .int, 2) := dc_newarray (gt_M_init_28 32) (gt_M_init_28 33) (fun _ => rfl)
theorem d_M_init_2834 : decode b_M_init 2834 = .ok (.putfield 29, 3) := dc_putfield (gt_M_init_28 34) (gt_M_init_28 35) (gt_M_init_28 36) rfl
theorem d_M_init_2837 : decode b_M_init 2837 = .ok (.aload_n 0, 1) := dc_aload0 (gt_M_init_28 37)
theorem d_M_init_2838 : decode b_M_init 2838 = .ok (.sipush 5000, 3) := dc_sipush (gt_M_init_28 38) (gt_M_init_28 39) (gt_M_init_28 40) (by decide)
theorem d_M_init_2841 : decode b_M_init 2841 = .ok (.newarray .byte, 2) := dc_newarray (gt_M_init_28 41) (gt_M_init_28 42) (fun _ => rfl)
theorem d_M_init_2843 : decode b_M_init 2843 = .ok (.putfield 32, 3) := dc_putfield (gt_M_init_28 43) (gt_M_init_28 44) (gt_M_init_28 45) rfl
theorem d_M_init_2846 : decode b_M_init 2846 = .ok (.aload_n 0, 1) := dc_aload0 (gt_M_init_28 46)
theorem d_M_init_2847 : decode b_M_init 2847 = .ok (.sipush 2200, 3) := dc_sipush (gt_M_init_28 47) (gt_M_init_28 48) (gt_M_init_28 49) (by decide)
theorem d_M_init_2850 : decode b_M_init 2850 = .ok (.newarray .int, 2) := dc_newarray (gt_M_init_28 50) (gt_M_init_28 51) (fun _ => rfl)
theorem d_M_init_2852 : decode b_M_init 2852 = .ok (.putfield 35, 3) := dc_putfield (gt_M_init_28 52) (gt_M_init_28 53) (gt_M_init_28 54) rfl
theorem d_M_init_2855 : decode b_M_init 2855 = .ok (.aload_n 0, 1) := dc_aload0 (gt_M_init_28 55)
theorem d_M_init_2856 : decode b_M_init 2856 = .ok (.sipush 5000, 3) := dc_sipush (gt_M_init_28 56) (gt_M_init_28 57) (gt_M_init_28 58) (by decide)
theorem d_M_init_2859 : decode b_M_init 2859 = .ok (.newarray .byte, 2) := dc_newarray (gt_M_init_28 59) (gt_M_init_28 60) (fun _ => rfl)
theorem d_M_init_2861 : decode b_M_init 2861 = .ok (.putfield 38, 3) := dc_putfield (gt_M_init_28 61) (gt_M_init_28 62) (gt_M_init_28 63) rfl
theorem d_M_init_2864 : decode b_M_init 2864 = .ok (.aload_n 0, 1) := dc_aload0 (gt_M_init_28 64)
theorem d_M_init_2865 : decode b_M_init 2865 = .ok (.sipush 2200, 3) := dc_sipush (gt_M_init_28 65) (gt_M_init_28 66) (gt_M_init_28 67) (by decide)
theorem d_M_init_2868 : decode b_M_init 2868 = .ok (.newarray .int, 2) := dc_newarray (gt_M_init_28 68) (gt_M_init_28 69) (fun _ => rfl)
theorem d_M_init_2870 : decode b_M_init 2870 = .ok (.putfield 41, 3) := dc_putfield (gt_M_init_28 70) (gt_M_init_28 71) (gt_M_init_28 72) rfl
theorem d_M_init_2873 : decode b_M_init 2873 = .ok (.aload_n 0, 1) := dc_aload0 (gt_M_init_28 73)
theorem d_M_init_2874 : decode b_M_init 2874 = .ok (.sipush 4002, 3) := dc_sipush (gt_M_init_28 74) (gt_M_init_28 75) (gt_M_init_28 76) (by decide)
theorem d_M_init_2877 : decode b_M_init 2877 = .ok (.newarray .byte, 2) := dc_newarray (gt_M_init_28 77) (gt_M_init_28 78) (fun _ => rfl)
theorem d_M_init_2879 : decode b_M_init 2879 = .ok (.putfield 44, 3) := dc_putfield (gt_M_init_28 79) (gt_M_init_28 80) (gt_M_init_28 81) rfl
theorem d_M_init_2882 : decode b_M_init 2882 = .ok (.aload_n 0, 1) := dc_aload0 (gt_M_init_28 82)
theorem d_M_init_2883 : decode b_M_init 2883 = .ok (.sipush 2002, 3) := dc_sipush (gt_M_init_28 83) (gt_M_init_28 84) (gt_M_init_28 85) (by decide)
theorem d_M_init_2886 : decode b_M_init 2886 = .ok (.newarray .int, 2) := dc_newarray (gt_M_init_28 86) (gt_M_init_28 87) (fun _ => rfl)
theorem d_M_init_2888 : decode b_M_init 2888 = .ok (.putfield 47, 3) := dc_putfield (gt_M_init_28 88) (gt_M_init_28 89) (gt_M_init_28 90) rfl
theorem d_M_init_2891 : decode b_M_init 2891 = .ok (.aload_n 0, 1) := dc_aload0 (gt_M_init_28 91)
theorem d_M_init_2892 : decode b_M_init 2892 = .ok (.bipush 21, 2) := dc_bipush (gt_M_init_28 92) (gt_M_init_28 93) rfl
theorem d_M_init_2894 : decode b_M_init 2894 = .ok (.newarray .byte, 2) := dc_newarray (gt_M_init_28 94) (gt_M_init_28 95) (fun _ => rfl)
theorem d_M_init_2896 : decode b_M_init 2896 = .ok (.dup, 1) := dc_dup (gt_M_init_28 96)
theorem d_M_init_2897 : decode b_M_init 2897 = .ok (.iconst 0, 1) := dc_iconst_0 (gt_M_init_28 97)
theorem d_M_init_2898 : decode b_M_init 2898 = .ok (.bipush 45, 2) := dc_bipush (gt_M_init_28 98) (gt_M_init_28 99) rfl
theorem d_M_init_2900 : decode b_M_init 2900 = .ok (.bastore, 1) := dc_bastore (gt_M_init_29 0)
theorem d_M_init_2901 : decode b_M_init 2901 = .ok (.dup, 1) := dc_dup (gt_M_init_29 1)
theorem d_M_init_2902 : decode b_M_init 2902 = .ok (.iconst 1, 1) := dc_iconst_1 (gt_M_init_29 2)
theorem d_M_init_2903 : decode b_M_init 2903 = .ok (.bipush 62, 2) := dc_bipush (gt_M_init_29 3) (gt_M_init_29 4) rfl
theorem d_M_init_2905 : decode b_M_init 2905 = .ok (.bastore, 1) := dc_bastore (gt_M_init_29 5)
theorem d_M_init_2906 : decode b_M_init 2906 = .ok (.dup, 1) := dc_dup (gt_M_init_29 6)
theorem d_M_init_2907 : decode b_M_init 2907 = .ok (.iconst 2, 1) := dc_iconst_2 (gt_M_init_29 7)
theorem d_M_init_2908 : decode b_M_init 2908 = .ok (.bipush 10, 2) := dc_bipush (gt_M_init_29 8) (gt_M_init_29 9) rfl
theorem d_M_init_2910 : decode b_M_init 2910 = .ok (.bastore, 1) := dc_bastore (gt_M_init_29 10)
theorem d_M_init_2911 : decode b_M_init 2911 = .ok (.dup, 1) := dc_dup (gt_M_init_29 11)
theorem d_M_init_2912 : decode b_M_init 2912 = .ok (.iconst 3, 1) := dc_iconst_3 (gt_M_init_29 12)
theorem d_M_init_2913 : decode b_M_init 2913 = .ok (.bipush 61, 2) := dc_bipush (gt_M_init_29 13) (gt_M_init_29 14) rfl
theorem d_M_init_2915 : decode b_M_init 2915 = .ok (.bastore, 1) := dc_bastore (gt_M_init_29 15)
theorem d_M_init_2916 : decode b_M_init 2916 = .ok (.dup, 1) := dc_dup (gt_M_init_29 16)
theorem d_M_init_2917 : decode b_M_init 2917 = .ok (.iconst 4, 1) := dc_iconst_4 (gt_M_init_29 17)
theorem d_M_init_2918 : decode b_M_init 2918 = .ok (.bipush 61, 2) := dc_bipush (gt_M_init_29 18) (gt_M_init_29 19) rfl
theorem d_M_init_2920 : decode b_M_init 2920 = .ok (.bastore, 1) := dc_bastore (gt_M_init_29 20)
theorem d_M_init_2921 : decode b_M_init 2921 = .ok (.dup, 1) := dc_dup (gt_M_init_29 21)
theorem d_M_init_2922 : decode b_M_init 2922 = .ok (.iconst 5, 1) := dc_iconst_5 (gt_M_init_29 22)
theorem d_M_init_2923 : decode b_M_init 2923 = .ok (.bipush 12, 2) := dc_bipush (gt_M_init_29 23) (gt_M_init_29 24) rfl
theorem d_M_init_2925 : decode b_M_init 2925 = .ok (.bastore, 1) := dc_bastore (gt_M_init_29 25)
theorem d_M_init_2926 : decode b_M_init 2926 = .ok (.dup, 1) := dc_dup (gt_M_init_29 26)
theorem d_M_init_2927 : decode b_M_init 2927 = .ok (.bipush 6, 2) := dc_bipush (gt_M_init_29 27) (gt_M_init_29 28) rfl
theorem d_M_init_2929 : decode b_M_init 2929 = .ok (.bipush 47, 2) := dc_bipush (gt_M_init_29 29) (gt_M_init_29 30) rfl
theorem d_M_init_2931 : decode b_M_init 2931 = .ok (.bastore, 1) := dc_bastore (gt_M_init_29 31)
theorem d_M_init_2932 : decode b_M_init 2932 = .ok (.dup, 1) := dc_dup (gt_M_init_29 32)
theorem d_M_init_2933 : decode b_M_init 2933 = .ok (.bipush 7, 2) := dc_bipush (gt_M_init_29 33) (gt_M_init_29 34) rfl
theorem d_M_init_2935 : decode b_M_init 2935 = .ok (.bipush 61, 2) := dc_bipush (gt_M_init_29 35) (gt_M_init_29 36) rfl
theorem d_M_init_2937 : decode b_M_init 2937 = .ok (.bastore, 1) := dc_bastore (gt_M_init_29 37)
theorem d_M_init_2938 : decode b_M_init 2938 = .ok (.dup, 1) := dc_dup (gt_M_init_29 38)
theorem d_M_init_2939 : decode b_M_init 2939 = .ok (.bipush 8, 2) := dc_bipush (gt_M_init_29 39) (gt_M_init_29 40) rfl
theorem d_M_init_2941 : decode b_M_init 2941 = .ok (.bipush 13, 2) := dc_bipush (gt_M_init_29 41) (gt_M_init_29 42) rfl
theorem d_M_init_2943 : decode b_M_init 2943 = .ok (.bastore, 1) := dc_bastore (gt_M_init_29 43)
theorem d_M_init_2944 : decode b_M_init 2944 = .ok (.dup, 1) := dc_dup (gt_M_init_29 44)
theorem d_M_init_2945 : decode b_M_init 2945 = .ok (.bipush 9, 2) := dc_bipush (gt_M_init_29 45) (gt_M_init_29 46) rfl
theorem d_M_init_2947 : decode b_M_init 2947 = .ok (.bipush 61, 2) := dc_bipush (gt_M_init_29 47) (gt_M_init_29 48) rfl
theorem d_M_init_2949 : decode b_M_init 2949 = .ok (.bastore, 1) := dc_bastore (gt_M_init_29 49)
theorem d_M_init_2950 : decode b_M_init 2950 = .ok (.dup, 1) := dc_dup (gt_M_init_29 50)
theorem d_M_init_2951 : decode b_M_init 2951 = .ok (.bipush 10, 2) := dc_bipush (gt_M_init_29 51) (gt_M_init_29 52) rfl
theorem d_M_init_2953 : decode b_M_init 2953 = .ok (.bipush 60, 2) := dc_bipush (gt_M_init_29 53) (gt_M_init_29 54) rfl
theorem d_M_init_2955 : decode b_M_init 2955 = .ok (.bastore, 1) := dc_bastore (gt_M_init_29 55)
theorem d_M_init_2956 : decode b_M_init 2956 = .ok (.dup, 1) := dc_dup (gt_M_init_29 56)
theorem d_M_init_2957 : decode b_M_init 2957 = .ok (.bipush 11, 2) := dc_bipush (gt_M_init_29 57) (gt_M_init_29 58) rfl
theorem d_M_init_2959 : decode b_M_init 2959 = .ok (.bipush 15, 2) := dc_bipush (gt_M_init_29 59) (gt_M_init_29 60) rfl
theorem d_M_init_2961 : decode b_M_init 2961 = .ok (.bastore, 1) := dc_bastore (gt_M_init_29 61)
theorem d_M_init_2962 : decode b_M_init 2962 = .ok (.dup, 1) := dc_dup (gt_M_init_29 62)
theorem d_M_init_2963 : decode b_M_init 2963 = .ok (.bipush 12, 2) := dc_bipush (gt_M_init_29 63) (gt_M_init_29 64) rfl
theorem d_M_init_2965 : decode b_M_init 2965 = .ok (.bipush 62, 2) := dc_bipush (gt_M_init_29 65) (gt_M_init_29 66) rfl
theorem d_M_init_2967 : decode b_M_init 2967 = .ok (.bastore, 1) := dc_bastore (gt_M_init_29 67)
theorem d_M_init_2968 : decode b_M_init 2968 = .ok (.dup, 1) := dc_dup (gt_M_init_29 68)
theorem d_M_init_2969 : decode b_M_init 2969 = .ok (.bipush 13, 2) := dc_bipush (gt_M_init_29 69) (gt_M_init_29 70) rfl
theorem d_M_init_2971 : decode b_M_init 2971 = .ok (.bipush 61, 2) := dc_bipush (gt_M_init_29 71) (gt_M_init_29 72) rfl
theorem d_M_init_2973 : decode b_M_init 2973 = .ok (.bastore, 1) := dc_bastore (gt_M_init_29 73)
theorem d_M_init_2974 : decode b_M_init 2974 = .ok (.dup, 1) := dc_dup (gt_M_init_29 74)
theorem d_M_init_2975 : decode b_M_init 2975 = .ok (.bipush 14, 2) := dc_bipush (gt_M_init_29 75) (gt_M_init_29 76) rfl
theorem d_M_init_2977 : decode b_M_init 2977 = .ok (.bipush 17, 2) := dc_bipush (gt_M_init_29 77) (gt_M_init_29 78) rfl
theorem d_M_init_2979 : decode b_M_init 2979 = .ok (.bastore, 1) := dc_bastore (gt_M_init_29 79)
theorem d_M_init_2980 : decode b_M_init 2980 = .ok (.dup, 1) := dc_dup (gt_M_init_29 80)
theorem d_M_init_2981 : decode b_M_init 2981 = .ok (.bipush 15, 2) := dc_bipush (gt_M_init_29 81) (gt_M_init_29 82) rfl
theorem d_M_init_2983 : decode b_M_init 2983 = .ok (.bipush 43, 2) := dc_bipush (gt_M_init_29 83) (gt_M_init_29 84) rfl
theorem d_M_init_2985 : decode b_M_init 2985 = .ok (.bastore, 1) := dc_bastore (gt_M_init_29 85)
theorem d_M_init_2986 : decode b_M_init 2986 = .ok (.dup, 1) := dc_dup (gt_M_init_29 86)
theorem d_M_init_2987 : decode b_M_init 2987 = .ok (.bipush 16, 2) := dc_bipush (gt_M_init_29 87) (gt_M_init_29 88) rfl
theorem d_M_init_2989 : decode b_M_init 2989 = .ok (.bipush 43, 2) := dc_bipush (gt_M_init_29 89) (gt_M_init_29 90) rfl
theorem d_M_init_2991 : decode b_M_init 2991 = .ok (.bastore, 1) := dc_bastore (gt_M_init_29 91)
theorem d_M_init_2992 : decode b_M_init 2992 = .ok (.dup, 1) := dc_dup (gt_M_init_29 92)
theorem d_M_init_2993 : decode b_M_init 2993 = .ok (.bipush 17, 2) := dc_bipush (gt_M_init_29 93) (gt_M_init_29 94) rfl
theorem d_M_init_2995 : decode b_M_init 2995 = .ok (.bipush 22, 2) := dc_bipush (gt_M_init_29 95) (gt_M_init_29 96) rfl
theorem d_M_init_2997 : decode b_M_init 2997 = .ok (.bastore, 1) := dc_bastore (gt_M_init_29 97)
theorem d_M_init_2998 : decode b_M_init 2998 = .ok (.dup, 1) := dc_dup (gt_M_init_29 98)
theorem d_M_init_2999 : decode b_M_init 2999 = .ok (.bipush 18, 2) := dc_bipush (gt_M_init_29 99) (gt_M_init_30 0) rfl
theorem d_M_init_3001 : decode b_M_init 3001 = .ok (.bipush 45, 2) := dc_bipush (gt_M_init_30 1) (gt_M_init_30 2) rfl
theorem d_M_init_3003 : decode b_M_init 3003 = .ok (.bastore, 1) := dc_bastore (gt_M_init_30 3)
theorem d_M_init_3004 : decode b_M_init 3004 = .ok (.dup, 1) := dc_dup (gt_M_init_30 4)
theorem d_M_init_3005 : decode b_M_init 3005 = .ok (.bipush 19, 2) := dc_bipush (gt_M_init_30 5) (gt_M_init_30 6) rfl
theorem d_M_init_3007 : decode b_M_init 3007 = .ok (.bipush 45, 2) := dc_bipush (gt_M_init_30 7) (gt_M_init_30 8) rfl
theorem d_M_init_3009 : decode b_M_init 3009 = .ok (.bastore, 1) := dc_bastore (gt_M_init_30 9)
theorem d_M_init_3010 : decode b_M_init 3010 = .ok (.dup, 1) := dc_dup (gt_M_init_30 10)
theorem d_M_init_3011 : decode b_M_init 3011 = .ok (.bipush 20, 2) := dc_bipush (gt_M_init_30 11) (gt_M_init_30 12) rfl
theorem d_M_init_3013 : decode b_M_init 3013 = .ok (.bipush 23, 2) := dc_bipush (gt_M_init_30 13) (gt_M_init_30 14) rfl
theorem d_M_init_3015 : decode b_M_init 3015 = .ok (.bastore, 1) := dc_bastore (gt_M_init_30 15)
theorem d_M_init_3016 : decode b_M_init 3016 = .ok (.putfield 50, 3) := dc_putfield (gt_M_init_30 16) (gt_M_init_30 17) (gt_M_init_30 18) rfl
theorem d_M_init_3019 : decode b_M_init 3019 = .ok (.aload_n 0, 1) := dc_aload0 (gt_M_init_30 19)
theorem d_M_init_3020 : decode b_M_init 3020 = .ok (.bipush 36, 2) := dc_bipush (gt_M_init_30 20) (gt_M_init_30 21) rfl
theorem d_M_init_3022 : decode b_M_init 3022 = .ok (.newarray .byte, 2) := dc_newarray (gt_M_init_30 22) (gt_M_init_30 23) (fun _ => rfl)
theorem d_M_init_3024 : decode b_M_init 3024 = .ok (.dup, 1) := dc_dup (gt_M_init_30 24)
theorem d_M_init_3025 : decode b_M_init 3025 = .ok (.iconst 0, 1) := dc_iconst_0 (gt_M_init_30 25)
theorem d_M_init_3026 : decode b_M_init 3026 = .ok (.bipush 40, 2) := dc_bipush (gt_M_init_30 26) (gt_M_init_30 27) rfl
theorem d_M_init_3028 : decode b_M_init 3028 = .ok (.bastore, 1) := dc_bastore (gt_M_init_30 28)
theorem d_M_init_3029 : decode b_M_init 3029 = .ok (.dup, 1) := dc_dup (gt_M_init_30 29)
theorem d_M_init_3030 : decode b_M_init 3030 = .ok (.iconst 1, 1) := dc_iconst_1 (gt_M_init_30 30)
theorem d_M_init_3031 : decode b_M_init 3031 = .ok (.iconst 0, 1) := dc_iconst_0 (gt_M_init_30 31)
theorem d_M_init_3032 : decode b_M_init 3032 = .ok (.bastore, 1) := dc_bastore (gt_M_init_30 32)
theorem d_M_init_3033 : decode b_M_init 3033 = .ok (.dup, 1) := dc_dup (gt_M_init_30 33)
theorem d_M_init_3034 : decode b_M_init 3034 = .ok (.iconst 2, 1) := dc_iconst_2 (gt_M_init_30 34)
theorem d_M_init_3035 : decode b_M_init 3035 = .ok (.bipush 41, 2) := dc_bipush (gt_M_init_30 35) (gt_M_init_30 36) rfl
theorem d_M_init_3037 : decode b_M_init 3037 = .ok (.bastore, 1) := dc_bastore (gt_M_init_30 37)
theorem d_M_init_3038 : decode b_M_init 3038 = .ok (.dup, 1) := dc_dup (gt_M_init_30 38)
theorem d_M_init_3039 : decode b_M_init 3039 = .ok (.iconst 3, 1) := dc_iconst_3 (gt_M_init_30 39)
theorem d_M_init_3040 : decode b_M_init 3040 = .ok (.iconst 1, 1) := dc_iconst_1 (gt_M_init_30 40)
theorem d_M_init_3041 : decode b_M_init 3041 = .ok (.bastore, 1) := dc_bastore (gt_M_init_30 41)
theorem d_M_init_3042 : decode b_M_init 3042 = .ok (.dup, 1) := dc_dup (gt_M_init_30 42)
theorem d_M_init_3043 : decode b_M_init 3043 = .ok (.iconst 4, 1) := dc_iconst_4 (gt_M_init_30 43)
theorem d_M_init_3044 : decode b_M_init 3044 = .ok (.bipush 123, 2) := dc_bipush (gt_M_init_30 44) (gt_M_init_30 45) rfl
theorem d_M_init_3046 : decode b_M_init 3046 = .ok (.bastore, 1) := dc_bastore (gt_M_init_30 46)
theorem d_M_init_3047 : decode b_M_init 3047 = .ok (.dup, 1) := dc_dup (gt_M_init_30 47)
theorem d_M_init_3048 : decode b_M_init 3048 = .ok (.iconst 5, 1) := dc_iconst_5 (gt_M_init_30 48)
theorem d_M_init_3049 : decode b_M_init 3049 = .ok (.iconst 2, 1) := dc_iconst_2 (gt_M_init_30 49)
theorem d_M_init_3050 : decode b_M_init 3050 = .ok (.bastore, 1) := dc_bastore (gt_M_init_30 50)
theorem d_M_init_3051 : decode b_M_init 3051 = .ok (.dup, 1) := dc_dup (gt_M_init_30 51)
theorem d_M_init_3052 : decode b_M_init 3052 = .ok (.bipush 6, 2) := dc_bipush (gt_M_init_30 52) (gt_M_init_30 53) rfl
theorem d_M_init_3054 : decode b_M_init 3054 = .ok (.bipush 125, 2) := dc_bipush (gt_M_init_30 54) (gt_M_init_30 55) rfl
theorem d_M_init_3056 : decode b_M_init 3056 = .ok (.bastore, 1) := dc_bastore (gt_M_init_30 56)
theorem d_M_init_3057 : decode b_M_init 3057 = .ok (.dup, 1) := dc_dup (gt_M_init_30 57)
theorem d_M_init_3058 : decode b_M_init 3058 = .ok (.bipush 7, 2) := dc_bipush (gt_M_init_30 58) (gt_M_init_30 59) rfl
theorem d_M_init_3060 : decode b_M_init 3060 = .ok (.iconst 3, 1) := dc_iconst_3 (gt_M_init_30 60)
theorem d_M_init_3061 : decode b_M_init 3061 = .ok (.bastore, 1) := dc_bastore (gt_M_init_30 61)
theorem d_M_init_3062 : decode b_M_init 3062 = .ok (.dup, 1) := dc_dup (gt_M_init_30 62)
theorem d_M_init_3063 : decode b_M_init 3063 = .ok (.bipush 8, 2) := dc_bipush (gt_M_init_30 63) (gt_M_init_30 64) rfl
theorem d_M_init_3065 : decode b_M_init 3065 = .ok (.bipush 91, 2) := dc_bipush (gt_M_init_30 65) (gt_M_init_30 66) rfl
theorem d_M_init_3067 : decode b_M_init 3067 = .ok (.bastore, 1) := dc_bastore (gt_M_init_30 67)
theorem d_M_init_3068 : decode b_M_init 3068 = .ok (.dup, 1) := dc_dup (gt_M_init_30 68)
theorem d_M_init_3069 : decode b_M_init 3069 = .ok (.bipush 9, 2) := dc_bipush (gt_M_init_30 69) (gt_M_init_30 70) rfl
theorem d_M_init_3071 : decode b_M_init 3071 = .ok (.iconst 4, 1) := dc_iconst_4 (gt_M_init_30 71)
theorem d_M_init_3072 : decode b_M_init 3072 = .ok (.bastore, 1) := dc_bastore (gt_M_init_30 72)
theorem d_M_init_3073 : decode b_M_init 3073 = .ok (.dup, 1) := dc_dup (gt_M_init_30 73)
theorem d_M_init_3074 : decode b_M_init 3074 = .ok (.bipush 10, 2) := dc_bipush (gt_M_init_30 74) (gt_M_init_30 75) rfl
theorem d_M_init_3076 : decode b_M_init 3076 = .ok (.bipush 93, 2) := dc_bipush (gt_M_init_30 76) (gt_M_init_30 77) rfl
theorem d_M_init_3078 : decode b_M_init 3078 = .ok (.bastore, 1) := dc_bastore (gt_M_init_30 78)
theorem d_M_init_3079 : decode b_M_init 3079 = .ok (.dup, 1) := dc_dup (gt_M_init_30 79)
theorem d_M_init_3080 : decode b_M_init 3080 = .ok (.bipush 11, 2) := dc_bipush (gt_M_init_30 80) (gt_M_init_30 81) rfl
theorem d_M_init_3082 : decode b_M_init 3082 = .ok (.iconst 5, 1) := dc_iconst_5 (gt_M_init_30 82)
theorem d_M_init_3083 : decode b_M_init 3083 = .ok (.bastore, 1) := dc_bastore (gt_M_init_30 83)
theorem d_M_init_3084 : decode b_M_init 3084 = .ok (.dup, 1) := dc_dup (gt_M_init_30 84)
theorem d_M_init_3085 : decode b_M_init 3085 = .ok (.bipush 12, 2) := dc_bipush (gt_M_init_30 85) (gt_M_init_30 86) rfl
theorem d_M_init_3087 : decode b_M_init 3087 = .ok (.bipush 44, 2) := dc_bipush (gt_M_init_30 87) (gt_M_init_30 88) rfl
theorem d_M_init_3089 : decode b_M_init 3089 = .ok (.bastore, 1) := dc_bastore (gt_M_init_30 89)
theorem d_M_init_3090 : decode b_M_init 3090 = .ok (.dup, 1) := dc_dup (gt_M_init_30 90)
theorem d_M_init_3091 : decode b_M_init 3091 = .ok (.bipush 13, 2) := dc_bipush (gt_M_init_30 91) (gt_M_init_30 92) rfl
theorem d_M_init_3093 : decode b_M_init 3093 = .ok (.bipush 6, 2) := dc_bipush (gt_M_init_30 93) (gt_M_init_30 94) rfl
theorem d_M_init_3095 : decode b_M_init 3095 = .ok (.bastore, 1) := dc_bastore (gt_M_init_30 95)
theorem d_M_init_3096 : decode b_M_init 3096 = .ok (.dup, 1) := dc_dup (gt_M_init_30 96)
theorem d_M_init_3097 : decode b_M_init 3097 = .ok (.bipush 14, 2) := dc_bipush (gt_M_init_30 97) (gt_M_init_30 98) rfl
theorem d_M_init_3099 : decode b_M_init 3099 = .ok (.bipush 59, 2) := dc_bipush (gt_M_init_30 99) (gt_M_init_31 0) rfl
theorem d_M_init_3101 : decode b_M_init 3101 = .ok (.bastore, 1) := dc_bastore (gt_M_init_31 1)
theorem d_M_init_3102 : decode b_M_init 3102 = .ok (.dup, 1) := dc_dup (gt_M_init_31 2)
theorem d_M_init_3103 : decode b_M_init 3103 = .ok (.bipush 15, 2) := dc_bipush (gt_M_init_31 3) (gt_M_init_31 4) rfl
theorem d_M_init_3105 : decode b_M_init 3105 = .ok (.bipush 7, 2) := dc_bipush (gt_M_init_31 5) (gt_M_init_31 6) rfl
theorem d_M_init_3107 : decode b_M_init 3107 = .ok (.bastore, 1) := dc_bastore (gt_M_init_31 7)
theorem d_M_init_3108 : decode b_M_init 3108 = .ok (.dup, 1) := dc_dup (gt_M_init_31 8)
theorem d_M_init_3109 : decode b_M_init 3109 = .ok (.bipush 16, 2) := dc_bipush (gt_M_init_31 9) (gt_M_init_31 10) rfl
theorem d_M_init_3111 : decode b_M_init 3111 = .ok (.bipush 46, 2) := dc_bipush (gt_M_init_31 11) (gt_M_init_31 12) rfl
theorem d_M_init_3113 : decode b_M_init 3113 = .ok (.bastore, 1) := dc_bastore (gt_M_init_31 13)
theorem d_M_init_3114 : decode b_M_init 3114 = .ok (.dup, 1) := dc_dup (gt_M_init_31 14)
theorem d_M_init_3115 : decode b_M_init 3115 = .ok (.bipush 17, 2) := dc_bipush (gt_M_init_31 15) (gt_M_init_31 16) rfl
theorem d_M_init_3117 : decode b_M_init 3117 = .ok (.bipush 8, 2) := dc_bipush (gt_M_init_31 17) (gt_M_init_31 18) rfl
theorem d_M_init_3119 : decode b_M_init 3119 = .ok (.bastore, 1) := dc_bastore (gt_M_init_31 19)
theorem d_M_init_3120 : decode b_M_init 3120 = .ok (.dup, 1) := dc_dup (gt_M_init_31 20)
theorem d_M_init_3121 : decode b_M_init 3121 = .ok (.bipush 18, 2) := dc_bipush (gt_M_init_31 21) (gt_M_init_31 22) rfl
theorem d_M_init_3123 : decode b_M_init 3123 = .ok (.bipush 124, 2) := dc_bipush (gt_M_init_31 23) (gt_M_init_31 24) rfl
theorem d_M_init_3125 : decode b_M_init 3125 = .ok (.bastore, 1) := dc_bastore (gt_M_init_31 25)
theorem d_M_init_3126 : decode b_M_init 3126 = .ok (.dup, 1) := dc_dup (gt_M_init_31 26)
theorem d_M_init_3127 : decode b_M_init 3127 = .ok (.bipush 19, 2) := dc_bipush (gt_M_init_31 27) (gt_M_init_31 28) rfl
theorem d_M_init_3129 : decode b_M_init 3129 = .ok (.bipush 9, 2) := dc_bipush (gt_M_init_31 29) (gt_M_init_31 30) rfl
theorem d_M_init_3131 : decode b_M_init 3131 = .ok (.bastore, 1) := dc_bastore (gt_M_init_31 31)
theorem d_M_init_3132 : decode b_M_init 3132 = .ok (.dup, 1) := dc_dup (gt_M_init_31 32)
theorem d_M_init_3133 : decode b_M_init 3133 = .ok (.bipush 20, 2) := dc_bipush (gt_M_init_31 33) (gt_M_init_31 34) rfl
theorem d_M_init_3135 : decode b_M_init 3135 = .ok (.bipush 61, 2) := dc_bipush (gt_M_init_31 35) (gt_M_init_31 36) rfl
theorem d_M_init_3137 : decode b_M_init 3137 = .ok (.bastore, 1) := dc_bastore (gt_M_init_31 37)
theorem d_M_init_3138 : decode b_M_init 3138 = .ok (.dup, 1) := dc_dup (gt_M_init_31 38)
theorem d_M_init_3139 : decode b_M_init 3139 = .ok (.bipush 21, 2) := dc_bipush (gt_M_init_31 39) (gt_M_init_31 40) rfl
theorem d_M_init_3141 : decode b_M_init 3141 = .ok (.bipush 11, 2) := dc_bipush (gt_M_init_31 41) (gt_M_init_31 42) rfl
theorem d_M_init_3143 : decode b_M_init 3143 = .ok (.bastore, 1) := dc_bastore (gt_M_init_31 43)
theorem d_M_init_3144 : decode b_M_init 3144 = .ok (.dup, 1) := dc_dup (gt_M_init_31 44)
theorem d_M_init_3145 : decode b_M_init 3145 = .ok (.bipush 22, 2) := dc_bipush (gt_M_init_31 45) (gt_M_init_31 46) rfl
theorem d_M_init_3147 : decode b_M_init 3147 = .ok (.bipush 60, 2) := dc_bipush (gt_M_init_31 47) (gt_M_init_31 48) rfl
theorem d_M_init_3149 : decode b_M_init 3149 = .ok (.bastore, 1) := dc_bastore (gt_M_init_31 49)
theorem d_M_init_3150 : decode b_M_init 3150 = .ok (.dup, 1) := dc_dup (gt_M_init_31 50)
theorem d_M_init_3151 : decode b_M_init 3151 = .ok (.bipush 23, 2) := dc_bipush (gt_M_init_31 51) (gt_M_init_31 52) rfl
theorem d_M_init_3153 : decode b_M_init 3153 = .ok (.bipush 14, 2) := dc_bipush (gt_M_init_31 53) (gt_M_init_31 54) rfl
theorem d_M_init_3155 : decode b_M_init 3155 = .ok (.bastore, 1) := dc_bastore (gt_M_init_31 55)
theorem d_M_init_3156 : decode b_M_init 3156 = .ok (.dup, 1) := dc_dup (gt_M_init_31 56)
theorem d_M_init_3157 : decode b_M_init 3157 = .ok (.bipush 24, 2) := dc_bipush (gt_M_init_31 57) (gt_M_init_31 58) rfl
theorem d_M_init_3159 : decode b_M_init 3159 = .ok (.bipush 62, 2) := dc_bipush (gt_M_init_31 59) (gt_M_init_31 60) rfl
theorem d_M_init_3161 : decode b_M_init 3161 = .ok (.bastore, 1) := dc_bastore (gt_M_init_31 61)
theorem d_M_init_3162 : decode b_M_init 3162 = .ok (.dup, 1) := dc_dup (gt_M_init_31 62)
theorem d_M_init_3163 : decode b_M_init 3163 = .ok (.bipush 25, 2) := dc_bipush (gt_M_init_31 63) (gt_M_init_31 64) rfl
theorem d_M_init_3165 : decode b_M_init 3165 = .ok (.bipush 16, 2) := dc_bipush (gt_M_init_31 65) (gt_M_init_31 66) rfl
theorem d_M_init_3167 : decode b_M_init 3167 = .ok (.bastore, 1) := dc_bastore (gt_M_init_31 67)
theorem d_M_init_3168 : decode b_M_init 3168 = .ok (.dup, 1) := dc_dup (gt_M_init_31 68)
theorem d_M_init_3169 : decode b_M_init 3169 = .ok (.bipush 26, 2) := dc_bipush (gt_M_init_31 69) (gt_M_init_31 70) rfl
theorem d_M_init_3171 : decode b_M_init 3171 = .ok (.bipush 43, 2) := dc_bipush (gt_M_init_31 71) (gt_M_init_31 72) rfl
theorem d_M_init_3173 : decode b_M_init 3173 = .ok (.bastore, 1) := dc_bastore (gt_M_init_31 73)
theorem d_M_init_3174 : decode b_M_init 3174 = .ok (.dup, 1) := dc_dup (gt_M_init_31 74)
theorem d_M_init_3175 : decode b_M_init 3175 = .ok (.bipush 27, 2) := dc_bipush (gt_M_init_31 75) (gt_M_init_31 76) rfl
theorem d_M_init_3177 : decode b_M_init 3177 = .ok (.bipush 18, 2) := dc_bipush (gt_M_init_31 77) (gt_M_init_31 78) rfl
theorem d_M_init_3179 : decode b_M_init 3179 = .ok (.bastore, 1) := dc_bastore (gt_M_init_31 79)
theorem d_M_init_3180 : decode b_M_init 3180 = .ok (.dup, 1) := dc_dup (gt_M_init_31 80)
theorem d_M_init_3181 : decode b_M_init 3181 = .ok (.bipush 28, 2) := dc_bipush (gt_M_init_31 81) (gt_M_init_31 82) rfl
theorem d_M_init_3183 : decode b_M_init 3183 = .ok (.bipush 45, 2) := dc_bipush (gt_M_init_31 83) (gt_M_init_31 84) rfl
theorem d_M_init_3185 : decode b_M_init 3185 = .ok (.bastore, 1) := dc_bastore (gt_M_init_31 85)
theorem d_M_init_3186 : decode b_M_init 3186 = .ok (.dup, 1) := dc_dup (gt_M_init_31 86)
theorem d_M_init_3187 : decode b_M_init 3187 = .ok (.bipush 29, 2) := dc_bipush (gt_M_init_31 87) (gt_M_init_31 88) rfl
theorem d_M_init_3189 : decode b_M_init 3189 = .ok (.bipush 19, 2) := dc_bipush (gt_M_init_31 89) (gt_M_init_31 90) rfl
theorem d_M_init_3191 : decode b_M_init 3191 = .ok (.bastore, 1) := dc_bastore (gt_M_init_31 91)
theorem d_M_init_3192 : decode b_M_init 3192 = .ok (.dup, 1) := dc_dup (gt_M_init_31 92)
theorem d_M_init_3193 : decode b_M_init 3193 = .ok (.bipush 30, 2) := dc_bipush (gt_M_init_31 93) (gt_M_init_31 94) rfl
theorem d_M_init_3195 : decode b_M_init 3195 = .ok (.bipush 42, 2) := dc_bipush (gt_M_init_31 95) (gt_M_init_31 96) rfl
theorem d_M_init_3197 : decode b_M_init 3197 = .ok (.bastore, 1) := dc_bastore (gt_M_init_31 97)
theorem d_M_init_3198 : decode b_M_init 3198 = .ok (.dup, 1) := dc_dup (gt_M_init_31 98)
theorem d_M_init_3199 : decode b_M_init 3199 = .ok (.bipush 31, 2) := dc_bipush (gt_M_init_31 99) (gt_M_init_32 0) rfl
theorem d_M_init_3201 : decode b_M_init 3201 = .ok (.bipush 20, 2) := dc_bipush (gt_M_init_32 1) (gt_M_init_32 2) rfl
theorem d_M_init_3203 : decode b_M_init 3203 = .ok (.bastore, 1) := dc_bastore (gt_M_init_32 3)
theorem d_M_init_3204 : decode b_M_init 3204 = .ok (.dup, 1) := dc_dup (gt_M_init_32 4)
theorem d_M_init_3205 : decode b_M_init 3205 = .ok (.bipush 32, 2) := dc_bipush (gt_M_init_32 5) (gt_M_init_32 6) rfl
theorem d_M_init_3207 : decode b_M_init 3207 = .ok (.bipush 33, 2) := dc_bipush (gt_M_init_32 7) (gt_M_init_32 8) rfl
theorem d_M_init_3209 : decode b_M_init 3209 = .ok (.bastore, 1) := dc_bastore (gt_M_init_32 9)
theorem d_M_init_3210 : decode b_M_init 3210 = .ok (.dup, 1) := dc_dup (gt_M_init_32 10)
theorem d_M_init_3211 : decode b_M_init 3211 = .ok (.bipush 33, 2) := dc_bipush (gt_M_init_32 11) (gt_M_init_32 12) rfl
theorem d_M_init_3213 : decode b_M_init 3213 = .ok (.bipush 21, 2) := dc_bipush (gt_M_init_32 13) (gt_M_init_32 14) rfl
theorem d_M_init_3215 : decode b_M_init 3215 = .ok (.bastore, 1) := dc_bastore (gt_M_init_32 15)
theorem d_M_init_3216 : decode b_M_init 3216 = .ok (.dup, 1) := dc_dup (gt_M_init_32 16)
theorem d_M_init_3217 : decode b_M_init 3217 = .ok (.bipush 34, 2) := dc_bipush (gt_M_init_32 17) (gt_M_init_32 18) rfl
theorem d_M_init_3219 : decode b_M_init 3219 = .ok (.bipush 47, 2) := dc_bipush (gt_M_init_32 19) (gt_M_init_32 20) rfl
theorem d_M_init_3221 : decode b_M_init 3221 = .ok (.bastore, 1) := dc_bastore (gt_M_init_32 21)
theorem d_M_init_3222 : decode b_M_init 3222 = .ok (.dup, 1) := dc_dup (gt_M_init_32 22)
theorem d_M_init_3223 : decode b_M_init 3223 = .ok (.bipush 35, 2) := dc_bipush (gt_M_init_32 23) (gt_M_init_32 24) rfl
theorem d_M_init_3225 : decode b_M_init 3225 = .ok (.bipush 24, 2) := dc_bipush (gt_M_init_32 25) (gt_M_init_32 26) rfl
theorem d_M_init_3227 : decode b_M_init 3227 = .ok (.bastore, 1) := dc_bastore (gt_M_init_32 27)
theorem d_M_init_3228 : decode b_M_init 3228 = .ok (.putfield 53, 3) := dc_putfield (gt_M_init_32 28) (gt_M_init_32 29) (gt_M_init_32 30) rfl
theorem d_M_init_3231 : decode b_M_init 3231 = .ok (.aload_n 0, 1) := dc_aload0 (gt_M_init_32 31)
theorem d_M_init_3232 : decode b_M_init 3232 = .ok (.sipush 16000, 3) := dc_sipush (gt_M_init_32 32) (gt_M_init_32 33) (gt_M_init_32 34) (by decide)
theorem d_M_init_3235 : decode b_M_init 3235 = .ok (.newarray .byte, 2) := dc_newarray (gt_M_init_32 35) (gt_M_init_32 36) (fun _ => rfl)
theorem d_M_init_3237 : decode b_M_init 3237 = .ok (.putfield 56, 3) := dc_putfield (gt_M_init_32 37) (gt_M_init_32 38) (gt_M_init_32 39) rfl
theorem d_M_init_3240 : decode b_M_init 3240 = .ok (.aload_n 0, 1) := dc_aload0 (gt_M_init_32 40)
theorem d_M_init_3241 : decode b_M_init 3241 = .ok (.sipush 16000, 3) := dc_sipush (gt_M_init_32 41) (gt_M_init_32 42) (gt_M_init_32 43) (by decide)
theorem d_M_init_3244 : decode b_M_init 3244 = .ok (.newarray .short, 2) := dc_newarray (gt_M_init_32 44) (gt_M_init_32 45) (fun _ => rfl)
theorem d_M_init_3246 : decode b_M_init 3246 = .ok (.putfield 59, 3) := dc_putfield (gt_M_init_32 46) (gt_M_init_32 47) (gt_M_init_32 48) rfl
theorem d_M_init_3249 : decode b_M_init 3249 = .ok (.aload_n 0, 1) := dc_aload0 (gt_M_init_32 49)
theorem d_M_init_3250 : decode b_M_init 3250 = .ok (.sipush 16000, 3) := dc_sipush (gt_M_init_32 50) (gt_M_init_32 51) (gt_M_init_32 52) (by decide)
theorem d_M_init_3253 : decode b_M_init 3253 = .ok (.newarray .int, 2) := dc_newarray (gt_M_init_32 53) (gt_M_init_32 54) (fun _ => rfl)
theorem d_M_init_3255 : decode b_M_init 3255 = .ok (.putfield 63, 3) := dc_putfield (gt_M_init_32 55) (gt_M_init_32 56) (gt_M_init_32 57) rfl
theorem d_M_init_3258 : decode b_M_init 3258 = .ok (.aload_n 0, 1) := dc_aload0 (gt_M_init_32 58)
theorem d_M_init_3259 : decode b_M_init 3259 = .ok (.sipush 16000, 3) := dc_sipush (gt_M_init_32 59) (gt_M_init_32 60) (gt_M_init_32 61) (by decide)
theorem d_M_init_3262 : decode b_M_init 3262 = .ok (.newarray .int, 2) := dc_newarray (gt_M_init_32 62) (gt_M_init_32 63) (fun _ => rfl)
theorem d_M_init_3264 : decode b_M_init 3264 = .ok (.putfield 66, 3) := dc_putfield (gt_M_init_32 64) (gt_M_init_32 65) (gt_M_init_32 66) rfl
theorem d_M_init_3267 : decode b_M_init 3267 = .ok (.aload_n 0, 1) := dc_aload0 (gt_M_init_32 67)
theorem d_M_init_3268 : decode b_M_init 3268 = .ok (.sipush 16000, 3) := dc_sipush (gt_M_init_32 68) (gt_M_init_32 69) (gt_M_init_32 70) (by decide)
theorem d_M_init_3271 : decode b_M_init 3271 = .ok (.newarray .int, 2) := dc_newarray (gt_M_init_32 71) (gt_M_init_32 72) (fun _ => rfl)
theorem d_M_init_3273 : decode b_M_init 3273 = .ok (.putfield 69, 3) := dc_putfield (gt_M_init_32 73) (gt_M_init_32 74) (gt_M_init_32 75) rfl
theorem d_M_init_3276 : decode b_M_init 3276 = .ok (.aload_n 0, 1) := dc_aload0 (gt_M_init_32 76)
theorem d_M_init_3277 : decode b_M_init 3277 = .ok (.sipush 16000, 3) := dc_sipush (gt_M_init_32 77) (gt_M_init_32 78) (gt_M_init_32 79) (by decide)
theorem d_M_init_3280 : decode b_M_init 3280 = .ok (.newarray .int, 2) := dc_newarray (gt_M_init_32 80) (gt_M_init_32 81) (fun _ => rfl)
theorem d_M_init_3282 : decode b_M_init 3282 = .ok (.putfield 72, 3) := dc_putfield (gt_M_init_32 82) (gt_M_init_32 83) (gt_M_init_32 84) rfl
theorem d_M_init_3285 : decode b_M_init 3285 = .ok (.aload_n 0, 1) := dc_aload0 (gt_M_init_32 85)
theorem d_M_init_3286 : decode b_M_init 3286 = .ok (.sipush 16000, 3) := dc_sipush (gt_M_init_32 86) (gt_M_init_32 87) (gt_M_init_32 88) (by decide)
theorem d_M_init_3289 : decode b_M_init 3289 = .ok (.newarray .int, 2) := dc_newarray (gt_M_init_32 89) (gt_M_init_32 90) (fun _ => rfl)
theorem d_M_init_3291 : decode b_M_init 3291 = .ok (.putfield 75, 3) := dc_putfield (gt_M_init_32 91) (gt_M_init_32 92) (gt_M_init_32 93) rfl
theorem d_M_init_3294 : decode b_M_init 3294 = .ok (.aload_n 0, 1) := dc_aload0 (gt_M_init_32 94)
theorem d_M_init_3295 : decode b_M_init 3295 = .ok (.sipush 16000, 3) := dc_sipush (gt_M_init_32 95) (gt_M_init_32 96) (gt_M_init_32 97) (by decide)
theorem d_M_init_3298 : decode b_M_init 3298 = .ok (.newarray .boolean, 2) := dc_newarray (gt_M_init_32 98) (gt_M_init_32 99) (fun _ => rfl)
theorem d_M_init_3300 : decode b_M_init 3300 = .ok (.putfield 78, 3) := dc_putfield (gt_M_init_33 0) (gt_M_init_33 1) (gt_M_init_33 2) rfl
theorem d_M_init_3303 : decode b_M_init 3303 = .ok (.aload_n 0, 1) := dc_aload0 (gt_M_init_33 3)
theorem d_M_init_3304 : decode b_M_init 3304 = .ok (.sipush 16000, 3) := dc_sipush (gt_M_init_33 4) (gt_M_init_33 5) (gt_M_init_33 6) (by decide)
theorem d_M_init_3307 : decode b_M_init 3307 = .ok (.newarray .int, 2) := dc_newarray (gt_M_init_33 7) (gt_M_init_33 8) (fun _ => rfl)
theorem d_M_init_3309 : decode b_M_init 3309 = .ok (.putfield 82, 3) := dc_putfield (gt_M_init_33 9) (gt_M_init_33 10) (gt_M_init_33 11) rfl
theorem d_M_init_3312 : decode b_M_init 3312 = .ok (.aload_n 0, 1) := dc_aload0 (gt_M_init_33 12)
theorem d_M_init_3313 : decode b_M_init 3313 = .ok (.sipush 5000, 3) := dc_sipush (gt_M_init_33 13) (gt_M_init_33 14) (gt_M_init_33 15) (by decide)
theorem d_M_init_3316 : decode b_M_init 3316 = .ok (.newarray .byte, 2) := dc_newarray (gt_M_init_33 16) (gt_M_init_33 17) (fun _ => rfl)
theorem d_M_init_3318 : decode b_M_init 3318 = .ok (.putfield 85, 3) := dc_putfield (gt_M_init_33 18) (gt_M_init_33 19) (gt_M_init_33 20) rfl
theorem d_M_init_3321 : decode b_M_init 3321 = .ok (.aload_n 0, 1) := dc_aload0 (gt_M_init_33 21)
theorem d_M_init_3322 : decode b_M_init 3322 = .ok (.sipush 5000, 3) := dc_sipush (gt_M_init_33 22) (gt_M_init_33 23) (gt_M_init_33 24) (by decide)
theorem d_M_init_3325 : decode b_M_init 3325 = .ok (.newarray .long, 2) := dc_newarray (gt_M_init_33 25) (gt_M_init_33 26) (fun _ => rfl)
theorem d_M_init_3327 : decode b_M_init 3327 = .ok (.putfield 88, 3) := dc_putfield (gt_M_init_33 27) (gt_M_init_33 28) (gt_M_init_33 29) rfl
theorem d_M_init_3330 : decode b_M_init 3330 = .ok (.aload_n 0, 1) := dc_aload0 (gt_M_init_33 30)
theorem d_M_init_3331 : decode b_M_init 3331 = .ok (.sipush 5000, 3) := dc_sipush (gt_M_init_33 31) (gt_M_init_33 32) (gt_M_init_33 33) (by decide)
theorem d_M_init_3334 : decode b_M_init 3334 = .ok (.newarray .int, 2) := dc_newarray (gt_M_init_33 34) (gt_M_init_33 35) (fun _ => rfl)
theorem d_M_init_3336 : decode b_M_init 3336 = .ok (.putfield 92, 3) := dc_putfield (gt_M_init_33 36) (gt_M_init_33 37) (gt_M_init_33 38) rfl
theorem d_M_init_3339 : decode b_M_init 3339 = .ok (.aload_n 0, 1) := dc_aload0 (gt_M_init_33 39)
theorem d_M_init_3340 : decode b_M_init 3340 = .ok (.sipush 5000, 3) := dc_sipush (gt_M_init_33 40) (gt_M_init_33 41) (gt_M_init_33 42) (by decide)
theorem d_M_init_3343 : decode b_M_init 3343 = .ok (.newarray .int, 2) := dc_newarray (gt_M_init_33 43) (gt_M_init_33 44) (fun _ => rfl)
theorem d_M_init_3345 : decode b_M_init 3345 = .ok (.putfield 95, 3) := dc_putfield (gt_M_init_33 45) (gt_M_init_33 46) (gt_M_init_33 47) rfl
theorem d_M_init_3348 : decode b_M_init 3348 = .ok (.aload_n 0, 1) := dc_aload0 (gt_M_init_33 48)
theorem d_M_init_3349 : decode b_M_init 3349 = .ok (.sipush 5000, 3) := dc_sipush (gt_M_init_33 49) (gt_M_init_33 50) (gt_M_init_33 51) (by decide)
theorem d_M_init_3352 : decode b_M_init 3352 = .ok (.newarray .int, 2) := dc_newarray (gt_M_init_33 52) (gt_M_init_33 53) (fun _ => rfl)
theorem d_M_init_3354 : decode b_M_init 3354 = .ok (.putfield 98, 3) := dc_putfield (gt_M_init_33 54) (gt_M_init_33 55) (gt_M_init_33 56) rfl
theorem d_M_init_3357 : decode b_M_init 3357 = .ok (.aload_n 0, 1) := dc_aload0 (gt_M_init_33 57)
theorem d_M_init_3358 : decode b_M_init 3358 = .ok (.sipush 5000, 3) := dc_sipush (gt_M_init_33 58) (gt_M_init_33 59) (gt_M_init_33 60) (by decide)
theorem d_M_init_3361 : decode b_M_init 3361 = .ok (.newarray .boolean, 2) := dc_newarray (gt_M_init_33 61) (gt_M_init_33 62) (fun _ => rfl)
theorem d_M_init_3363 : decode b_M_init 3363 = .ok (.putfield 101, 3) := dc_putfield (gt_M_init_33 63) (gt_M_init_33 64) (gt_M_init_33 65) rfl
theorem d_M_init_3366 : decode b_M_init 3366 = .ok (.aload_n 0, 1) := dc_aload0 (gt_M_init_33 66)
theorem d_M_init_3367 : decode b_M_init 3367 = .ok (.sipush 1400, 3) := dc_sipush (gt_M_init_33 67) (gt_M_init_33 68) (gt_M_init_33 69) (by decide)
theorem d_M_init_3370 : decode b_M_init 3370 = .ok (.newarray .int, 2) := dc_newarray (gt_M_init_33 70) (gt_M_init_33 71) (fun _ => rfl)
theorem d_M_init_3372 : decode b_M_init 3372 = .ok (.putfield 104, 3) := dc_putfield (gt_M_init_33 72) (gt_M_init_33 73) (gt_M_init_33 74) rfl
theorem d_M_init_3375 : decode b_M_init 3375 = .ok (.aload_n 0, 1) := dc_aload0 (gt_M_init_33 75)
theorem d_M_init_3376 : decode b_M_init 3376 = .ok (.sipush 1400, 3) := dc_sipush (gt_M_init_33 76) (gt_M_init_33 77) (gt_M_init_33 78) (by decide)
theorem d_M_init_3379 : decode b_M_init 3379 = .ok (.newarray .int, 2) := dc_newarray (gt_M_init_33 79) (gt_M_init_33 80) (fun _ => rfl)
theorem d_M_init_3381 : decode b_M_init 3381 = .ok (.putfield 107, 3) := dc_putfield (gt_M_init_33 81) (gt_M_init_33 82) (gt_M_init_33 83) rfl
theorem d_M_init_3384 : decode b_M_init 3384 = .ok (.aload_n 0, 1) := dc_aload0 (gt_M_init_33 84)
theorem d_M_init_3385 : decode b_M_init 3385 = .ok (.sipush 1400, 3) := dc_sipush (gt_M_init_33 85) (gt_M_init_33 86) (gt_M_init_33 87) (by decide)
theorem d_M_init_3388 : decode b_M_init 3388 = .ok (.newarray .int, 2) := dc_newarray (gt_M_init_33 88) (gt_M_init_33 89) (fun _ => rfl)
theorem d_M_init_3390 : decode b_M_init 3390 = .ok (.putfield 110, 3) := dc_putfield (gt_M_init_33 90) (gt_M_init_33 91) (gt_M_init_33 92) rfl
theorem d_M_init_3393 : decode b_M_init 3393 = .ok (.aload_n 0, 1) := dc_aload0 (gt_M_init_33 93)
theorem d_M_init_3394 : decode b_M_init 3394 = .ok (.sipush 1400, 3) := dc_sipush (gt_M_init_33 94) (gt_M_init_33 95) (gt_M_init_33 96) (by decide)
theorem d_M_init_3397 : decode b_M_init 3397 = .ok (.newarray .int, 2) := dc_newarray (gt_M_init_33 97) (gt_M_init_33 98) (fun _ => rfl)
theorem d_M_init_3399 : decode b_M_init 3399 = .ok (.putfield 113, 3) := dc_putfield (gt_M_init_33 99) (gt_M_init_34 0) (gt_M_init_34 1) rfl
theorem d_M_init_3402 : decode b_M_init 3402 = .ok (.aload_n 0, 1) := dc_aload0 (gt_M_init_34 2)
theorem d_M_init_3403 : decode b_M_init 3403 = .ok (.sipush 1400, 3) := dc_sipush (gt_M_init_34 3) (gt_M_init_34 4) (gt_M_init_34 5) (by decide)
theorem d_M_init_3406 : decode b_M_init 3406 = .ok (.newarray .int, 2) := dc_newarray (gt_M_init_34 6) (gt_M_init_34 7) (fun _ => rfl)
theorem d_M_init_3408 : decode b_M_init 3408 = .ok (.putfield 116, 3) := dc_putfield (gt_M_init_34 8) (gt_M_init_34 9) (gt_M_init_34 10) rfl
theorem d_M_init_3411 : decode b_M_init 3411 = .ok (.aload_n 0, 1) := dc_aload0 (gt_M_init_34 11)
theorem d_M_init_3412 : decode b_M_init 3412 = .ok (.sipush 1400, 3) := dc_sipush (gt_M_init_34 12) (gt_M_init_34 13) (gt_M_init_34 14) (by decide)
theorem d_M_init_3415 : decode b_M_init 3415 = .ok (.newarray .int, 2) := dc_newarray (gt_M_init_34 15) (gt_M_init_34 16) (fun _ => rfl)
theorem d_M_init_3417 : decode b_M_init 3417 = .ok (.putfield 119, 3) := dc_putfield (gt_M_init_34 17) (gt_M_init_34 18) (gt_M_init_34 19) rfl
theorem d_M_init_3420 : decode b_M_init 3420 = .ok (.aload_n 0, 1) := dc_aload0 (gt_M_init_34 20)
theorem d_M_init_3421 : decode b_M_init 3421 = .ok (.sipush 1000, 3) := dc_sipush (gt_M_init_34 21) (gt_M_init_34 22) (gt_M_init_34 23) (by decide)
theorem d_M_init_3424 : decode b_M_init 3424 = .ok (.newarray .int, 2) := dc_newarray (gt_M_init_34 24) (gt_M_init_34 25) (fun _ => rfl)
theorem d_M_init_3426 : decode b_M_init 3426 = .ok (.putfield 122, 3) := dc_putfield (gt_M_init_34 26) (gt_M_init_34 27) (gt_M_init_34 28) rfl
theorem d_M_init_3429 : decode b_M_init 3429 = .ok (.aload_n 0, 1) := dc_aload0 (gt_M_init_34 29)
theorem d_M_init_3430 : decode b_M_init 3430 = .ok (.sipush 1000, 3) := dc_sipush (gt_M_init_34 30) (gt_M_init_34 31) (gt_M_init_34 32) (by decide)
theorem d_M_init_3433 : decode b_M_init 3433 = .ok (.newarray .int, 2) := dc_newarray (gt_M_init_34 33) (gt_M_init_34 34) (fun _ => rfl)
theorem d_M_init_3435 : decode b_M_init 3435 = .ok (.putfield 125, 3) := dc_putfield (gt_M_init_34 35) (gt_M_init_34 36) (gt_M_init_34 37) rfl
theorem d_M_init_3438 : decode b_M_init 3438 = .ok (.aload_n 0, 1) := dc_aload0 (gt_M_init_34 38)
theorem d_M_init_3439 : decode b_M_init 3439 = .ok (.sipush 1000, 3) := dc_sipush (gt_M_init_34 39) (gt_M_init_34 40) (gt_M_init_34 41) (by decide)
theorem d_M_init_3442 : decode b_M_init 3442 = .ok (.newarray .int, 2) := dc_newarray (gt_M_init_34 42) (gt_M_init_34 43) (fun _ => rfl)
theorem d_M_init_3444 : decode b_M_init 3444 = .ok (.putfield 128, 3) := dc_putfield (gt_M_init_34 44) (gt_M_init_34 45) (gt_M_init_34 46) rfl
theorem d_M_init_3447 : decode b_M_init 3447 = .ok (.aload_n 0, 1) := dc_aload0 (gt_M_init_34 47)
theorem d_M_init_3448 : decode b_M_init 3448 = .ok (.sipush 1000, 3) := dc_sipush (gt_M_init_34 48) (gt_M_init_34 49) (gt_M_init_34 50) (by decide)
theorem d_M_init_3451 : decode b_M_init 3451 = .ok (.newarray .int, 2) := dc_newarray (gt_M_init_34 51) (gt_M_init_34 52) (fun _ => rfl)
theorem d_M_init_3453 : decode b_M_init 3453 = .ok (.putfield 131, 3) := dc_putfield (gt_M_init_34 53) (gt_M_init_34 54) (gt_M_init_34 55) rfl
theorem d_M_init_3456 : decode b_M_init 3456 = .ok (.aload_n 0, 1) := dc_aload0 (gt_M_init_34 56)
theorem d_M_init_3457 : decode b_M_init 3457 = .ok (.sipush 1000, 3) := dc_sipush (gt_M_init_34 57) (gt_M_init_34 58) (gt_M_init_34 59) (by decide)
theorem d_M_init_3460 : decode b_M_init 3460 = .ok (.newarray .int, 2) := dc_newarray (gt_M_init_34 60) (gt_M_init_34 61) (fun _ => rfl)
theorem d_M_init_3462 : decode b_M_init 3462 = .ok (.putfield 134, 3) := dc_putfield (gt_M_init_34 62) (gt_M_init_34 63) (gt_M_init_34 64) rfl
theorem d_M_init_3465 : decode b_M_init 3465 = .ok (.aload_n 0, 1) := dc_aload0 (gt_M_init_34 65)
theorem d_M_init_3466 : decode b_M_init 3466 = .ok (.sipush 1400, 3) := dc_sipush (gt_M_init_34 66) (gt_M_init_34 67) (gt_M_init_34 68) (by decide)
theorem d_M_init_3469 : decode b_M_init 3469 = .ok (.newarray .int, 2) := dc_newarray (gt_M_init_34 69) (gt_M_init_34 70) (fun _ => rfl)
theorem d_M_init_3471 : decode b_M_init 3471 = .ok (.putfield 137, 3) := dc_putfield (gt_M_init_34 71) (gt_M_init_34 72) (gt_M_init_34 73) rfl
theorem d_M_init_3474 : decode b_M_init 3474 = .ok (.aload_n 0, 1) := dc_aload0 (gt_M_init_34 74)
theorem d_M_init_3475 : decode b_M_init 3475 = .ok (.sipush 1400, 3) := dc_sipush (gt_M_init_34 75) (gt_M_init_34 76) (gt_M_init_34 77) (by decide)
theorem d_M_init_3478 : decode b_M_init 3478 = .ok (.newarray .int, 2) := dc_newarray (gt_M_init_34 78) (gt_M_init_34 79) (fun _ => rfl)
theorem d_M_init_3480 : decode b_M_init 3480 = .ok (.putfield 140, 3) := dc_putfield (gt_M_init_34 80) (gt_M_init_34 81) (gt_M_init_34 82) rfl
theorem d_M_init_3483 : decode b_M_init 3483 = .ok (.aload_n 0, 1) := dc_aload0 (gt_M_init_34 83)
theorem d_M_init_3484 : decode b_M_init 3484 = .ok (.sipush 1400, 3) := dc_sipush (gt_M_init_34 84) (gt_M_init_34 85) (gt_M_init_34 86) (by decide)
theorem d_M_init_3487 : decode b_M_init 3487 = .ok (.newarray .int, 2) := dc_newarray (gt_M_init_34 87) (gt_M_init_34 88) (fun _ => rfl)
theorem d_M_init_3489 : decode b_M_init 3489 = .ok (.putfield 143, 3) := dc_putfield (gt_M_init_34 89) (gt_M_init_34 90) (gt_M_init_34 91) rfl
theorem d_M_init_3492 : decode b_M_init 3492 = .ok (.aload_n 0, 1) := dc_aload0 (gt_M_init_34 92)
theorem d_M_init_3493 : decode b_M_init 3493 = .ok (.sipush 24000, 3) := dc_sipush (gt_M_init_34 93) (gt_M_init_34 94) (gt_M_init_34 95) (by decide)
theorem d_M_init_3496 : decode b_M_init 3496 = .ok (.newarray .int, 2) := dc_newarray (gt_M_init_34 96) (gt_M_init_34 97) (fun _ => rfl)
theorem d_M_init_3498 : decode b_M_init 3498 = .ok (.putfield 146, 3) := dc_putfield (gt_M_init_34 98) (gt_M_init_34 99) (gt_M_init_35 0) rfl
theorem d_M_init_3501 : decode b_M_init 3501 = .ok (.aload_n 0, 1) := dc_aload0 (gt_M_init_35 1)
theorem d_M_init_3502 : decode b_M_init 3502 = .ok (.ldc 149, 2) := dc_ldc (gt_M_init_35 2) (gt_M_init_35 3) rfl
theorem d_M_init_3504 : decode b_M_init 3504 = .ok (.newarray .int, 2) := dc_newarray (gt_M_init_35 4) (gt_M_init_35 5) (fun _ => rfl)
theorem d_M_init_3506 : decode b_M_init 3506 = .ok (.putfield 150, 3) := dc_putfield (gt_M_init_35 6) (gt_M_init_35 7) (gt_M_init_35 8) rfl
theorem d_M_init_3509 : decode b_M_init 3509 = .ok (.aload_n 0, 1) := dc_aload0 (gt_M_init_35 9)
theorem d_M_init_3510 : decode b_M_init 3510 = .ok (.bipush 27, 2) := dc_bipush (gt_M_init_35 10) (gt_M_init_35 11) rfl
theorem d_M_init_3512 : decode b_M_init 3512 = .ok (.newarray .int, 2) := dc_newarray (gt_M_init_35 12) (gt_M_init_35 13) (fun _ => rfl)
theorem d_M_init_3514 : decode b_M_init 3514 = .ok (.putfield 153, 3) := dc_putfield (gt_M_init_35 14) (gt_M_init_35 15) (gt_M_init_35 16) rfl
theorem d_M_init_3517 : decode b_M_init 3517 = .ok (.aload_n 0, 1) := dc_aload0 (gt_M_init_35 17)
theorem d_M_init_3518 : decode b_M_init 3518 = .ok (.ldc 149, 2) := dc_ldc (gt_M_init_35 18) (gt_M_init_35 19) rfl
theorem d_M_init_3520 : decode b_M_init 3520 = .ok (.newarray .int, 2) := dc_newarray (gt_M_init_35 20) (gt_M_init_35 21) (fun _ => rfl)
theorem d_M_init_3522 : decode b_M_init 3522 = .ok (.putfield 156, 3) := dc_putfield (gt_M_init_35 22) (gt_M_init_35 23) (gt_M_init_35 24) rfl
theorem d_M_init_3525 : decode b_M_init 3525 = .ok (.aload_n 0, 1) := dc_aload0 (gt_M_init_35 25)
theorem d_M_init_3526 : decode b_M_init 3526 = .ok (.ldc 149, 2) := dc_ldc (gt_M_init_35 26) (gt_M_init_35 27) rfl
theorem d_M_init_3528 : decode b_M_init 3528 = .ok (.newarray .int, 2) := dc_newarray (gt_M_init_35 28) (gt_M_init_35 29) (fun _ => rfl)
theorem d_M_init_3530 : decode b_M_init 3530 = .ok (.putfield 159, 3) := dc_putfield (gt_M_init_35 30) (gt_M_init_35 31) (gt_M_init_35 32) rfl
theorem d_M_init_3533 : decode b_M_init 3533 = .ok (.aload_n 0, 1) := dc_aload0 (gt_M_init_35 33)
theorem d_M_init_3534 : decode b_M_init 3534 = .ok (.bipush 27, 2) := dc_bipush (gt_M_init_35 34) (gt_M_init_35 35) rfl
theorem d_M_init_3536 : decode b_M_init 3536 = .ok (.newarray .int, 2) := dc_newarray (gt_M_init_35 36) (gt_M_init_35 37) (fun _ => rfl)
theorem d_M_init_3538 : decode b_M_init 3538 = .ok (.putfield 162, 3) := dc_putfield (gt_M_init_35 38) (gt_M_init_35 39) (gt_M_init_35 40) rfl
theorem d_M_init_3541 : decode b_M_init 3541 = .ok (.aload_n 0, 1) := dc_aload0 (gt_M_init_35 41)
theorem d_M_init_3542 : decode b_M_init 3542 = .ok (.bipush 27, 2) := dc_bipush (gt_M_init_35 42) (gt_M_init_35 43) rfl
theorem d_M_init_3544 : decode b_M_init 3544 = .ok (.newarray .int, 2) := dc_newarray (gt_M_init_35 44) (gt_M_init_35 45) (fun _ => rfl)
theorem d_M_init_3546 : decode b_M_init 3546 = .ok (.putfield 165, 3) := dc_putfield (gt_M_init_35 46) (gt_M_init_35 47) (gt_M_init_35 48) rfl
theorem d_M_init_3549 : decode b_M_init 3549 = .ok (.aload_n 0, 1) := dc_aload0 (gt_M_init_35 49)
theorem d_M_init_3550 : decode b_M_init 3550 = .ok (.sipush 400, 3) := dc_sipush (gt_M_init_35 50) (gt_M_init_35 51) (gt_M_init_35 52) (by decide)
theorem d_M_init_3553 : decode b_M_init 3553 = .ok (.newarray .int, 2) := dc_newarray (gt_M_init_35 53) (gt_M_init_35 54) (fun _ => rfl)
theorem d_M_init_3555 : decode b_M_init 3555 = .ok (.putfield 168, 3) := dc_putfield (gt_M_init_35 55) (gt_M_init_35 56) (gt_M_init_35 57) rfl
theorem d_M_init_3558 : decode b_M_init 3558 = .ok (.aload_n 0, 1) := dc_aload0 (gt_M_init_35 58)
theorem d_M_init_3559 : decode b_M_init 3559 = .ok (.sipush 3240, 3) := dc_sipush (gt_M_init_35 59) (gt_M_init_35 60) (gt_M_init_35 61) (by decide)
theorem d_M_init_3562 : decode b_M_init 3562 = .ok (.newarray .int, 2) := dc_newarray (gt_M_init_35 62) (gt_M_init_35 63) (fun _ => rfl)
theorem d_M_init_3564 : decode b_M_init 3564 = .ok (.putfield 171, 3) := dc_putfield (gt_M_init_35 64) (gt_M_init_35 65) (gt_M_init_35 66) rfl
theorem d_M_init_3567 : decode b_M_init 3567 = .ok (.aload_n 0, 1) := dc_aload0 (gt_M_init_35 67)
theorem d_M_init_3568 : decode b_M_init 3568 = .ok (.bipush 27, 2) := dc_bipush (gt_M_init_35 68) (gt_M_init_35 69) rfl
theorem d_M_init_3570 : decode b_M_init 3570 = .ok (.newarray .int, 2) := dc_newarray (gt_M_init_35 70) (gt_M_init_35 71) (fun _ => rfl)
theorem d_M_init_3572 : decode b_M_init 3572 = .ok (.putfield 174, 3) := dc_putfield (gt_M_init_35 72) (gt_M_init_35 73) (gt_M_init_35 74) rfl
theorem d_M_init_3575 : decode b_M_init 3575 = .ok (.aload_n 0, 1) := dc_aload0 (gt_M_init_35 75)
theorem d_M_init_3576 : decode b_M_init 3576 = .ok (.sipush 3000, 3) := dc_sipush (gt_M_init_35 76) (gt_M_init_35 77) (gt_M_init_35 78) (by decide)
theorem d_M_init_3579 : decode b_M_init 3579 = .ok (.newarray .byte, 2) := dc_newarray (gt_M_init_35 79) (gt_M_init_35 80) (fun _ => rfl)
theorem d_M_init_3581 : decode b_M_init 3581 = .ok (.putfield 177, 3) := dc_putfield (gt_M_init_35 81) (gt_M_init_35 82) (gt_M_init_35 83) rfl
theorem d_M_init_3584 : decode b_M_init 3584 = .ok (.aload_n 0, 1) := dc_aload0 (gt_M_init_35 84)
theorem d_M_init_3585 : decode b_M_init 3585 = .ok (.sipush 3000, 3) := dc_sipush (gt_M_init_35 85) (gt_M_init_35 86) (gt_M_init_35 87) (by decide)
theorem d_M_init_3588 : decode b_M_init 3588 = .ok (.newarray .short, 2) := dc_newarray (gt_M_init_35 88) (gt_M_init_35 89) (fun _ => rfl)
theorem d_M_init_3590 : decode b_M_init 3590 = .ok (.putfield 180, 3) := dc_putfield (gt_M_init_35 90) (gt_M_init_35 91) (gt_M_init_35 92) rfl
theorem d_M_init_3593 : decode b_M_init 3593 = .ok (.aload_n 0, 1) := dc_aload0 (gt_M_init_35 93)
theorem d_M_init_3594 : decode b_M_init 3594 = .ok (.sipush 3000, 3) := dc_sipush (gt_M_init_35 94) (gt_M_init_35 95) (gt_M_init_35 96) (by decide)
theorem d_M_init_3597 : decode b_M_init 3597 = .ok (.newarray .int, 2) := dc_newarray (gt_M_init_35 97) (gt_M_init_35 98) (fun _ => rfl)
theorem d_M_init_3599 : decode b_M_init 3599 = .ok (.putfield 183, 3) := dc_putfield (gt_M_init_35 99) (gt_M_init_36 0) (gt_M_init_36 1) rfl
theorem d_M_init_3602 : decode b_M_init 3602 = .ok (.aload_n 0, 1) := dc_aload0 (gt_M_init_36 2)
theorem d_M_init_3603 : decode b_M_init 3603 = .ok (.sipush 3000, 3) := dc_sipush (gt_M_init_36 3) (gt_M_init_36 4) (gt_M_init_36 5) (by decide)
theorem d_M_init_3606 : decode b_M_init 3606 = .ok (.newarray .int, 2) := dc_newarray (gt_M_init_36 6) (gt_M_init_36 7) (fun _ => rfl)
theorem d_M_init_3608 : decode b_M_init 3608 = .ok (.putfield 186, 3) := dc_putfield (gt_M_init_36 8) (gt_M_init_36 9) (gt_M_init_36 10) rfl
theorem d_M_init_3611 : decode b_M_init 3611 = .ok (.aload_n 0, 1) := dc_aload0 (gt_M_init_36 11)
theorem d_M_init_3612 : decode b_M_init 3612 = .ok (.sipush 12500, 3) := dc_sipush (gt_M_init_36 12) (gt_M_init_36 13) (gt_M_init_36 14) (by decide)
theorem d_M_init_3615 : decode b_M_init 3615 = .ok (.newarray .long, 2) := dc_newarray (gt_M_init_36 15) (gt_M_init_36 16) (fun _ => rfl)
theorem d_M_init_3617 : decode b_M_init 3617 = .ok (.putfield 189, 3) := dc_putfield (gt_M_init_36 17) (gt_M_init_36 18) (gt_M_init_36 19) rfl
theorem d_M_init_3620 : decode b_M_init 3620 = .ok (.aload_n 0, 1) := dc_aload0 (gt_M_init_36 20)
theorem d_M_init_3621 : decode b_M_init 3621 = .ok (.bipush 25, 2) := dc_bipush (gt_M_init_36 21) (gt_M_init_36 22) rfl
theorem d_M_init_3623 : decode b_M_init 3623 = .ok (.newarray .int, 2) := dc_newarray (gt_M_init_36 23) (gt_M_init_36 24) (fun _ => rfl)
theorem d_M_init_3625 : decode b_M_init 3625 = .ok (.putfield 192, 3) := dc_putfield (gt_M_init_36 25) (gt_M_init_36 26) (gt_M_init_36 27) rfl
theorem d_M_init_3628 : decode b_M_init 3628 = .ok (.aload_n 0, 1) := dc_aload0 (gt_M_init_36 28)
theorem d_M_init_3629 : decode b_M_init 3629 = .ok (.bipush 24, 2) := dc_bipush (gt_M_init_36 29) (gt_M_init_36 30) rfl
theorem d_M_init_3631 : decode b_M_init 3631 = .ok (.newarray .int, 2) := dc_newarray (gt_M_init_36 31) (gt_M_init_36 32) (fun _ => rfl)
theorem d_M_init_3633 : decode b_M_init 3633 = .ok (.putfield 195, 3) := dc_putfield (gt_M_init_36 33) (gt_M_init_36 34) (gt_M_init_36 35) rfl
theorem d_M_init_3636 : decode b_M_init 3636 = .ok (.aload_n 0, 1) := dc_aload0 (gt_M_init_36 36)
theorem d_M_init_3637 : decode b_M_init 3637 = .ok (.ldc 198, 2) := dc_ldc (gt_M_init_36 37) (gt_M_init_36 38) rfl
theorem d_M_init_3639 : decode b_M_init 3639 = .ok (.newarray .long, 2) := dc_newarray (gt_M_init_36 39) (gt_M_init_36 40) (fun _ => rfl)
theorem d_M_init_3641 : decode b_M_init 3641 = .ok (.putfield 199, 3) := dc_putfield (gt_M_init_36 41) (gt_M_init_36 42) (gt_M_init_36 43) rfl
theorem d_M_init_3644 : decode b_M_init 3644 = .ok (.aload_n 0, 1) := dc_aload0 (gt_M_init_36 44)
theorem d_M_init_3645 : decode b_M_init 3645 = .ok (.bipush 24, 2) := dc_bipush (gt_M_init_36 45) (gt_M_init_36 46) rfl
theorem d_M_init_3647 : decode b_M_init 3647 = .ok (.newarray .int, 2) := dc_newarray (gt_M_init_36 47) (gt_M_init_36 48) (fun _ => rfl)
theorem d_M_init_3649 : decode b_M_init 3649 = .ok (.putfield 202, 3) := dc_putfield (gt_M_init_36 49) (gt_M_init_36 50) (gt_M_init_36 51) rfl
theorem d_M_init_3652 : decode b_M_init 3652 = .ok (.aload_n 0, 1) := dc_aload0 (gt_M_init_36 52)
theorem d_M_init_3653 : decode b_M_init 3653 = .ok (.ldc 205, 2) := dc_ldc (gt_M_init_36 53) (gt_M_init_36 54) rfl
theorem d_M_init_3655 : decode b_M_init 3655 = .ok (.newarray .long, 2) := dc_newarray (gt_M_init_36 55) (gt_M_init_36 56) (fun _ => rfl)
theorem d_M_init_3657 : decode b_M_init 3657 = .ok (.putfield 206, 3) := dc_putfield (gt_M_init_36 57) (gt_M_init_36 58) (gt_M_init_36 59) rfl
theorem d_M_init_3660 : decode b_M_init 3660 = .ok (.aload_n 0, 1) := dc_aload0 (gt_M_init_36 60)
theorem d_M_init_3661 : decode b_M_init 3661 = .ok (.bipush 24, 2) := dc_bipush (gt_M_init_36 61) (gt_M_init_36 62) rfl
theorem d_M_init_3663 : decode b_M_init 3663 = .ok (.newarray .int, 2) := dc_newarray (gt_M_init_36 63) (gt_M_init_36 64) (fun _ => rfl)
theorem d_M_init_3665 : decode b_M_init 3665 = .ok (.putfield 209, 3) := dc_putfield (gt_M_init_36 65) (gt_M_init_36 66) (gt_M_init_36 67) rfl
theorem d_M_init_3668 : decode b_M_init 3668 = .ok (.aload_n 0, 1) := dc_aload0 (gt_M_init_36 68)
theorem d_M_init_3669 : decode b_M_init 3669 = .ok (.bipush 24, 2) := dc_bipush (gt_M_init_36 69) (gt_M_init_36 70) rfl
theorem d_M_init_3671 : decode b_M_init 3671 = .ok (.newarray .int, 2) := dc_newarray (gt_M_init_36 71) (gt_M_init_36 72) (fun _ => rfl)
theorem d_M_init_3673 : decode b_M_init 3673 = .ok (.putfield 212, 3) := dc_putfield (gt_M_init_36 73) (gt_M_init_36 74) (gt_M_init_36 75) rfl
theorem d_M_init_3676 : decode b_M_init 3676 = .ok (.aload_n 0, 1) := dc_aload0 (gt_M_init_36 76)
theorem d_M_init_3677 : decode b_M_init 3677 = .ok (.sipush 1440, 3) := dc_sipush (gt_M_init_36 77) (gt_M_init_36 78) (gt_M_init_36 79) (by decide)
theorem d_M_init_3680 : decode b_M_init 3680 = .ok (.newarray .int, 2) := dc_newarray (gt_M_init_36 80) (gt_M_init_36 81) (fun _ => rfl)
theorem d_M_init_3682 : decode b_M_init 3682 = .ok (.putfield 215, 3) := dc_putfield (gt_M_init_36 82) (gt_M_init_36 83) (gt_M_init_36 84) rfl
theorem d_M_init_3685 : decode b_M_init 3685 = .ok (.aload_n 0, 1) := dc_aload0 (gt_M_init_36 85)
theorem d_M_init_3686 : decode b_M_init 3686 = .ok (.sipush 1440, 3) := dc_sipush (gt_M_init_36 86) (gt_M_init_36 87) (gt_M_init_36 88) (by decide)
theorem d_M_init_3689 : decode b_M_init 3689 = .ok (.newarray .int, 2) := dc_newarray (gt_M_init_36 89) (gt_M_init_36 90) (fun _ => rfl)
theorem d_M_init_3691 : decode b_M_init 3691 = .ok (.putfield 218, 3) := dc_putfield (gt_M_init_36 91) (gt_M_init_36 92) (gt_M_init_36 93) rfl
theorem d_M_init_3694 : decode b_M_init 3694 = .ok (.aload_n 0, 1) := dc_aload0 (gt_M_init_36 94)
theorem d_M_init_3695 : decode b_M_init 3695 = .ok (.sipush 1440, 3) := dc_sipush (gt_M_init_36 95) (gt_M_init_36 96) (gt_M_init_36 97) (by decide)
theorem d_M_init_3698 : decode b_M_init 3698 = .ok (.newarray .int, 2) := dc_newarray (gt_M_init_36 98) (gt_M_init_36 99) (fun _ => rfl)
theorem d_M_init_3700 : decode b_M_init 3700 = .ok (.putfield 221, 3) := dc_putfield (gt_M_init_37 0) (gt_M_init_37 1) (gt_M_init_37 2) rfl
theorem d_M_init_3703 : decode b_M_init 3703 = .ok (.aload_n 0, 1) := dc_aload0 (gt_M_init_37 3)
theorem d_M_init_3704 : decode b_M_init 3704 = .ok (.sipush 1440, 3) := dc_sipush (gt_M_init_37 4) (gt_M_init_37 5) (gt_M_init_37 6) (by decide)
theorem d_M_init_3707 : decode b_M_init 3707 = .ok (.newarray .int, 2) := dc_newarray (gt_M_init_37 7) (gt_M_init_37 8) (fun _ => rfl)
theorem d_M_init_3709 : decode b_M_init 3709 = .ok (.putfield 224, 3) := dc_putfield (gt_M_init_37 9) (gt_M_init_37 10) (gt_M_init_37 11) rfl
theorem d_M_init_3712 : decode b_M_init 3712 = .ok (.aload_n 0, 1) := dc_aload0 (gt_M_init_37 12)
theorem d_M_init_3713 : decode b_M_init 3713 = .ok (.sipush 1440, 3) := dc_sipush (gt_M_init_37 13) (gt_M_init_37 14) (gt_M_init_37 15) (by decide)
theorem d_M_init_3716 : decode b_M_init 3716 = .ok (.newarray .int, 2) := dc_newarray (gt_M_init_37 16) (gt_M_init_37 17) (fun _ => rfl)
theorem d_M_init_3718 : decode b_M_init 3718 = .ok (.putfield 227, 3) := dc_putfield (gt_M_init_37 18) (gt_M_init_37 19) (gt_M_init_37 20) rfl
theorem d_M_init_3721 : decode b_M_init 3721 = .ok (.aload_n 0, 1) := dc_aload0 (gt_M_init_37 21)
theorem d_M_init_3722 : decode b_M_init 3722 = .ok (.sipush 1440, 3) := dc_sipush (gt_M_init_37 22) (gt_M_init_37 23) (gt_M_init_37 24) (by decide)
theorem d_M_init_3725 : decode b_M_init 3725 = .ok (.newarray .int, 2) := dc_newarray (gt_M_init_37 25) (gt_M_init_37 26) (fun _ => rfl)
theorem d_M_init_3727 : decode b_M_init 3727 = .ok (.putfield 230, 3) := dc_putfield (gt_M_init_37 27) (gt_M_init_37 28) (gt_M_init_37 29) rfl
theorem d_M_init_3730 : decode b_M_init 3730 = .ok (.aload_n 0, 1) := dc_aload0 (gt_M_init_37 30)
theorem d_M_init_3731 : decode b_M_init 3731 = .ok (.ldc 233, 2) := dc_ldc (gt_M_init_37 31) (gt_M_init_37 32) rfl
theorem d_M_init_3733 : decode b_M_init 3733 = .ok (.newarray .int, 2) := dc_newarray (gt_M_init_37 33) (gt_M_init_37 34) (fun _ => rfl)
theorem d_M_init_3735 : decode b_M_init 3735 = .ok (.putfield 234, 3) := dc_putfield (gt_M_init_37 35) (gt_M_init_37 36) (gt_M_init_37 37) rfl
theorem d_M_init_3738 : decode b_M_init 3738 = .ok (.aload_n 0, 1) := dc_aload0 (gt_M_init_37 38)
theorem d_M_init_3739 : decode b_M_init 3739 = .ok (.ldc 233, 2) := dc_ldc (gt_M_init_37 39) (gt_M_init_37 40) rfl
theorem d_M_init_3741 : decode b_M_init 3741 = .ok (.newarray .int, 2) := dc_newarray (gt_M_init_37 41) (gt_M_init_37 42) (fun _ => rfl)
theorem d_M_init_3743 : decode b_M_init 3743 = .ok (.putfield 237, 3) := dc_putfield (gt_M_init_37 43) (gt_M_init_37 44) (gt_M_init_37 45) rfl
theorem d_M_init_3746 : decode b_M_init 3746 = .ok (.aload_n 0, 1) := dc_aload0 (gt_M_init_37 46)
theorem d_M_init_3747 : decode b_M_init 3747 = .ok (.ldc 233, 2) := dc_ldc (gt_M_init_37 47) (gt_M_init_37 48) rfl
theorem d_M_init_3749 : decode b_M_init 3749 = .ok (.newarray .int, 2) := dc_newarray (gt_M_init_37 49) (gt_M_init_37 50) (fun _ => rfl)
theorem d_M_init_3751 : decode b_M_init 3751 = .ok (.putfield 240, 3) := dc_putfield (gt_M_init_37 51) (gt_M_init_37 52) (gt_M_init_37 53) rfl
theorem d_M_init_3754 : decode b_M_init 3754 = .ok (.aload_n 0, 1) := dc_aload0 (gt_M_init_37 54)
theorem d_M_init_3755 : decode b_M_init 3755 = .ok (.ldc 233, 2) := dc_ldc (gt_M_init_37 55) (gt_M_init_37 56) rfl
theorem d_M_init_3757 : decode b_M_init 3757 = .ok (.newarray .int, 2) := dc_newarray (gt_M_init_37 57) (gt_M_init_37 58) (fun _ => rfl)
theorem d_M_init_3759 : decode b_M_init 3759 = .ok (.putfield 243, 3) := dc_putfield (gt_M_init_37 59) (gt_M_init_37 60) (gt_M_init_37 61) rfl
theorem d_M_init_3762 : decode b_M_init 3762 = .ok (.aload_n 0, 1) := dc_aload0 (gt_M_init_37 62)
theorem d_M_init_3763 : decode b_M_init 3763 = .ok (.bipush 24, 2) := dc_bipush (gt_M_init_37 63) (gt_M_init_37 64) rfl
theorem d_M_init_3765 : decode b_M_init 3765 = .ok (.newarray .int, 2) := dc_newarray (gt_M_init_37 65) (gt_M_init_37 66) (fun _ => rfl)
theorem d_M_init_3767 : decode b_M_init 3767 = .ok (.putfield 246, 3) := dc_putfield (gt_M_init_37 67) (gt_M_init_37 68) (gt_M_init_37 69) rfl
theorem d_M_init_3770 : decode b_M_init 3770 = .ok (.aload_n 0, 1) := dc_aload0 (gt_M_init_37 70)
theorem d_M_init_3771 : decode b_M_init 3771 = .ok (.sipush 720, 3) := dc_sipush (gt_M_init_37 71) (gt_M_init_37 72) (gt_M_init_37 73) (by decide)
theorem d_M_init_3774 : decode b_M_init 3774 = .ok (.newarray .long, 2) := dc_newarray (gt_M_init_37 74) (gt_M_init_37 75) (fun _ => rfl)
theorem d_M_init_3776 : decode b_M_init 3776 = .ok (.putfield 249, 3) := dc_putfield (gt_M_init_37 76) (gt_M_init_37 77) (gt_M_init_37 78) rfl
theorem d_M_init_3779 : decode b_M_init 3779 = .ok (.aload_n 0, 1) := dc_aload0 (gt_M_init_37 79)
theorem d_M_init_3780 : decode b_M_init 3780 = .ok (.bipush 24, 2) := dc_bipush (gt_M_init_37 80) (gt_M_init_37 81) rfl
theorem d_M_init_3782 : decode b_M_init 3782 = .ok (.newarray .int, 2) := dc_newarray (gt_M_init_37 82) (gt_M_init_37 83) (fun _ => rfl)
theorem d_M_init_3784 : decode b_M_init 3784 = .ok (.putfield 252, 3) := dc_putfield (gt_M_init_37 84) (gt_M_init_37 85) (gt_M_init_37 86) rfl
theorem d_M_init_3787 : decode b_M_init 3787 = .ok (.aload_n 0, 1) := dc_aload0 (gt_M_init_37 87)
theorem d_M_init_3788 : decode b_M_init 3788 = .ok (.bipush 24, 2) := dc_bipush (gt_M_init_37 88) (gt_M_init_37 89) rfl
theorem d_M_init_3790 : decode b_M_init 3790 = .ok (.newarray .int, 2) := dc_newarray (gt_M_init_37 90) (gt_M_init_37 91) (fun _ => rfl)
theorem d_M_init_3792 : decode b_M_init 3792 = .ok (.putfield 255, 3) := dc_putfield (gt_M_init_37 92) (gt_M_init_37 93) (gt_M_init_37 94) rfl
theorem d_M_init_3795 : decode b_M_init 3795 = .ok (.aload_n 0, 1) := dc_aload0 (gt_M_init_37 95)
theorem d_M_init_3796 : decode b_M_init 3796 = .ok (.bipush 24, 2) := dc_bipush (gt_M_init_37 96) (gt_M_init_37 97) rfl
theorem d_M_init_3798 : decode b_M_init 3798 = .ok (.newarray .int, 2) := dc_newarray (gt_M_init_37 98) (gt_M_init_37 99) (fun _ => rfl)
theorem d_M_init_3800 : decode b_M_init 3800 = .ok (.putfield 258, 3) := dc_putfield (gt_M_init_38 0) (gt_M_init_38 1) (gt_M_init_38 2) rfl
theorem d_M_init_3803 : decode b_M_init 3803 = .ok (.aload_n 0, 1) := dc_aload0 (gt_M_init_38 3)
theorem d_M_init_3804 : decode b_M_init 3804 = .ok (.bipush 24, 2) := dc_bipush (gt_M_init_38 4) (gt_M_init_38 5) rfl
theorem d_M_init_3806 : decode b_M_init 3806 = .ok (.newarray .long, 2) := dc_newarray (gt_M_init_38 6) (gt_M_init_38 7) (fun _ => rfl)
theorem d_M_init_3808 : decode b_M_init 3808 = .ok (.putfield 261, 3) := dc_putfield (gt_M_init_38 8) (gt_M_init_38 9) (gt_M_init_38 10) rfl
theorem d_M_init_3811 : decode b_M_init 3811 = .ok (.aload_n 0, 1) := dc_aload0 (gt_M_init_38 11)
theorem d_M_init_3812 : decode b_M_init 3812 = .ok (.bipush 24, 2) := dc_bipush (gt_M_init_38 12) (gt_M_init_38 13) rfl
theorem d_M_init_3814 : decode b_M_init 3814 = .ok (.newarray .boolean, 2) := dc_newarray (gt_M_init_38 14) (gt_M_init_38 15) (fun _ => rfl)
theorem d_M_init_3816 : decode b_M_init 3816 = .ok (.putfield 264, 3) := dc_putfield (gt_M_init_38 16) (gt_M_init_38 17) (gt_M_init_38 18) rfl
theorem d_M_init_3819 : decode b_M_init 3819 = .ok (.aload_n 0, 1) := dc_aload0 (gt_M_init_38 19)
theorem d_M_init_3820 : decode b_M_init 3820 = .ok (.bipush 24, 2) := dc_bipush (gt_M_init_38 20) (gt_M_init_38 21) rfl
theorem d_M_init_3822 : decode b_M_init 3822 = .ok (.newarray .int, 2) := dc_newarray (gt_M_init_38 22) (gt_M_init_38 23) (fun _ => rfl)
theorem d_M_init_3824 : decode b_M_init 3824 = .ok (.putfield 267, 3) := dc_putfield (gt_M_init_38 24) (gt_M_init_38 25) (gt_M_init_38 26) rfl
theorem d_M_init_3827 : decode b_M_init 3827 = .ok (.aload_n 0, 1) := dc_aload0 (gt_M_init_38 27)
theorem d_M_init_3828 : decode b_M_init 3828 = .ok (.bipush 24, 2) := dc_bipush (gt_M_init_38 28) (gt_M_init_38 29) rfl
theorem d_M_init_3830 : decode b_M_init 3830 = .ok (.newarray .int, 2) := dc_newarray (gt_M_init_38 30) (gt_M_init_38 31) (fun _ => rfl)
theorem d_M_init_3832 : decode b_M_init 3832 = .ok (.putfield 270, 3) := dc_putfield (gt_M_init_38 32) (gt_M_init_38 33) (gt_M_init_38 34) rfl
theorem d_M_init_3835 : decode b_M_init 3835 = .ok (.aload_n 0, 1) := dc_aload0 (gt_M_init_38 35)
theorem d_M_init_3836 : decode b_M_init 3836 = .ok (.bipush 24, 2) := dc_bipush (gt_M_init_38 36) (gt_M_init_38 37) rfl
theorem d_M_init_3838 : decode b_M_init 3838 = .ok (.newarray .int, 2) := dc_newarray (gt_M_init_38 38) (gt_M_init_38 39) (fun _ => rfl)
theorem d_M_init_3840 : decode b_M_init 3840 = .ok (.putfield 273, 3) := dc_putfield (gt_M_init_38 40) (gt_M_init_38 41) (gt_M_init_38 42) rfl
theorem d_M_init_3843 : decode b_M_init 3843 = .ok (.aload_n 0, 1) := dc_aload0 (gt_M_init_38 43)
theorem d_M_init_3844 : decode b_M_init 3844 = .ok (.sipush 576, 3) := dc_sipush (gt_M_init_38 44) (gt_M_init_38 45) (gt_M_init_38 46) (by decide)
theorem d_M_init_3847 : decode b_M_init 3847 = .ok (.newarray .int, 2) := dc_newarray (gt_M_init_38 47) (gt_M_init_38 48) (fun _ => rfl)
theorem d_M_init_3849 : decode b_M_init 3849 = .ok (.putfield 276, 3) := dc_putfield (gt_M_init_38 49) (gt_M_init_38 50) (gt_M_init_38 51) rfl
theorem d_M_init_3852 : decode b_M_init 3852 = .ok (.aload_n 0, 1) := dc_aload0 (gt_M_init_38 52)
theorem d_M_init_3853 : decode b_M_init 3853 = .ok (.bipush 24, 2) := dc_bipush (gt_M_init_38 53) (gt_M_init_38 54) rfl
theorem d_M_init_3855 : decode b_M_init 3855 = .ok (.newarray .int, 2) := dc_newarray (gt_M_init_38 55) (gt_M_init_38 56) (fun _ => rfl)
theorem d_M_init_3857 : decode b_M_init 3857 = .ok (.putfield 279, 3) := dc_putfield (gt_M_init_38 57) (gt_M_init_38 58) (gt_M_init_38 59) rfl
theorem d_M_init_3860 : decode b_M_init 3860 = .ok (.aload_n 0, 1) := dc_aload0 (gt_M_init_38 60)
theorem d_M_init_3861 : decode b_M_init 3861 = .ok (.sipush 4000, 3) := dc_sipush (gt_M_init_38 61) (gt_M_init_38 62) (gt_M_init_38 63) (by decide)
theorem d_M_init_3864 : decode b_M_init 3864 = .ok (.newarray .int, 2) := dc_newarray (gt_M_init_38 64) (gt_M_init_38 65) (fun _ => rfl)
theorem d_M_init_3866 : decode b_M_init 3866 = .ok (.putfield 282, 3) := dc_putfield (gt_M_init_38 66) (gt_M_init_38 67) (gt_M_init_38 68) rfl
theorem d_M_init_3869 : decode b_M_init 3869 = .ok (.aload_n 0, 1) := dc_aload0 (gt_M_init_38 69)
theorem d_M_init_3870 : decode b_M_init 3870 = .ok (.sipush 4000, 3) := dc_sipush (gt_M_init_38 70) (gt_M_init_38 71) (gt_M_init_38 72) (by decide)
theorem d_M_init_3873 : decode b_M_init 3873 = .ok (.newarray .int, 2) := dc_newarray (gt_M_init_38 73) (gt_M_init_38 74) (fun _ => rfl)
theorem d_M_init_3875 : decode b_M_init 3875 = .ok (.putfield 285, 3) := dc_putfield (gt_M_init_38 75) (gt_M_init_38 76) (gt_M_init_38 77) rfl
theorem d_M_init_3878 : decode b_M_init 3878 = .ok (.aload_n 0, 1) := dc_aload0 (gt_M_init_38 78)
theorem d_M_init_3879 : decode b_M_init 3879 = .ok (.sipush 4000, 3) := dc_sipush (gt_M_init_38 79) (gt_M_init_38 80) (gt_M_init_38 81) (by decide)
theorem d_M_init_3882 : decode b_M_init 3882 = .ok (.newarray .int, 2) := dc_newarray (gt_M_init_38 82) (gt_M_init_38 83) (fun _ => rfl)
theorem d_M_init_3884 : decode b_M_init 3884 = .ok (.putfield 288, 3) := dc_putfield (gt_M_init_38 84) (gt_M_init_38 85) (gt_M_init_38 86) rfl
theorem d_M_init_3887 : decode b_M_init 3887 = .ok (.aload_n 0, 1) := dc_aload0 (gt_M_init_38 87)
theorem d_M_init_3888 : decode b_M_init 3888 = .ok (.sipush 20000, 3) := dc_sipush (gt_M_init_38 88) (gt_M_init_38 89) (gt_M_init_38 90) (by decide)
theorem d_M_init_3891 : decode b_M_init 3891 = .ok (.newarray .byte, 2) := dc_newarray (gt_M_init_38 91) (gt_M_init_38 92) (fun _ => rfl)
theorem d_M_init_3893 : decode b_M_init 3893 = .ok (.putfield 291, 3) := dc_putfield (gt_M_init_38 93) (gt_M_init_38 94) (gt_M_init_38 95) rfl
theorem d_M_init_3896 : decode b_M_init 3896 = .ok (.aload_n 0, 1) := dc_aload0 (gt_M_init_38 96)
theorem d_M_init_3897 : decode b_M_init 3897 = .ok (.sipush 200, 3) := dc_sipush (gt_M_init_38 97) (gt_M_init_38 98) (gt_M_init_38 99) (by decide)
theorem d_M_init_3900 : decode b_M_init 3900 = .ok (.newarray .int, 2) := dc_newarray (gt_M_init_39 0) (gt_M_init_39 1) (fun _ => rfl)
theorem d_M_init_3902 : decode b_M_init 3902 = .ok (.putfield 294, 3) := dc_putfield (gt_M_init_39 2) (gt_M_init_39 3) (gt_M_init_39 4) rfl
theorem d_M_init_3905 : decode b_M_init 3905 = .ok (.aload_n 0, 1) := dc_aload0 (gt_M_init_39 5)
theorem d_M_init_3906 : decode b_M_init 3906 = .ok (.bipush 100, 2) := dc_bipush (gt_M_init_39 6) (gt_M_init_39 7) rfl
theorem d_M_init_3908 : decode b_M_init 3908 = .ok (.newarray .byte, 2) := dc_newarray (gt_M_init_39 8) (gt_M_init_39 9) (fun _ => rfl)
theorem d_M_init_3910 : decode b_M_init 3910 = .ok (.putfield 297, 3) := dc_putfield (gt_M_init_39 10) (gt_M_init_39 11) (gt_M_init_39 12) rfl
theorem d_M_init_3913 : decode b_M_init 3913 = .ok (.aload_n 0, 1) := dc_aload0 (gt_M_init_39 13)
theorem d_M_init_3914 : decode b_M_init 3914 = .ok (.sipush 2400, 3) := dc_sipush (gt_M_init_39 14) (gt_M_init_39 15) (gt_M_init_39 16) (by decide)
theorem d_M_init_3917 : decode b_M_init 3917 = .ok (.newarray .byte, 2) := dc_newarray (gt_M_init_39 17) (gt_M_init_39 18) (fun _ => rfl)
theorem d_M_init_3919 : decode b_M_init 3919 = .ok (.putfield 300, 3) := dc_putfield (gt_M_init_39 19) (gt_M_init_39 20) (gt_M_init_39 21) rfl
theorem d_M_init_3922 : decode b_M_init 3922 = .ok (.aload_n 0, 1) := dc_aload0 (gt_M_init_39 22)
theorem d_M_init_3923 : decode b_M_init 3923 = .ok (.bipush 24, 2) := dc_bipush (gt_M_init_39 23) (gt_M_init_39 24) rfl
theorem d_M_init_3925 : decode b_M_init 3925 = .ok (.newarray .int, 2) := dc_newarray (gt_M_init_39 25) (gt_M_init_39 26) (fun _ => rfl)
theorem d_M_init_3927 : decode b_M_init 3927 = .ok (.putfield 303, 3) := dc_putfield (gt_M_init_39 27) (gt_M_init_39 28) (gt_M_init_39 29) rfl
theorem d_M_init_3930 : decode b_M_init 3930 = .ok (.aload_n 0, 1) := dc_aload0 (gt_M_init_39 30)
theorem d_M_init_3931 : decode b_M_init 3931 = .ok (.sipush 500, 3) := dc_sipush (gt_M_init_39 31) (gt_M_init_39 32) (gt_M_init_39 33) (by decide)
theorem d_M_init_3934 : decode b_M_init 3934 = .ok (.newarray .long, 2) := dc_newarray (gt_M_init_39 34) (gt_M_init_39 35) (fun _ => rfl)
theorem d_M_init_3936 : decode b_M_init 3936 = .ok (.putfield 306, 3) := dc_putfield (gt_M_init_39 36) (gt_M_init_39 37) (gt_M_init_39 38) rfl
theorem d_M_init_3939 : decode b_M_init 3939 = .ok (.aload_n 0, 1) := dc_aload0 (gt_M_init_39 39)
theorem d_M_init_3940 : decode b_M_init 3940 = .ok (.sipush 500, 3) := dc_sipush (gt_M_init_39 40) (gt_M_init_39 41) (gt_M_init_39 42) (by decide)
theorem d_M_init_3943 : decode b_M_init 3943 = .ok (.newarray .int, 2) := dc_newarray (gt_M_init_39 43) (gt_M_init_39 44) (fun _ => rfl)
theorem d_M_init_3945 : decode b_M_init 3945 = .ok (.putfield 309, 3) := dc_putfield (gt_M_init_39 45) (gt_M_init_39 46) (gt_M_init_39 47) rfl
theorem d_M_init_3948 : decode b_M_init 3948 = .ok (.aload_n 0, 1) := dc_aload0 (gt_M_init_39 48)
theorem d_M_init_3949 : decode b_M_init 3949 = .ok (.sipush 500, 3) := dc_sipush (gt_M_init_39 49) (gt_M_init_39 50) (gt_M_init_39 51) (by decide)
theorem d_M_init_3952 : decode b_M_init 3952 = .ok (.newarray .long, 2) := dc_newarray (gt_M_init_39 52) (gt_M_init_39 53) (fun _ => rfl)
theorem d_M_init_3954 : decode b_M_init 3954 = .ok (.putfield 312, 3) := dc_putfield (gt_M_init_39 54) (gt_M_init_39 55) (gt_M_init_39 56) rfl
theorem d_M_init_3957 : decode b_M_init 3957 = .ok (.aload_n 0, 1) := dc_aload0 (gt_M_init_39 57)
theorem d_M_init_3958 : decode b_M_init 3958 = .ok (.bipush 6, 2) := dc_bipush (gt_M_init_39 58) (gt_M_init_39 59) rfl
theorem d_M_init_3960 : decode b_M_init 3960 = .ok (.iconst 0, 1) := dc_iconst_0 (gt_M_init_39 60)
theorem d_M_init_3961 : decode b_M_init 3961 = .ok (.invokestatic 315, 3) := dc_invokestatic (gt_M_init_39 61) (gt_M_init_39 62) (gt_M_init_39 63) rfl
theorem d_M_init_3964 : decode b_M_init 3964 = .ok (.putfield 319, 3) := dc_putfield (gt_M_init_39 64) (gt_M_init_39 65) (gt_M_init_39 66) rfl
theorem d_M_init_3967 : decode b_M_init 3967 = .ok (.aload_n 0, 1) := dc_aload0 (gt_M_init_39 67)
theorem d_M_init_3968 : decode b_M_init 3968 = .ok (.iconst (-1), 1) := dc_iconst_m1 (gt_M_init_39 68)
theorem d_M_init_3969 : decode b_M_init 3969 = .ok (.putfield 323, 3) := dc_putfield (gt_M_init_39 69) (gt_M_init_39 70) (gt_M_init_39 71) rfl
theorem d_M_init_3972 : decode b_M_init 3972 = .ok (.aload_n 0, 1) := dc_aload0 (gt_M_init_39 72)
theorem d_M_init_3973 : decode b_M_init 3973 = .ok (.sipush 3000, 3) := dc_sipush (gt_M_init_39 73) (gt_M_init_39 74) (gt_M_init_39 75) (by decide)
theorem d_M_init_3976 : decode b_M_init 3976 = .ok (.newarray .long, 2) := dc_newarray (gt_M_init_39 76) (gt_M_init_39 77) (fun _ => rfl)
theorem d_M_init_3978 : decode b_M_init 3978 = .ok (.putfield 327, 3) := dc_putfield (gt_M_init_39 78) (gt_M_init_39 79) (gt_M_init_39 80) rfl
theorem d_M_init_3981 : decode b_M_init 3981 = .ok (.aload_n 0, 1) := dc_aload0 (gt_M_init_39 81)
theorem d_M_init_3982 : decode b_M_init 3982 = .ok (.sipush 3000, 3) := dc_sipush (gt_M_init_39 82) (gt_M_init_39 83) (gt_M_init_39 84) (by decide)
theorem d_M_init_3985 : decode b_M_init 3985 = .ok (.newarray .int, 2) := dc_newarray (gt_M_init_39 85) (gt_M_init_39 86) (fun _ => rfl)
theorem d_M_init_3987 : decode b_M_init 3987 = .ok (.putfield 330, 3) := dc_putfield (gt_M_init_39 87) (gt_M_init_39 88) (gt_M_init_39 89) rfl
theorem d_M_init_3990 : decode b_M_init 3990 = .ok (.aload_n 0, 1) := dc_aload0 (gt_M_init_39 90)
theorem d_M_init_3991 : decode b_M_init 3991 = .ok (.bipush 100, 2) := dc_bipush (gt_M_init_39 91) (gt_M_init_39 92) rfl
theorem d_M_init_3993 : decode b_M_init 3993 = .ok (.newarray .byte, 2) := dc_newarray (gt_M_init_39 93) (gt_M_init_39 94) (fun _ => rfl)
theorem d_M_init_3995 : decode b_M_init 3995 = .ok (.putfield 333, 3) := dc_putfield (gt_M_init_39 95) (gt_M_init_39 96) (gt_M_init_39 97) rfl
theorem d_M_init_3998 : decode b_M_init 3998 = .ok (.aload_n 0, 1) := dc_aload0 (gt_M_init_39 98)
theorem d_M_init_3999 : decode b_M_init 3999 = .ok (.sipush 4000, 3) := dc_sipush (gt_M_init_39 99) (gt_M_init_40 0) (gt_M_init_40 1) (by decide)
theorem d_M_init_4002 : decode b_M_init 4002 = .ok (.newarray .int, 2) := dc_newarray (gt_M_init_40 2) (gt_M_init_40 3) (fun _ => rfl)
theorem d_M_init_4004 : decode b_M_init 4004 = .ok (.putfield 336, 3) := dc_putfield (gt_M_init_40 4) (gt_M_init_40 5) (gt_M_init_40 6) rfl
theorem d_M_init_4007 : decode b_M_init 4007 = .ok (.aload_n 0, 1) := dc_aload0 (gt_M_init_40 7)
theorem d_M_init_4008 : decode b_M_init 4008 = .ok (.sipush 4000, 3) := dc_sipush (gt_M_init_40 8) (gt_M_init_40 9) (gt_M_init_40 10) (by decide)
theorem d_M_init_4011 : decode b_M_init 4011 = .ok (.newarray .int, 2) := dc_newarray (gt_M_init_40 11) (gt_M_init_40 12) (fun _ => rfl)
theorem d_M_init_4013 : decode b_M_init 4013 = .ok (.putfield 339, 3) := dc_putfield (gt_M_init_40 13) (gt_M_init_40 14) (gt_M_init_40 15) rfl
theorem d_M_init_4016 : decode b_M_init 4016 = .ok (.aload_n 0, 1) := dc_aload0 (gt_M_init_40 16)
theorem d_M_init_4017 : decode b_M_init 4017 = .ok (.sipush 4000, 3) := dc_sipush (gt_M_init_40 17) (gt_M_init_40 18) (gt_M_init_40 19) (by decide)
theorem d_M_init_4020 : decode b_M_init 4020 = .ok (.newarray .int, 2) := dc_newarray (gt_M_init_40 20) (gt_M_init_40 21) (fun _ => rfl)
theorem d_M_init_4022 : decode b_M_init 4022 = .ok (.putfield 342, 3) := dc_putfield (gt_M_init_40 22) (gt_M_init_40 23) (gt_M_init_40 24) rfl
theorem d_M_init_4025 : decode b_M_init 4025 = .ok (.aload_n 0, 1) := dc_aload0 (gt_M_init_40 25)
theorem d_M_init_4026 : decode b_M_init 4026 = .ok (.sipush 4000, 3) := dc_sipush (gt_M_init_40 26) (gt_M_init_40 27) (gt_M_init_40 28) (by decide)
theorem d_M_init_4029 : decode b_M_init 4029 = .ok (.newarray .long, 2) := dc_newarray (gt_M_init_40 29) (gt_M_init_40 30) (fun _ => rfl)
theorem d_M_init_4031 : decode b_M_init 4031 = .ok (.putfield 345, 3) := dc_putfield (gt_M_init_40 31) (gt_M_init_40 32) (gt_M_init_40 33) rfl
theorem d_M_init_4034 : decode b_M_init 4034 = .ok (.aload_n 0, 1) := dc_aload0 (gt_M_init_40 34)
theorem d_M_init_4035 : decode b_M_init 4035 = .ok (.sipush 3000, 3) := dc_sipush (gt_M_init_40 35) (gt_M_init_40 36) (gt_M_init_40 37) (by decide)
theorem d_M_init_4038 : decode b_M_init 4038 = .ok (.newarray .int, 2) := dc_newarray (gt_M_init_40 38) (gt_M_init_40 39) (fun _ => rfl)
theorem d_M_init_4040 : decode b_M_init 4040 = .ok (.putfield 348, 3) := dc_putfield (gt_M_init_40 40) (gt_M_init_40 41) (gt_M_init_40 42) rfl
theorem d_M_init_4043 : decode b_M_init 4043 = .ok (.aload_n 0, 1) := dc_aload0 (gt_M_init_40 43)
theorem d_M_init_4044 : decode b_M_init 4044 = .ok (.sipush 3000, 3) := dc_sipush (gt_M_init_40 44) (gt_M_init_40 45) (gt_M_init_40 46) (by decide)
theorem d_M_init_4047 : decode b_M_init 4047 = .ok (.newarray .long, 2) := dc_newarray (gt_M_init_40 47) (gt_M_init_40 48) (fun _ => rfl)
theorem d_M_init_4049 : decode b_M_init 4049 = .ok (.putfield 351, 3) := dc_putfield (gt_M_init_40 49) (gt_M_init_40 50) (gt_M_init_40 51) rfl
theorem d_M_init_4052 : decode b_M_init 4052 = .ok (.aload_n 0, 1) := dc_aload0 (gt_M_init_40 52)
theorem d_M_init_4053 : decode b_M_init 4053 = .ok (.bipush 10, 2) := dc_bipush (gt_M_init_40 53) (gt_M_init_40 54) rfl
theorem d_M_init_4055 : decode b_M_init 4055 = .ok (.newarray .int, 2) := dc_newarray (gt_M_init_40 55) (gt_M_init_40 56) (fun _ => rfl)
theorem d_M_init_4057 : decode b_M_init 4057 = .ok (.putfield 354, 3) := dc_putfield (gt_M_init_40 57) (gt_M_init_40 58) (gt_M_init_40 59) rfl
theorem d_M_init_4060 : decode b_M_init 4060 = .ok (.aload_n 0, 1) := dc_aload0 (gt_M_init_40 60)
theorem d_M_init_4061 : decode b_M_init 4061 = .ok (.bipush 10, 2) := dc_bipush (gt_M_init_40 61) (gt_M_init_40 62) rfl
theorem d_M_init_4063 : decode b_M_init 4063 = .ok (.newarray .long, 2) := dc_newarray (gt_M_init_40 63) (gt_M_init_40 64) (fun _ => rfl)
theorem d_M_init_4065 : decode b_M_init 4065 = .ok (.putfield 357, 3) := dc_putfield (gt_M_init_40 65) (gt_M_init_40 66) (gt_M_init_40 67) rfl
theorem d_M_init_4068 : decode b_M_init 4068 = .ok (.aload_n 0, 1) := dc_aload0 (gt_M_init_40 68)
theorem d_M_init_4069 : decode b_M_init 4069 = .ok (.sipush 500, 3) := dc_sipush (gt_M_init_40 69) (gt_M_init_40 70) (gt_M_init_40 71) (by decide)
theorem d_M_init_4072 : decode b_M_init 4072 = .ok (.newarray .long, 2) := dc_newarray (gt_M_init_40 72) (gt_M_init_40 73) (fun _ => rfl)
theorem d_M_init_4074 : decode b_M_init 4074 = .ok (.putfield 360, 3) := dc_putfield (gt_M_init_40 74) (gt_M_init_40 75) (gt_M_init_40 76) rfl
theorem d_M_init_4077 : decode b_M_init 4077 = .ok (.aload_n 0, 1) := dc_aload0 (gt_M_init_40 77)
theorem d_M_init_4078 : decode b_M_init 4078 = .ok (.sipush 500, 3) := dc_sipush (gt_M_init_40 78) (gt_M_init_40 79) (gt_M_init_40 80) (by decide)
theorem d_M_init_4081 : decode b_M_init 4081 = .ok (.newarray .boolean, 2) := dc_newarray (gt_M_init_40 81) (gt_M_init_40 82) (fun _ => rfl)
theorem d_M_init_4083 : decode b_M_init 4083 = .ok (.putfield 363, 3) := dc_putfield (gt_M_init_40 83) (gt_M_init_40 84) (gt_M_init_40 85) rfl
theorem d_M_init_4086 : decode b_M_init 4086 = .ok (.aload_n 0, 1) := dc_aload0 (gt_M_init_40 86)
theorem d_M_init_4087 : decode b_M_init 4087 = .ok (.bipush 24, 2) := dc_bipush (gt_M_init_40 87) (gt_M_init_40 88) rfl
theorem d_M_init_4089 : decode b_M_init 4089 = .ok (.newarray .int, 2) := dc_newarray (gt_M_init_40 89) (gt_M_init_40 90) (fun _ => rfl)
theorem d_M_init_4091 : decode b_M_init 4091 = .ok (.putfield 366, 3) := dc_putfield (gt_M_init_40 91) (gt_M_init_40 92) (gt_M_init_40 93) rfl
theorem d_M_init_4094 : decode b_M_init 4094 = .ok (.return_, 1) := dc_return (gt_M_init_40 94)
