theorem dX5_in_0 : decode cX5_in 0 = .ok (.lload_n 0, 1) := by decide +kernel
theorem dX5_in_1 : decode cX5_in 1 = .ok (.lload_n 2, 1) := by decide +kernel
theorem dX5_in_2 : decode cX5_in 2 = .ok (.lcmp, 1) := by decide +kernel
theorem dX5_in_3 : decode cX5_in 3 = .ok (.ifCond .lt 14, 3) := by decide +kernel
theorem dX5_in_6 : decode cX5_in 6 = .ok (.lload_n 0, 1) := by decide +kernel
theorem dX5_in_7 : decode cX5_in 7 = .ok (.lload 4, 2) := by decide +kernel
theorem dX5_in_9 : decode cX5_in 9 = .ok (.lcmp, 1) := by decide +kernel
theorem dX5_in_10 : decode cX5_in 10 = .ok (.ifCond .gt 7, 3) := by decide +kernel
theorem dX5_in_13 : decode cX5_in 13 = .ok (.iconst 1, 1) := by decide +kernel
theorem dX5_in_14 : decode cX5_in 14 = .ok (.goto 4, 3) := by decide +kernel
theorem dX5_in_17 : decode cX5_in 17 = .ok (.iconst 0, 1) := by decide +kernel
theorem dX5_in_18 : decode cX5_in 18 = .ok (.ireturn, 1) := by decide +kernel
theorem dX5_within_0 : decode cX5_within 0 = .ok (.iload_n 0, 1) := by decide +kernel
theorem dX5_within_1 : decode cX5_within 1 = .ok (.iload_n 1, 1) := by decide +kernel
theorem dX5_within_2 : decode cX5_within 2 = .ok (.if_icmp .ge 7, 3) := by decide +kernel
theorem dX5_within_5 : decode cX5_within 5 = .ok (.iload_n 1, 1) := by decide +kernel
theorem dX5_within_6 : decode cX5_within 6 = .ok (.goto 13, 3) := by decide +kernel
theorem dX5_within_9 : decode cX5_within 9 = .ok (.iload_n 0, 1) := by decide +kernel
theorem dX5_within_10 : decode cX5_within 10 = .ok (.iload_n 2, 1) := by decide +kernel
theorem dX5_within_11 : decode cX5_within 11 = .ok (.if_icmp .le 7, 3) := by decide +kernel
theorem dX5_within_14 : decode cX5_within 14 = .ok (.iload_n 2, 1) := by decide +kernel
theorem dX5_within_15 : decode cX5_within 15 = .ok (.goto 4, 3) := by decide +kernel
theorem dX5_within_18 : decode cX5_within 18 = .ok (.iload_n 0, 1) := by decide +kernel
theorem dX5_within_19 : decode cX5_within 19 = .ok (.ireturn, 1) := by decide +kernel
theorem dX5_init_0 : decode cX5_init 0 = .ok (.aload_n 0, 1) := by decide +kernel
theorem dX5_init_1 : decode cX5_init 1 = .ok (.invokespecial 7, 3) := by decide +kernel
theorem dX5_init_4 : decode cX5_init 4 = .ok (.aload_n 0, 1) := by decide +kernel
theorem dX5_init_5 : decode cX5_init 5 = .ok (.sipush 960, 3) := by decide +kernel
theorem dX5_init_8 : decode cX5_init 8 = .ok (.newarray .int, 2) := by decide +kernel
theorem dX5_init_10 : decode cX5_init 10 = .ok (.putfield 13, 3) := by decide +kernel
theorem dX5_init_13 : decode cX5_init 13 = .ok (.aload_n 0, 1) := by decide +kernel
theorem dX5_init_14 : decode cX5_init 14 = .ok (.bipush 6, 2) := by decide +kernel
theorem dX5_init_16 : decode cX5_init 16 = .ok (.newarray .int, 2) := by decide +kernel
theorem dX5_init_18 : decode cX5_init 18 = .ok (.putfield 17, 3) := by decide +kernel
theorem dX5_init_21 : decode cX5_init 21 = .ok (.aload_n 0, 1) := by decide +kernel
theorem dX5_init_22 : decode cX5_init 22 = .ok (.sipush 160, 3) := by decide +kernel
theorem dX5_init_25 : decode cX5_init 25 = .ok (.newarray .int, 2) := by decide +kernel
theorem dX5_init_27 : decode cX5_init 27 = .ok (.putfield 20, 3) := by decide +kernel
theorem dX5_init_30 : decode cX5_init 30 = .ok (.aload_n 0, 1) := by decide +kernel
theorem dX5_init_31 : decode cX5_init 31 = .ok (.bipush 20, 2) := by decide +kernel
theorem dX5_init_33 : decode cX5_init 33 = .ok (.putfield 23, 3) := by decide +kernel
theorem dX5_init_36 : decode cX5_init 36 = .ok (.aload_n 0, 1) := by decide +kernel
theorem dX5_init_37 : decode cX5_init 37 = .ok (.bipush 10, 2) := by decide +kernel
theorem dX5_init_39 : decode cX5_init 39 = .ok (.newarray .int, 2) := by decide +kernel
theorem dX5_init_41 : decode cX5_init 41 = .ok (.putfield 26, 3) := by decide +kernel
theorem dX5_init_44 : decode cX5_init 44 = .ok (.aload_n 0, 1) := by decide +kernel
theorem dX5_init_45 : decode cX5_init 45 = .ok (.bipush 10, 2) := by decide +kernel
theorem dX5_init_47 : decode cX5_init 47 = .ok (.newarray .int, 2) := by decide +kernel
theorem dX5_init_49 : decode cX5_init 49 = .ok (.putfield 29, 3) := by decide +kernel
theorem dX5_init_52 : decode cX5_init 52 = .ok (.aload_n 0, 1) := by decide +kernel
theorem dX5_init_53 : decode cX5_init 53 = .ok (.bipush 20, 2) := by decide +kernel
theorem dX5_init_55 : decode cX5_init 55 = .ok (.newarray .int, 2) := by decide +kernel
theorem dX5_init_57 : decode cX5_init 57 = .ok (.putfield 32, 3) := by decide +kernel
theorem dX5_init_60 : decode cX5_init 60 = .ok (.aload_n 0, 1) := by decide +kernel
theorem dX5_init_61 : decode cX5_init 61 = .ok (.bipush 43, 2) := by decide +kernel
theorem dX5_init_63 : decode cX5_init 63 = .ok (.newarray .int, 2) := by decide +kernel
theorem dX5_init_65 : decode cX5_init 65 = .ok (.putfield 35, 3) := by decide +kernel
theorem dX5_init_68 : decode cX5_init 68 = .ok (.aload_n 0, 1) := by decide +kernel
theorem dX5_init_69 : decode cX5_init 69 = .ok (.iconst 3, 1) := by decide +kernel
theorem dX5_init_70 : decode cX5_init 70 = .ok (.newarray .int, 2) := by decide +kernel
theorem dX5_init_72 : decode cX5_init 72 = .ok (.putfield 38, 3) := by decide +kernel
theorem dX5_init_75 : decode cX5_init 75 = .ok (.aload_n 0, 1) := by decide +kernel
theorem dX5_init_76 : decode cX5_init 76 = .ok (.bipush 20, 2) := by decide +kernel
theorem dX5_init_78 : decode cX5_init 78 = .ok (.newarray .int, 2) := by decide +kernel
theorem dX5_init_80 : decode cX5_init 80 = .ok (.putfield 41, 3) := by decide +kernel
theorem dX5_init_83 : decode cX5_init 83 = .ok (.aload_n 0, 1) := by decide +kernel
theorem dX5_init_84 : decode cX5_init 84 = .ok (.bipush 10, 2) := by decide +kernel
theorem dX5_init_86 : decode cX5_init 86 = .ok (.newarray .int, 2) := by decide +kernel
theorem dX5_init_88 : decode cX5_init 88 = .ok (.putfield 44, 3) := by decide +kernel
theorem dX5_init_91 : decode cX5_init 91 = .ok (.aload_n 0, 1) := by decide +kernel
theorem dX5_init_92 : decode cX5_init 92 = .ok (.bipush 10, 2) := by decide +kernel
theorem dX5_init_94 : decode cX5_init 94 = .ok (.newarray .int, 2) := by decide +kernel
theorem dX5_init_96 : decode cX5_init 96 = .ok (.putfield 47, 3) := by decide +kernel
theorem dX5_init_99 : decode cX5_init 99 = .ok (.aload_n 0, 1) := by decide +kernel
theorem dX5_init_100 : decode cX5_init 100 = .ok (.iconst (-1), 1) := by decide +kernel
theorem dX5_init_101 : decode cX5_init 101 = .ok (.putfield 50, 3) := by decide +kernel
theorem dX5_init_104 : decode cX5_init 104 = .ok (.aload_n 0, 1) := by decide +kernel
theorem dX5_init_105 : decode cX5_init 105 = .ok (.iconst 4, 1) := by decide +kernel
theorem dX5_init_106 : decode cX5_init 106 = .ok (.newarray .boolean, 2) := by decide +kernel
theorem dX5_init_108 : decode cX5_init 108 = .ok (.putfield 53, 3) := by decide +kernel
theorem dX5_init_111 : decode cX5_init 111 = .ok (.aload_n 0, 1) := by decide +kernel
theorem dX5_init_112 : decode cX5_init 112 = .ok (.iconst 4, 1) := by decide +kernel
theorem dX5_init_113 : decode cX5_init 113 = .ok (.newarray .int, 2) := by decide +kernel
theorem dX5_init_115 : decode cX5_init 115 = .ok (.putfield 57, 3) := by decide +kernel
theorem dX5_init_118 : decode cX5_init 118 = .ok (.aload_n 0, 1) := by decide +kernel
theorem dX5_init_119 : decode cX5_init 119 = .ok (.iconst 4, 1) := by decide +kernel
theorem dX5_init_120 : decode cX5_init 120 = .ok (.newarray .int, 2) := by decide +kernel
theorem dX5_init_122 : decode cX5_init 122 = .ok (.putfield 60, 3) := by decide +kernel
theorem dX5_init_125 : decode cX5_init 125 = .ok (.aload_n 0, 1) := by decide +kernel
theorem dX5_init_126 : decode cX5_init 126 = .ok (.sipush 160, 3) := by decide +kernel
theorem dX5_init_129 : decode cX5_init 129 = .ok (.newarray .int, 2) := by decide +kernel
theorem dX5_init_131 : decode cX5_init 131 = .ok (.putfield 63, 3) := by decide +kernel
theorem dX5_init_134 : decode cX5_init 134 = .ok (.iconst 0, 1) := by decide +kernel
theorem dX5_init_135 : decode cX5_init 135 = .ok (.istore_n 1, 1) := by decide +kernel
theorem dX5_init_136 : decode cX5_init 136 = .ok (.iload_n 1, 1) := by decide +kernel
theorem dX5_init_137 : decode cX5_init 137 = .ok (.bipush 10, 2) := by decide +kernel
theorem dX5_init_139 : decode cX5_init 139 = .ok (.if_icmp .ge 16, 3) := by decide +kernel
theorem dX5_init_142 : decode cX5_init 142 = .ok (.aload_n 0, 1) := by decide +kernel
theorem dX5_init_143 : decode cX5_init 143 = .ok (.getfield 26, 3) := by decide +kernel
theorem dX5_init_146 : decode cX5_init 146 = .ok (.iload_n 1, 1) := by decide +kernel
theorem dX5_init_147 : decode cX5_init 147 = .ok (.iconst (-1), 1) := by decide +kernel
theorem dX5_init_148 : decode cX5_init 148 = .ok (.iastore, 1) := by decide +kernel
theorem dX5_init_149 : decode cX5_init 149 = .ok (.iinc 1 1, 3) := by decide +kernel
theorem dX5_init_152 : decode cX5_init 152 = .ok (.goto (-16), 3) := by decide +kernel
theorem dX5_init_155 : decode cX5_init 155 = .ok (.aload_n 0, 1) := by decide +kernel
theorem dX5_init_156 : decode cX5_init 156 = .ok (.iconst 0, 1) := by decide +kernel
theorem dX5_init_157 : decode cX5_init 157 = .ok (.bipush 109, 2) := by decide +kernel
theorem dX5_init_159 : decode cX5_init 159 = .ok (.bipush 97, 2) := by decide +kernel
theorem dX5_init_161 : decode cX5_init 161 = .ok (.bipush 107, 2) := by decide +kernel
theorem dX5_init_163 : decode cX5_init 163 = .ok (.bipush 101, 2) := by decide +kernel
theorem dX5_init_165 : decode cX5_init 165 = .ok (.bipush 115, 2) := by decide +kernel
theorem dX5_init_167 : decode cX5_init 167 = .ok (.bipush 32, 2) := by decide +kernel
theorem dX5_init_169 : decode cX5_init 169 = .ok (.bipush 115, 2) := by decide +kernel
theorem dX5_init_171 : decode cX5_init 171 = .ok (.bipush 107, 2) := by decide +kernel
theorem dX5_init_173 : decode cX5_init 173 = .ok (.invokevirtual 66, 3) := by decide +kernel
theorem dX5_init_176 : decode cX5_init 176 = .ok (.aload_n 0, 1) := by decide +kernel
theorem dX5_init_177 : decode cX5_init 177 = .ok (.bipush 8, 2) := by decide +kernel
theorem dX5_init_179 : decode cX5_init 179 = .ok (.bipush 105, 2) := by decide +kernel
theorem dX5_init_181 : decode cX5_init 181 = .ok (.bipush 108, 2) := by decide +kernel
theorem dX5_init_183 : decode cX5_init 183 = .ok (.bipush 108, 2) := by decide +kernel
theorem dX5_init_185 : decode cX5_init 185 = .ok (.bipush 32, 2) := by decide +kernel
theorem dX5_init_187 : decode cX5_init 187 = .ok (.bipush 59, 2) := by decide +kernel
theorem dX5_init_189 : decode cX5_init 189 = .ok (.bipush 32, 2) := by decide +kernel
theorem dX5_init_191 : decode cX5_init 191 = .ok (.bipush 109, 2) := by decide +kernel
theorem dX5_init_193 : decode cX5_init 193 = .ok (.bipush 101, 2) := by decide +kernel
theorem dX5_init_195 : decode cX5_init 195 = .ok (.invokevirtual 66, 3) := by decide +kernel
theorem dX5_init_198 : decode cX5_init 198 = .ok (.aload_n 0, 1) := by decide +kernel
theorem dX5_init_199 : decode cX5_init 199 = .ok (.bipush 16, 2) := by decide +kernel
theorem dX5_init_201 : decode cX5_init 201 = .ok (.bipush 110, 2) := by decide +kernel
theorem dX5_init_203 : decode cX5_init 203 = .ok (.bipush 100, 2) := by decide +kernel
theorem dX5_init_205 : decode cX5_init 205 = .ok (.bipush 115, 2) := by decide +kernel
theorem dX5_init_207 : decode cX5_init 207 = .ok (.bipush 32, 2) := by decide +kernel
theorem dX5_init_209 : decode cX5_init 209 = .ok (.bipush 49, 2) := by decide +kernel
theorem dX5_init_211 : decode cX5_init 211 = .ok (.bipush 32, 2) := by decide +kernel
theorem dX5_init_213 : decode cX5_init 213 = .ok (.bipush 59, 2) := by decide +kernel
theorem dX5_init_215 : decode cX5_init 215 = .ok (.bipush 32, 2) := by decide +kernel
theorem dX5_init_217 : decode cX5_init 217 = .ok (.invokevirtual 66, 3) := by decide +kernel
theorem dX5_init_220 : decode cX5_init 220 = .ok (.aload_n 0, 1) := by decide +kernel
theorem dX5_init_221 : decode cX5_init 221 = .ok (.bipush 24, 2) := by decide +kernel
theorem dX5_init_223 : decode cX5_init 223 = .ok (.bipush 112, 2) := by decide +kernel
theorem dX5_init_225 : decode cX5_init 225 = .ok (.bipush 117, 2) := by decide +kernel
theorem dX5_init_227 : decode cX5_init 227 = .ok (.bipush 109, 2) := by decide +kernel
theorem dX5_init_229 : decode cX5_init 229 = .ok (.bipush 112, 2) := by decide +kernel
theorem dX5_init_231 : decode cX5_init 231 = .ok (.bipush 115, 2) := by decide +kernel
theorem dX5_init_233 : decode cX5_init 233 = .ok (.bipush 32, 2) := by decide +kernel
theorem dX5_init_235 : decode cX5_init 235 = .ok (.bipush 51, 2) := by decide +kernel
theorem dX5_init_237 : decode cX5_init 237 = .ok (.bipush 32, 2) := by decide +kernel
theorem dX5_init_239 : decode cX5_init 239 = .ok (.invokevirtual 66, 3) := by decide +kernel
theorem dX5_init_242 : decode cX5_init 242 = .ok (.aload_n 0, 1) := by decide +kernel
theorem dX5_init_243 : decode cX5_init 243 = .ok (.bipush 32, 2) := by decide +kernel
theorem dX5_init_245 : decode cX5_init 245 = .ok (.bipush 59, 2) := by decide +kernel
theorem dX5_init_247 : decode cX5_init 247 = .ok (.bipush 32, 2) := by decide +kernel
theorem dX5_init_249 : decode cX5_init 249 = .ok (.bipush 32, 2) := by decide +kernel
theorem dX5_init_251 : decode cX5_init 251 = .ok (.bipush 32, 2) := by decide +kernel
theorem dX5_init_253 : decode cX5_init 253 = .ok (.bipush 32, 2) := by decide +kernel
theorem dX5_init_255 : decode cX5_init 255 = .ok (.bipush 32, 2) := by decide +kernel
theorem dX5_init_257 : decode cX5_init 257 = .ok (.bipush 32, 2) := by decide +kernel
theorem dX5_init_259 : decode cX5_init 259 = .ok (.bipush 32, 2) := by decide +kernel
theorem dX5_init_261 : decode cX5_init 261 = .ok (.invokevirtual 66, 3) := by decide +kernel
theorem dX5_init_264 : decode cX5_init 264 = .ok (.aload_n 0, 1) := by decide +kernel
theorem dX5_init_265 : decode cX5_init 265 = .ok (.getfield 17, 3) := by decide +kernel
theorem dX5_init_268 : decode cX5_init 268 = .ok (.iconst 0, 1) := by decide +kernel
theorem dX5_init_269 : decode cX5_init 269 = .ok (.bipush 40, 2) := by decide +kernel
theorem dX5_init_271 : decode cX5_init 271 = .ok (.iastore, 1) := by decide +kernel
theorem dX5_init_272 : decode cX5_init 272 = .ok (.aload_n 0, 1) := by decide +kernel
theorem dX5_init_273 : decode cX5_init 273 = .ok (.iconst 1, 1) := by decide +kernel
theorem dX5_init_274 : decode cX5_init 274 = .ok (.putfield 70, 3) := by decide +kernel
theorem dX5_init_277 : decode cX5_init 277 = .ok (.return_, 1) := by decide +kernel
theorem dX5_spell_0 : decode cX5_spell 0 = .ok (.aload_n 0, 1) := by decide +kernel
theorem dX5_spell_1 : decode cX5_spell 1 = .ok (.getfield 13, 3) := by decide +kernel
theorem dX5_spell_4 : decode cX5_spell 4 = .ok (.iload_n 1, 1) := by decide +kernel
theorem dX5_spell_5 : decode cX5_spell 5 = .ok (.iload_n 2, 1) := by decide +kernel
theorem dX5_spell_6 : decode cX5_spell 6 = .ok (.iastore, 1) := by decide +kernel
theorem dX5_spell_7 : decode cX5_spell 7 = .ok (.aload_n 0, 1) := by decide +kernel
theorem dX5_spell_8 : decode cX5_spell 8 = .ok (.getfield 13, 3) := by decide +kernel
theorem dX5_spell_11 : decode cX5_spell 11 = .ok (.iload_n 1, 1) := by decide +kernel
theorem dX5_spell_12 : decode cX5_spell 12 = .ok (.iconst 1, 1) := by decide +kernel
theorem dX5_spell_13 : decode cX5_spell 13 = .ok (.iadd, 1) := by decide +kernel
theorem dX5_spell_14 : decode cX5_spell 14 = .ok (.iload_n 3, 1) := by decide +kernel
theorem dX5_spell_15 : decode cX5_spell 15 = .ok (.iastore, 1) := by decide +kernel
theorem dX5_spell_16 : decode cX5_spell 16 = .ok (.aload_n 0, 1) := by decide +kernel
theorem dX5_spell_17 : decode cX5_spell 17 = .ok (.getfield 13, 3) := by decide +kernel
theorem dX5_spell_20 : decode cX5_spell 20 = .ok (.iload_n 1, 1) := by decide +kernel
theorem dX5_spell_21 : decode cX5_spell 21 = .ok (.iconst 2, 1) := by decide +kernel
theorem dX5_spell_22 : decode cX5_spell 22 = .ok (.iadd, 1) := by decide +kernel
theorem dX5_spell_23 : decode cX5_spell 23 = .ok (.iload 4, 2) := by decide +kernel
theorem dX5_spell_25 : decode cX5_spell 25 = .ok (.iastore, 1) := by decide +kernel
theorem dX5_spell_26 : decode cX5_spell 26 = .ok (.aload_n 0, 1) := by decide +kernel
theorem dX5_spell_27 : decode cX5_spell 27 = .ok (.getfield 13, 3) := by decide +kernel
theorem dX5_spell_30 : decode cX5_spell 30 = .ok (.iload_n 1, 1) := by decide +kernel
theorem dX5_spell_31 : decode cX5_spell 31 = .ok (.iconst 3, 1) := by decide +kernel
theorem dX5_spell_32 : decode cX5_spell 32 = .ok (.iadd, 1) := by decide +kernel
theorem dX5_spell_33 : decode cX5_spell 33 = .ok (.iload 5, 2) := by decide +kernel
theorem dX5_spell_35 : decode cX5_spell 35 = .ok (.iastore, 1) := by decide +kernel
theorem dX5_spell_36 : decode cX5_spell 36 = .ok (.aload_n 0, 1) := by decide +kernel
theorem dX5_spell_37 : decode cX5_spell 37 = .ok (.getfield 13, 3) := by decide +kernel
theorem dX5_spell_40 : decode cX5_spell 40 = .ok (.iload_n 1, 1) := by decide +kernel
theorem dX5_spell_41 : decode cX5_spell 41 = .ok (.iconst 4, 1) := by decide +kernel
theorem dX5_spell_42 : decode cX5_spell 42 = .ok (.iadd, 1) := by decide +kernel
theorem dX5_spell_43 : decode cX5_spell 43 = .ok (.iload 6, 2) := by decide +kernel
theorem dX5_spell_45 : decode cX5_spell 45 = .ok (.iastore, 1) := by decide +kernel
theorem dX5_spell_46 : decode cX5_spell 46 = .ok (.aload_n 0, 1) := by decide +kernel
theorem dX5_spell_47 : decode cX5_spell 47 = .ok (.getfield 13, 3) := by decide +kernel
theorem dX5_spell_50 : decode cX5_spell 50 = .ok (.iload_n 1, 1) := by decide +kernel
theorem dX5_spell_51 : decode cX5_spell 51 = .ok (.iconst 5, 1) := by decide +kernel
theorem dX5_spell_52 : decode cX5_spell 52 = .ok (.iadd, 1) := by decide +kernel
theorem dX5_spell_53 : decode cX5_spell 53 = .ok (.iload 7, 2) := by decide +kernel
theorem dX5_spell_55 : decode cX5_spell 55 = .ok (.iastore, 1) := by decide +kernel
theorem dX5_spell_56 : decode cX5_spell 56 = .ok (.aload_n 0, 1) := by decide +kernel
theorem dX5_spell_57 : decode cX5_spell 57 = .ok (.getfield 13, 3) := by decide +kernel
theorem dX5_spell_60 : decode cX5_spell 60 = .ok (.iload_n 1, 1) := by decide +kernel
theorem dX5_spell_61 : decode cX5_spell 61 = .ok (.bipush 6, 2) := by decide +kernel
theorem dX5_spell_63 : decode cX5_spell 63 = .ok (.iadd, 1) := by decide +kernel
theorem dX5_spell_64 : decode cX5_spell 64 = .ok (.iload 8, 2) := by decide +kernel
theorem dX5_spell_66 : decode cX5_spell 66 = .ok (.iastore, 1) := by decide +kernel
theorem dX5_spell_67 : decode cX5_spell 67 = .ok (.aload_n 0, 1) := by decide +kernel
theorem dX5_spell_68 : decode cX5_spell 68 = .ok (.getfield 13, 3) := by decide +kernel
theorem dX5_spell_71 : decode cX5_spell 71 = .ok (.iload_n 1, 1) := by decide +kernel
theorem dX5_spell_72 : decode cX5_spell 72 = .ok (.bipush 7, 2) := by decide +kernel
theorem dX5_spell_74 : decode cX5_spell 74 = .ok (.iadd, 1) := by decide +kernel
theorem dX5_spell_75 : decode cX5_spell 75 = .ok (.iload 9, 2) := by decide +kernel
theorem dX5_spell_77 : decode cX5_spell 77 = .ok (.iastore, 1) := by decide +kernel
theorem dX5_spell_78 : decode cX5_spell 78 = .ok (.return_, 1) := by decide +kernel
theorem dX5_isOne_0 : decode cX5_isOne 0 = .ok (.iload_n 1, 1) := by decide +kernel
theorem dX5_isOne_1 : decode cX5_isOne 1 = .ok (.i2l, 1) := by decide +kernel
theorem dX5_isOne_2 : decode cX5_isOne 2 = .ok (.lconst 0, 1) := by decide +kernel
theorem dX5_isOne_3 : decode cX5_isOne 3 = .ok (.aload_n 0, 1) := by decide +kernel
theorem dX5_isOne_4 : decode cX5_isOne 4 = .ok (.getfield 73, 3) := by decide +kernel
theorem dX5_isOne_7 : decode cX5_isOne 7 = .ok (.iconst 1, 1) := by decide +kernel
theorem dX5_isOne_8 : decode cX5_isOne 8 = .ok (.isub, 1) := by decide +kernel
theorem dX5_isOne_9 : decode cX5_isOne 9 = .ok (.i2l, 1) := by decide +kernel
theorem dX5_isOne_10 : decode cX5_isOne 10 = .ok (.invokestatic 76, 3) := by decide +kernel
theorem dX5_isOne_13 : decode cX5_isOne 13 = .ok (.ireturn, 1) := by decide +kernel
theorem dX5_isPart_0 : decode cX5_isPart 0 = .ok (.iload_n 0, 1) := by decide +kernel
theorem dX5_isPart_1 : decode cX5_isPart 1 = .ok (.i2l, 1) := by decide +kernel
theorem dX5_isPart_2 : decode cX5_isPart 2 = .ok (.lconst 0, 1) := by decide +kernel
theorem dX5_isPart_3 : decode cX5_isPart 3 = .ok (.ldc2_w 80, 3) := by decide +kernel
theorem dX5_isPart_6 : decode cX5_isPart 6 = .ok (.invokestatic 76, 3) := by decide +kernel
theorem dX5_isPart_9 : decode cX5_isPart 9 = .ok (.ireturn, 1) := by decide +kernel
theorem dX5_isUnder_0 : decode cX5_isUnder 0 = .ok (.iload_n 0, 1) := by decide +kernel
theorem dX5_isUnder_1 : decode cX5_isUnder 1 = .ok (.iconst 2, 1) := by decide +kernel
theorem dX5_isUnder_2 : decode cX5_isUnder 2 = .ok (.irem, 1) := by decide +kernel
theorem dX5_isUnder_3 : decode cX5_isUnder 3 = .ok (.ifCond .ne 7, 3) := by decide +kernel
theorem dX5_isUnder_6 : decode cX5_isUnder 6 = .ok (.iconst 1, 1) := by decide +kernel
theorem dX5_isUnder_7 : decode cX5_isUnder 7 = .ok (.goto 4, 3) := by decide +kernel
theorem dX5_isUnder_10 : decode cX5_isUnder 10 = .ok (.iconst 0, 1) := by decide +kernel
theorem dX5_isUnder_11 : decode cX5_isUnder 11 = .ok (.ireturn, 1) := by decide +kernel
theorem dX5_isOf_0 : decode cX5_isOf 0 = .ok (.iload_n 1, 1) := by decide +kernel
theorem dX5_isOf_1 : decode cX5_isOf 1 = .ok (.iconst 3, 1) := by decide +kernel
theorem dX5_isOf_2 : decode cX5_isOf 2 = .ok (.if_icmp .lt 32, 3) := by decide +kernel
theorem dX5_isOf_5 : decode cX5_isOf 5 = .ok (.iload_n 1, 1) := by decide +kernel
theorem dX5_isOf_6 : decode cX5_isOf 6 = .ok (.iconst 3, 1) := by decide +kernel
theorem dX5_isOf_7 : decode cX5_isOf 7 = .ok (.if_icmp .eq 9, 3) := by decide +kernel
theorem dX5_isOf_10 : decode cX5_isOf 10 = .ok (.iload_n 1, 1) := by decide +kernel
theorem dX5_isOf_11 : decode cX5_isOf 11 = .ok (.bipush 9, 2) := by decide +kernel
theorem dX5_isOf_13 : decode cX5_isOf 13 = .ok (.if_icmp .le 13, 3) := by decide +kernel
theorem dX5_isOf_16 : decode cX5_isOf 16 = .ok (.iload_n 2, 1) := by decide +kernel
theorem dX5_isOf_17 : decode cX5_isOf 17 = .ok (.invokestatic 82, 3) := by decide +kernel
theorem dX5_isOf_20 : decode cX5_isOf 20 = .ok (.ifCond .eq 18, 3) := by decide +kernel
theorem dX5_isOf_23 : decode cX5_isOf 23 = .ok (.goto 11, 3) := by decide +kernel
theorem dX5_isOf_26 : decode cX5_isOf 26 = .ok (.aload_n 0, 1) := by decide +kernel
theorem dX5_isOf_27 : decode cX5_isOf 27 = .ok (.iload_n 2, 1) := by decide +kernel
theorem dX5_isOf_28 : decode cX5_isOf 28 = .ok (.invokevirtual 86, 3) := by decide +kernel
theorem dX5_isOf_31 : decode cX5_isOf 31 = .ok (.ifCond .eq 7, 3) := by decide +kernel
theorem dX5_isOf_34 : decode cX5_isOf 34 = .ok (.iconst 1, 1) := by decide +kernel
theorem dX5_isOf_35 : decode cX5_isOf 35 = .ok (.goto 4, 3) := by decide +kernel
theorem dX5_isOf_38 : decode cX5_isOf 38 = .ok (.iconst 0, 1) := by decide +kernel
theorem dX5_isOf_39 : decode cX5_isOf 39 = .ok (.ireturn, 1) := by decide +kernel
theorem dX5_mostOf_0 : decode cX5_mostOf 0 = .ok (.iload_n 0, 1) := by decide +kernel
theorem dX5_mostOf_1 : decode cX5_mostOf 1 = .ok (.ifCond .ne 9, 3) := by decide +kernel
theorem dX5_mostOf_4 : decode cX5_mostOf 4 = .ok (.sipush 999, 3) := by decide +kernel
theorem dX5_mostOf_7 : decode cX5_mostOf 7 = .ok (.goto 25, 3) := by decide +kernel
theorem dX5_mostOf_10 : decode cX5_mostOf 10 = .ok (.iload_n 0, 1) := by decide +kernel
theorem dX5_mostOf_11 : decode cX5_mostOf 11 = .ok (.iconst 2, 1) := by decide +kernel
theorem dX5_mostOf_12 : decode cX5_mostOf 12 = .ok (.if_icmp .ne 8, 3) := by decide +kernel
theorem dX5_mostOf_15 : decode cX5_mostOf 15 = .ok (.bipush 100, 2) := by decide +kernel
theorem dX5_mostOf_17 : decode cX5_mostOf 17 = .ok (.goto 15, 3) := by decide +kernel
theorem dX5_mostOf_20 : decode cX5_mostOf 20 = .ok (.iload_n 0, 1) := by decide +kernel
theorem dX5_mostOf_21 : decode cX5_mostOf 21 = .ok (.iconst 4, 1) := by decide +kernel
theorem dX5_mostOf_22 : decode cX5_mostOf 22 = .ok (.if_icmp .ne 8, 3) := by decide +kernel
theorem dX5_mostOf_25 : decode cX5_mostOf 25 = .ok (.bipush 9, 2) := by decide +kernel
theorem dX5_mostOf_27 : decode cX5_mostOf 27 = .ok (.goto 5, 3) := by decide +kernel
theorem dX5_mostOf_30 : decode cX5_mostOf 30 = .ok (.bipush 99, 2) := by decide +kernel
theorem dX5_mostOf_32 : decode cX5_mostOf 32 = .ok (.ireturn, 1) := by decide +kernel
theorem dX5_set_0 : decode cX5_set 0 = .ok (.iload_n 1, 1) := by decide +kernel
theorem dX5_set_1 : decode cX5_set 1 = .ok (.i2l, 1) := by decide +kernel
theorem dX5_set_2 : decode cX5_set 2 = .ok (.lconst 0, 1) := by decide +kernel
theorem dX5_set_3 : decode cX5_set 3 = .ok (.ldc2_w 89, 3) := by decide +kernel
theorem dX5_set_6 : decode cX5_set 6 = .ok (.invokestatic 76, 3) := by decide +kernel
theorem dX5_set_9 : decode cX5_set 9 = .ok (.ifCond .eq 26, 3) := by decide +kernel
theorem dX5_set_12 : decode cX5_set 12 = .ok (.aload_n 0, 1) := by decide +kernel
theorem dX5_set_13 : decode cX5_set 13 = .ok (.iload_n 1, 1) := by decide +kernel
theorem dX5_set_14 : decode cX5_set 14 = .ok (.iload_n 2, 1) := by decide +kernel
theorem dX5_set_15 : decode cX5_set 15 = .ok (.invokevirtual 91, 3) := by decide +kernel
theorem dX5_set_18 : decode cX5_set 18 = .ok (.ifCond .eq 17, 3) := by decide +kernel
theorem dX5_set_21 : decode cX5_set 21 = .ok (.iload_n 3, 1) := by decide +kernel
theorem dX5_set_22 : decode cX5_set 22 = .ok (.i2l, 1) := by decide +kernel
theorem dX5_set_23 : decode cX5_set 23 = .ok (.lconst 0, 1) := by decide +kernel
theorem dX5_set_24 : decode cX5_set 24 = .ok (.iload_n 1, 1) := by decide +kernel
theorem dX5_set_25 : decode cX5_set 25 = .ok (.invokestatic 95, 3) := by decide +kernel
theorem dX5_set_28 : decode cX5_set 28 = .ok (.i2l, 1) := by decide +kernel
theorem dX5_set_29 : decode cX5_set 29 = .ok (.invokestatic 76, 3) := by decide +kernel
theorem dX5_set_32 : decode cX5_set 32 = .ok (.ifCond .ne 6, 3) := by decide +kernel
theorem dX5_set_35 : decode cX5_set 35 = .ok (.bipush (-2), 2) := by decide +kernel
theorem dX5_set_37 : decode cX5_set 37 = .ok (.ireturn, 1) := by decide +kernel
theorem dX5_set_38 : decode cX5_set 38 = .ok (.aload_n 0, 1) := by decide +kernel
theorem dX5_set_39 : decode cX5_set 39 = .ok (.iload_n 2, 1) := by decide +kernel
theorem dX5_set_40 : decode cX5_set 40 = .ok (.iload_n 1, 1) := by decide +kernel
theorem dX5_set_41 : decode cX5_set 41 = .ok (.invokevirtual 99, 3) := by decide +kernel
theorem dX5_set_44 : decode cX5_set 44 = .ok (.istore 4, 2) := by decide +kernel
theorem dX5_set_46 : decode cX5_set 46 = .ok (.aload_n 0, 1) := by decide +kernel
theorem dX5_set_47 : decode cX5_set 47 = .ok (.iload_n 1, 1) := by decide +kernel
theorem dX5_set_48 : decode cX5_set 48 = .ok (.iload_n 2, 1) := by decide +kernel
theorem dX5_set_49 : decode cX5_set 49 = .ok (.iload_n 3, 1) := by decide +kernel
theorem dX5_set_50 : decode cX5_set 50 = .ok (.invokevirtual 103, 3) := by decide +kernel
theorem dX5_set_53 : decode cX5_set 53 = .ok (.iload 4, 2) := by decide +kernel
theorem dX5_set_55 : decode cX5_set 55 = .ok (.ireturn, 1) := by decide +kernel
theorem dX5_lays_0 : decode cX5_lays 0 = .ok (.iload_n 1, 1) := by decide +kernel
theorem dX5_lays_1 : decode cX5_lays 1 = .ok (.iconst 3, 1) := by decide +kernel
theorem dX5_lays_2 : decode cX5_lays 2 = .ok (.if_icmp .ge 56, 3) := by decide +kernel
theorem dX5_lays_5 : decode cX5_lays 5 = .ok (.aload_n 0, 1) := by decide +kernel
theorem dX5_lays_6 : decode cX5_lays 6 = .ok (.iload_n 1, 1) := by decide +kernel
theorem dX5_lays_7 : decode cX5_lays 7 = .ok (.ifCond .ne 7, 3) := by decide +kernel
theorem dX5_lays_10 : decode cX5_lays 10 = .ok (.iload_n 3, 1) := by decide +kernel
theorem dX5_lays_11 : decode cX5_lays 11 = .ok (.goto 7, 3) := by decide +kernel
theorem dX5_lays_14 : decode cX5_lays 14 = .ok (.aload_n 0, 1) := by decide +kernel
theorem dX5_lays_15 : decode cX5_lays 15 = .ok (.getfield 107, 3) := by decide +kernel
theorem dX5_lays_18 : decode cX5_lays 18 = .ok (.putfield 107, 3) := by decide +kernel
theorem dX5_lays_21 : decode cX5_lays 21 = .ok (.aload_n 0, 1) := by decide +kernel
theorem dX5_lays_22 : decode cX5_lays 22 = .ok (.iload_n 1, 1) := by decide +kernel
theorem dX5_lays_23 : decode cX5_lays 23 = .ok (.iconst 1, 1) := by decide +kernel
theorem dX5_lays_24 : decode cX5_lays 24 = .ok (.if_icmp .ne 7, 3) := by decide +kernel
theorem dX5_lays_27 : decode cX5_lays 27 = .ok (.iload_n 3, 1) := by decide +kernel
theorem dX5_lays_28 : decode cX5_lays 28 = .ok (.goto 7, 3) := by decide +kernel
theorem dX5_lays_31 : decode cX5_lays 31 = .ok (.aload_n 0, 1) := by decide +kernel
theorem dX5_lays_32 : decode cX5_lays 32 = .ok (.getfield 23, 3) := by decide +kernel
theorem dX5_lays_35 : decode cX5_lays 35 = .ok (.putfield 23, 3) := by decide +kernel
theorem dX5_lays_38 : decode cX5_lays 38 = .ok (.aload_n 0, 1) := by decide +kernel
theorem dX5_lays_39 : decode cX5_lays 39 = .ok (.iload_n 1, 1) := by decide +kernel
theorem dX5_lays_40 : decode cX5_lays 40 = .ok (.iconst 2, 1) := by decide +kernel
theorem dX5_lays_41 : decode cX5_lays 41 = .ok (.if_icmp .ne 7, 3) := by decide +kernel
theorem dX5_lays_44 : decode cX5_lays 44 = .ok (.iload_n 3, 1) := by decide +kernel
theorem dX5_lays_45 : decode cX5_lays 45 = .ok (.goto 7, 3) := by decide +kernel
theorem dX5_lays_48 : decode cX5_lays 48 = .ok (.aload_n 0, 1) := by decide +kernel
theorem dX5_lays_49 : decode cX5_lays 49 = .ok (.getfield 110, 3) := by decide +kernel
theorem dX5_lays_52 : decode cX5_lays 52 = .ok (.putfield 110, 3) := by decide +kernel
theorem dX5_lays_55 : decode cX5_lays 55 = .ok (.goto 45, 3) := by decide +kernel
theorem dX5_lays_58 : decode cX5_lays 58 = .ok (.iload_n 1, 1) := by decide +kernel
theorem dX5_lays_59 : decode cX5_lays 59 = .ok (.iconst 3, 1) := by decide +kernel
theorem dX5_lays_60 : decode cX5_lays 60 = .ok (.if_icmp .ne 13, 3) := by decide +kernel
theorem dX5_lays_63 : decode cX5_lays 63 = .ok (.aload_n 0, 1) := by decide +kernel
theorem dX5_lays_64 : decode cX5_lays 64 = .ok (.getfield 29, 3) := by decide +kernel
theorem dX5_lays_67 : decode cX5_lays 67 = .ok (.iload_n 2, 1) := by decide +kernel
theorem dX5_lays_68 : decode cX5_lays 68 = .ok (.iload_n 3, 1) := by decide +kernel
theorem dX5_lays_69 : decode cX5_lays 69 = .ok (.iastore, 1) := by decide +kernel
theorem dX5_lays_70 : decode cX5_lays 70 = .ok (.goto 30, 3) := by decide +kernel
theorem dX5_lays_73 : decode cX5_lays 73 = .ok (.iload_n 1, 1) := by decide +kernel
theorem dX5_lays_74 : decode cX5_lays 74 = .ok (.bipush 7, 2) := by decide +kernel
theorem dX5_lays_76 : decode cX5_lays 76 = .ok (.if_icmp .ge 19, 3) := by decide +kernel
theorem dX5_lays_79 : decode cX5_lays 79 = .ok (.aload_n 0, 1) := by decide +kernel
theorem dX5_lays_80 : decode cX5_lays 80 = .ok (.getfield 32, 3) := by decide +kernel
theorem dX5_lays_83 : decode cX5_lays 83 = .ok (.iconst 4, 1) := by decide +kernel
theorem dX5_lays_84 : decode cX5_lays 84 = .ok (.iload_n 2, 1) := by decide +kernel
theorem dX5_lays_85 : decode cX5_lays 85 = .ok (.imul, 1) := by decide +kernel
theorem dX5_lays_86 : decode cX5_lays 86 = .ok (.iload_n 1, 1) := by decide +kernel
theorem dX5_lays_87 : decode cX5_lays 87 = .ok (.iadd, 1) := by decide +kernel
theorem dX5_lays_88 : decode cX5_lays 88 = .ok (.iconst 4, 1) := by decide +kernel
theorem dX5_lays_89 : decode cX5_lays 89 = .ok (.isub, 1) := by decide +kernel
theorem dX5_lays_90 : decode cX5_lays 90 = .ok (.iload_n 3, 1) := by decide +kernel
theorem dX5_lays_91 : decode cX5_lays 91 = .ok (.iastore, 1) := by decide +kernel
theorem dX5_lays_92 : decode cX5_lays 92 = .ok (.goto 8, 3) := by decide +kernel
theorem dX5_lays_95 : decode cX5_lays 95 = .ok (.aload_n 0, 1) := by decide +kernel
theorem dX5_lays_96 : decode cX5_lays 96 = .ok (.iload_n 3, 1) := by decide +kernel
theorem dX5_lays_97 : decode cX5_lays 97 = .ok (.putfield 113, 3) := by decide +kernel
theorem dX5_lays_100 : decode cX5_lays 100 = .ok (.return_, 1) := by decide +kernel
theorem dX5_wright_0 : decode cX5_wright 0 = .ok (.iload_n 1, 1) := by decide +kernel
theorem dX5_wright_1 : decode cX5_wright 1 = .ok (.i2l, 1) := by decide +kernel
theorem dX5_wright_2 : decode cX5_wright 2 = .ok (.lconst 0, 1) := by decide +kernel
theorem dX5_wright_3 : decode cX5_wright 3 = .ok (.ldc2_w 89, 3) := by decide +kernel
theorem dX5_wright_6 : decode cX5_wright 6 = .ok (.invokestatic 76, 3) := by decide +kernel
theorem dX5_wright_9 : decode cX5_wright 9 = .ok (.ifCond .eq 27, 3) := by decide +kernel
theorem dX5_wright_12 : decode cX5_wright 12 = .ok (.iload_n 2, 1) := by decide +kernel
theorem dX5_wright_13 : decode cX5_wright 13 = .ok (.i2l, 1) := by decide +kernel
theorem dX5_wright_14 : decode cX5_wright 14 = .ok (.lconst 0, 1) := by decide +kernel
theorem dX5_wright_15 : decode cX5_wright 15 = .ok (.ldc2_w 80, 3) := by decide +kernel
theorem dX5_wright_18 : decode cX5_wright 18 = .ok (.invokestatic 76, 3) := by decide +kernel
theorem dX5_wright_21 : decode cX5_wright 21 = .ok (.ifCond .eq 15, 3) := by decide +kernel
theorem dX5_wright_24 : decode cX5_wright 24 = .ok (.iload_n 3, 1) := by decide +kernel
theorem dX5_wright_25 : decode cX5_wright 25 = .ok (.i2l, 1) := by decide +kernel
theorem dX5_wright_26 : decode cX5_wright 26 = .ok (.lconst 0, 1) := by decide +kernel
theorem dX5_wright_27 : decode cX5_wright 27 = .ok (.ldc2_w 116, 3) := by decide +kernel
theorem dX5_wright_30 : decode cX5_wright 30 = .ok (.invokestatic 76, 3) := by decide +kernel
theorem dX5_wright_33 : decode cX5_wright 33 = .ok (.ifCond .ne 6, 3) := by decide +kernel
theorem dX5_wright_36 : decode cX5_wright 36 = .ok (.bipush (-2), 2) := by decide +kernel
theorem dX5_wright_38 : decode cX5_wright 38 = .ok (.ireturn, 1) := by decide +kernel
theorem dX5_wright_39 : decode cX5_wright 39 = .ok (.aload_n 0, 1) := by decide +kernel
theorem dX5_wright_40 : decode cX5_wright 40 = .ok (.getfield 73, 3) := by decide +kernel
theorem dX5_wright_43 : decode cX5_wright 43 = .ok (.iconst 5, 1) := by decide +kernel
theorem dX5_wright_44 : decode cX5_wright 44 = .ok (.if_icmp .ne 6, 3) := by decide +kernel
theorem dX5_wright_47 : decode cX5_wright 47 = .ok (.bipush (-4), 2) := by decide +kernel
theorem dX5_wright_49 : decode cX5_wright 49 = .ok (.ireturn, 1) := by decide +kernel
theorem dX5_wright_50 : decode cX5_wright 50 = .ok (.aload_n 0, 1) := by decide +kernel
theorem dX5_wright_51 : decode cX5_wright 51 = .ok (.getfield 32, 3) := by decide +kernel
theorem dX5_wright_54 : decode cX5_wright 54 = .ok (.iconst 4, 1) := by decide +kernel
theorem dX5_wright_55 : decode cX5_wright 55 = .ok (.aload_n 0, 1) := by decide +kernel
theorem dX5_wright_56 : decode cX5_wright 56 = .ok (.getfield 73, 3) := by decide +kernel
theorem dX5_wright_59 : decode cX5_wright 59 = .ok (.imul, 1) := by decide +kernel
theorem dX5_wright_60 : decode cX5_wright 60 = .ok (.iload_n 2, 1) := by decide +kernel
theorem dX5_wright_61 : decode cX5_wright 61 = .ok (.iastore, 1) := by decide +kernel
theorem dX5_wright_62 : decode cX5_wright 62 = .ok (.aload_n 0, 1) := by decide +kernel
theorem dX5_wright_63 : decode cX5_wright 63 = .ok (.getfield 32, 3) := by decide +kernel
theorem dX5_wright_66 : decode cX5_wright 66 = .ok (.iconst 4, 1) := by decide +kernel
theorem dX5_wright_67 : decode cX5_wright 67 = .ok (.aload_n 0, 1) := by decide +kernel
theorem dX5_wright_68 : decode cX5_wright 68 = .ok (.getfield 73, 3) := by decide +kernel
theorem dX5_wright_71 : decode cX5_wright 71 = .ok (.imul, 1) := by decide +kernel
theorem dX5_wright_72 : decode cX5_wright 72 = .ok (.iconst 1, 1) := by decide +kernel
theorem dX5_wright_73 : decode cX5_wright 73 = .ok (.iadd, 1) := by decide +kernel
theorem dX5_wright_74 : decode cX5_wright 74 = .ok (.iload_n 3, 1) := by decide +kernel
theorem dX5_wright_75 : decode cX5_wright 75 = .ok (.iastore, 1) := by decide +kernel
theorem dX5_wright_76 : decode cX5_wright 76 = .ok (.aload_n 0, 1) := by decide +kernel
theorem dX5_wright_77 : decode cX5_wright 77 = .ok (.getfield 32, 3) := by decide +kernel
theorem dX5_wright_80 : decode cX5_wright 80 = .ok (.iconst 4, 1) := by decide +kernel
theorem dX5_wright_81 : decode cX5_wright 81 = .ok (.aload_n 0, 1) := by decide +kernel
theorem dX5_wright_82 : decode cX5_wright 82 = .ok (.getfield 73, 3) := by decide +kernel
theorem dX5_wright_85 : decode cX5_wright 85 = .ok (.imul, 1) := by decide +kernel
theorem dX5_wright_86 : decode cX5_wright 86 = .ok (.iconst 2, 1) := by decide +kernel
theorem dX5_wright_87 : decode cX5_wright 87 = .ok (.iadd, 1) := by decide +kernel
theorem dX5_wright_88 : decode cX5_wright 88 = .ok (.iload_n 1, 1) := by decide +kernel
theorem dX5_wright_89 : decode cX5_wright 89 = .ok (.iastore, 1) := by decide +kernel
theorem dX5_wright_90 : decode cX5_wright 90 = .ok (.aload_n 0, 1) := by decide +kernel
theorem dX5_wright_91 : decode cX5_wright 91 = .ok (.getfield 32, 3) := by decide +kernel
theorem dX5_wright_94 : decode cX5_wright 94 = .ok (.iconst 4, 1) := by decide +kernel
theorem dX5_wright_95 : decode cX5_wright 95 = .ok (.aload_n 0, 1) := by decide +kernel
theorem dX5_wright_96 : decode cX5_wright 96 = .ok (.getfield 73, 3) := by decide +kernel
theorem dX5_wright_99 : decode cX5_wright 99 = .ok (.imul, 1) := by decide +kernel
theorem dX5_wright_100 : decode cX5_wright 100 = .ok (.iconst 3, 1) := by decide +kernel
theorem dX5_wright_101 : decode cX5_wright 101 = .ok (.iadd, 1) := by decide +kernel
theorem dX5_wright_102 : decode cX5_wright 102 = .ok (.iconst 0, 1) := by decide +kernel
theorem dX5_wright_103 : decode cX5_wright 103 = .ok (.iastore, 1) := by decide +kernel
theorem dX5_wright_104 : decode cX5_wright 104 = .ok (.aload_n 0, 1) := by decide +kernel
theorem dX5_wright_105 : decode cX5_wright 105 = .ok (.dup, 1) := by decide +kernel
theorem dX5_wright_106 : decode cX5_wright 106 = .ok (.getfield 73, 3) := by decide +kernel
theorem dX5_wright_109 : decode cX5_wright 109 = .ok (.iconst 1, 1) := by decide +kernel
theorem dX5_wright_110 : decode cX5_wright 110 = .ok (.iadd, 1) := by decide +kernel
theorem dX5_wright_111 : decode cX5_wright 111 = .ok (.putfield 73, 3) := by decide +kernel
theorem dX5_wright_114 : decode cX5_wright 114 = .ok (.aload_n 0, 1) := by decide +kernel
theorem dX5_wright_115 : decode cX5_wright 115 = .ok (.getfield 73, 3) := by decide +kernel
theorem dX5_wright_118 : decode cX5_wright 118 = .ok (.iconst 1, 1) := by decide +kernel
theorem dX5_wright_119 : decode cX5_wright 119 = .ok (.isub, 1) := by decide +kernel
theorem dX5_wright_120 : decode cX5_wright 120 = .ok (.ireturn, 1) := by decide +kernel
theorem dX5_told_0 : decode cX5_told 0 = .ok (.iload_n 2, 1) := by decide +kernel
theorem dX5_told_1 : decode cX5_told 1 = .ok (.i2l, 1) := by decide +kernel
theorem dX5_told_2 : decode cX5_told 2 = .ok (.lconst 0, 1) := by decide +kernel
theorem dX5_told_3 : decode cX5_told 3 = .ok (.ldc2_w 118, 3) := by decide +kernel
theorem dX5_told_6 : decode cX5_told 6 = .ok (.invokestatic 76, 3) := by decide +kernel
theorem dX5_told_9 : decode cX5_told 9 = .ok (.ifCond .eq 12, 3) := by decide +kernel
theorem dX5_told_12 : decode cX5_told 12 = .ok (.aload_n 0, 1) := by decide +kernel
theorem dX5_told_13 : decode cX5_told 13 = .ok (.iload_n 2, 1) := by decide +kernel
theorem dX5_told_14 : decode cX5_told 14 = .ok (.iload_n 1, 1) := by decide +kernel
theorem dX5_told_15 : decode cX5_told 15 = .ok (.invokevirtual 91, 3) := by decide +kernel
theorem dX5_told_18 : decode cX5_told 18 = .ok (.ifCond .ne 7, 3) := by decide +kernel
theorem dX5_told_21 : decode cX5_told 21 = .ok (.sipush (-1000), 3) := by decide +kernel
theorem dX5_told_24 : decode cX5_told 24 = .ok (.ireturn, 1) := by decide +kernel
theorem dX5_told_25 : decode cX5_told 25 = .ok (.iload_n 2, 1) := by decide +kernel
theorem dX5_told_26 : decode cX5_told 26 = .ok (.iconst 4, 1) := by decide +kernel
theorem dX5_told_27 : decode cX5_told 27 = .ok (.if_icmp .ge 45, 3) := by decide +kernel
theorem dX5_told_30 : decode cX5_told 30 = .ok (.iload_n 2, 1) := by decide +kernel
theorem dX5_told_31 : decode cX5_told 31 = .ok (.ifCond .ne 10, 3) := by decide +kernel
theorem dX5_told_34 : decode cX5_told 34 = .ok (.aload_n 0, 1) := by decide +kernel
theorem dX5_told_35 : decode cX5_told 35 = .ok (.getfield 107, 3) := by decide +kernel
theorem dX5_told_38 : decode cX5_told 38 = .ok (.goto 33, 3) := by decide +kernel
theorem dX5_told_41 : decode cX5_told 41 = .ok (.iload_n 2, 1) := by decide +kernel
theorem dX5_told_42 : decode cX5_told 42 = .ok (.iconst 1, 1) := by decide +kernel
theorem dX5_told_43 : decode cX5_told 43 = .ok (.if_icmp .ne 10, 3) := by decide +kernel
theorem dX5_told_46 : decode cX5_told 46 = .ok (.aload_n 0, 1) := by decide +kernel
theorem dX5_told_47 : decode cX5_told 47 = .ok (.getfield 23, 3) := by decide +kernel
theorem dX5_told_50 : decode cX5_told 50 = .ok (.goto 21, 3) := by decide +kernel
theorem dX5_told_53 : decode cX5_told 53 = .ok (.iload_n 2, 1) := by decide +kernel
theorem dX5_told_54 : decode cX5_told 54 = .ok (.iconst 2, 1) := by decide +kernel
theorem dX5_told_55 : decode cX5_told 55 = .ok (.if_icmp .ne 10, 3) := by decide +kernel
theorem dX5_told_58 : decode cX5_told 58 = .ok (.aload_n 0, 1) := by decide +kernel
theorem dX5_told_59 : decode cX5_told 59 = .ok (.getfield 110, 3) := by decide +kernel
theorem dX5_told_62 : decode cX5_told 62 = .ok (.goto 9, 3) := by decide +kernel
theorem dX5_told_65 : decode cX5_told 65 = .ok (.aload_n 0, 1) := by decide +kernel
theorem dX5_told_66 : decode cX5_told 66 = .ok (.getfield 29, 3) := by decide +kernel
theorem dX5_told_69 : decode cX5_told 69 = .ok (.iload_n 1, 1) := by decide +kernel
theorem dX5_told_70 : decode cX5_told 70 = .ok (.iaload, 1) := by decide +kernel
theorem dX5_told_71 : decode cX5_told 71 = .ok (.ireturn, 1) := by decide +kernel
theorem dX5_told_72 : decode cX5_told 72 = .ok (.iload_n 2, 1) := by decide +kernel
theorem dX5_told_73 : decode cX5_told 73 = .ok (.bipush 8, 2) := by decide +kernel
theorem dX5_told_75 : decode cX5_told 75 = .ok (.if_icmp .ge 16, 3) := by decide +kernel
theorem dX5_told_78 : decode cX5_told 78 = .ok (.aload_n 0, 1) := by decide +kernel
theorem dX5_told_79 : decode cX5_told 79 = .ok (.getfield 32, 3) := by decide +kernel
theorem dX5_told_82 : decode cX5_told 82 = .ok (.iconst 4, 1) := by decide +kernel
theorem dX5_told_83 : decode cX5_told 83 = .ok (.iload_n 1, 1) := by decide +kernel
theorem dX5_told_84 : decode cX5_told 84 = .ok (.imul, 1) := by decide +kernel
theorem dX5_told_85 : decode cX5_told 85 = .ok (.iload_n 2, 1) := by decide +kernel
theorem dX5_told_86 : decode cX5_told 86 = .ok (.iadd, 1) := by decide +kernel
theorem dX5_told_87 : decode cX5_told 87 = .ok (.iconst 4, 1) := by decide +kernel
theorem dX5_told_88 : decode cX5_told 88 = .ok (.isub, 1) := by decide +kernel
theorem dX5_told_89 : decode cX5_told 89 = .ok (.iaload, 1) := by decide +kernel
theorem dX5_told_90 : decode cX5_told 90 = .ok (.ireturn, 1) := by decide +kernel
theorem dX5_told_91 : decode cX5_told 91 = .ok (.iload_n 2, 1) := by decide +kernel
theorem dX5_told_92 : decode cX5_told 92 = .ok (.bipush 8, 2) := by decide +kernel
theorem dX5_told_94 : decode cX5_told 94 = .ok (.if_icmp .ne 11, 3) := by decide +kernel
theorem dX5_told_97 : decode cX5_told 97 = .ok (.aload_n 0, 1) := by decide +kernel
theorem dX5_told_98 : decode cX5_told 98 = .ok (.iload_n 1, 1) := by decide +kernel
theorem dX5_told_99 : decode cX5_told 99 = .ok (.invokevirtual 120, 3) := by decide +kernel
theorem dX5_told_102 : decode cX5_told 102 = .ok (.goto 37, 3) := by decide +kernel
theorem dX5_told_105 : decode cX5_told 105 = .ok (.iload_n 2, 1) := by decide +kernel
theorem dX5_told_106 : decode cX5_told 106 = .ok (.bipush 9, 2) := by decide +kernel
theorem dX5_told_108 : decode cX5_told 108 = .ok (.if_icmp .ne 11, 3) := by decide +kernel
theorem dX5_told_111 : decode cX5_told 111 = .ok (.aload_n 0, 1) := by decide +kernel
theorem dX5_told_112 : decode cX5_told 112 = .ok (.iload_n 1, 1) := by decide +kernel
theorem dX5_told_113 : decode cX5_told 113 = .ok (.invokevirtual 123, 3) := by decide +kernel
theorem dX5_told_116 : decode cX5_told 116 = .ok (.goto 23, 3) := by decide +kernel
theorem dX5_told_119 : decode cX5_told 119 = .ok (.iload_n 2, 1) := by decide +kernel
theorem dX5_told_120 : decode cX5_told 120 = .ok (.bipush 10, 2) := by decide +kernel
theorem dX5_told_122 : decode cX5_told 122 = .ok (.if_icmp .ne 12, 3) := by decide +kernel
theorem dX5_told_125 : decode cX5_told 125 = .ok (.aload_n 0, 1) := by decide +kernel
theorem dX5_told_126 : decode cX5_told 126 = .ok (.getfield 26, 3) := by decide +kernel
theorem dX5_told_129 : decode cX5_told 129 = .ok (.iload_n 1, 1) := by decide +kernel
theorem dX5_told_130 : decode cX5_told 130 = .ok (.iaload, 1) := by decide +kernel
theorem dX5_told_131 : decode cX5_told 131 = .ok (.goto 8, 3) := by decide +kernel
theorem dX5_told_134 : decode cX5_told 134 = .ok (.aload_n 0, 1) := by decide +kernel
theorem dX5_told_135 : decode cX5_told 135 = .ok (.iload_n 1, 1) := by decide +kernel
theorem dX5_told_136 : decode cX5_told 136 = .ok (.invokevirtual 126, 3) := by decide +kernel
theorem dX5_told_139 : decode cX5_told 139 = .ok (.ireturn, 1) := by decide +kernel
theorem dX5_madeBy_0 : decode cX5_madeBy 0 = .ok (.iconst 0, 1) := by decide +kernel
theorem dX5_madeBy_1 : decode cX5_madeBy 1 = .ok (.istore_n 2, 1) := by decide +kernel
theorem dX5_madeBy_2 : decode cX5_madeBy 2 = .ok (.iconst 0, 1) := by decide +kernel
theorem dX5_madeBy_3 : decode cX5_madeBy 3 = .ok (.istore_n 3, 1) := by decide +kernel
theorem dX5_madeBy_4 : decode cX5_madeBy 4 = .ok (.iload_n 3, 1) := by decide +kernel
theorem dX5_madeBy_5 : decode cX5_madeBy 5 = .ok (.bipush 10, 2) := by decide +kernel
theorem dX5_madeBy_7 : decode cX5_madeBy 7 = .ok (.if_icmp .ge 29, 3) := by decide +kernel
theorem dX5_madeBy_10 : decode cX5_madeBy 10 = .ok (.iload_n 2, 1) := by decide +kernel
theorem dX5_madeBy_11 : decode cX5_madeBy 11 = .ok (.aload_n 0, 1) := by decide +kernel
theorem dX5_madeBy_12 : decode cX5_madeBy 12 = .ok (.getfield 26, 3) := by decide +kernel
theorem dX5_madeBy_15 : decode cX5_madeBy 15 = .ok (.iload_n 3, 1) := by decide +kernel
theorem dX5_madeBy_16 : decode cX5_madeBy 16 = .ok (.iaload, 1) := by decide +kernel
theorem dX5_madeBy_17 : decode cX5_madeBy 17 = .ok (.iload_n 1, 1) := by decide +kernel
theorem dX5_madeBy_18 : decode cX5_madeBy 18 = .ok (.if_icmp .ne 7, 3) := by decide +kernel
theorem dX5_madeBy_21 : decode cX5_madeBy 21 = .ok (.iconst 1, 1) := by decide +kernel
theorem dX5_madeBy_22 : decode cX5_madeBy 22 = .ok (.goto 4, 3) := by decide +kernel
theorem dX5_madeBy_25 : decode cX5_madeBy 25 = .ok (.iconst 0, 1) := by decide +kernel
theorem dX5_madeBy_26 : decode cX5_madeBy 26 = .ok (.iload_n 3, 1) := by decide +kernel
theorem dX5_madeBy_27 : decode cX5_madeBy 27 = .ok (.ishl, 1) := by decide +kernel
theorem dX5_madeBy_28 : decode cX5_madeBy 28 = .ok (.ior, 1) := by decide +kernel
theorem dX5_madeBy_29 : decode cX5_madeBy 29 = .ok (.istore_n 2, 1) := by decide +kernel
theorem dX5_madeBy_30 : decode cX5_madeBy 30 = .ok (.iinc 3 1, 3) := by decide +kernel
theorem dX5_madeBy_33 : decode cX5_madeBy 33 = .ok (.goto (-29), 3) := by decide +kernel
theorem dX5_madeBy_36 : decode cX5_madeBy 36 = .ok (.iload_n 2, 1) := by decide +kernel
theorem dX5_madeBy_37 : decode cX5_madeBy 37 = .ok (.ireturn, 1) := by decide +kernel
theorem dX5_bitsOf_0 : decode cX5_bitsOf 0 = .ok (.iconst 0, 1) := by decide +kernel
theorem dX5_bitsOf_1 : decode cX5_bitsOf 1 = .ok (.istore_n 1, 1) := by decide +kernel
theorem dX5_bitsOf_2 : decode cX5_bitsOf 2 = .ok (.iload_n 0, 1) := by decide +kernel
theorem dX5_bitsOf_3 : decode cX5_bitsOf 3 = .ok (.istore_n 2, 1) := by decide +kernel
theorem dX5_bitsOf_4 : decode cX5_bitsOf 4 = .ok (.iload_n 2, 1) := by decide +kernel
theorem dX5_bitsOf_5 : decode cX5_bitsOf 5 = .ok (.ifCond .eq 15, 3) := by decide +kernel
theorem dX5_bitsOf_8 : decode cX5_bitsOf 8 = .ok (.iinc 1 1, 3) := by decide +kernel
theorem dX5_bitsOf_11 : decode cX5_bitsOf 11 = .ok (.iload_n 2, 1) := by decide +kernel
theorem dX5_bitsOf_12 : decode cX5_bitsOf 12 = .ok (.iload_n 2, 1) := by decide +kernel
theorem dX5_bitsOf_13 : decode cX5_bitsOf 13 = .ok (.iconst 1, 1) := by decide +kernel
theorem dX5_bitsOf_14 : decode cX5_bitsOf 14 = .ok (.isub, 1) := by decide +kernel
theorem dX5_bitsOf_15 : decode cX5_bitsOf 15 = .ok (.iand, 1) := by decide +kernel
theorem dX5_bitsOf_16 : decode cX5_bitsOf 16 = .ok (.istore_n 2, 1) := by decide +kernel
theorem dX5_bitsOf_17 : decode cX5_bitsOf 17 = .ok (.goto (-13), 3) := by decide +kernel
theorem dX5_bitsOf_20 : decode cX5_bitsOf 20 = .ok (.iload_n 1, 1) := by decide +kernel
theorem dX5_bitsOf_21 : decode cX5_bitsOf 21 = .ok (.ireturn, 1) := by decide +kernel
theorem dX5_isAt_0 : decode cX5_isAt 0 = .ok (.aload_n 0, 1) := by decide +kernel
theorem dX5_isAt_1 : decode cX5_isAt 1 = .ok (.getfield 32, 3) := by decide +kernel
theorem dX5_isAt_4 : decode cX5_isAt 4 = .ok (.iconst 4, 1) := by decide +kernel
theorem dX5_isAt_5 : decode cX5_isAt 5 = .ok (.iload_n 1, 1) := by decide +kernel
theorem dX5_isAt_6 : decode cX5_isAt 6 = .ok (.imul, 1) := by decide +kernel
theorem dX5_isAt_7 : decode cX5_isAt 7 = .ok (.iconst 3, 1) := by decide +kernel
theorem dX5_isAt_8 : decode cX5_isAt 8 = .ok (.iadd, 1) := by decide +kernel
theorem dX5_isAt_9 : decode cX5_isAt 9 = .ok (.iaload, 1) := by decide +kernel
theorem dX5_isAt_10 : decode cX5_isAt 10 = .ok (.iload_n 2, 1) := by decide +kernel
theorem dX5_isAt_11 : decode cX5_isAt 11 = .ok (.if_icmp .ne 7, 3) := by decide +kernel
theorem dX5_isAt_14 : decode cX5_isAt 14 = .ok (.iconst 1, 1) := by decide +kernel
theorem dX5_isAt_15 : decode cX5_isAt 15 = .ok (.goto 4, 3) := by decide +kernel
theorem dX5_isAt_18 : decode cX5_isAt 18 = .ok (.iconst 0, 1) := by decide +kernel
theorem dX5_isAt_19 : decode cX5_isAt 19 = .ok (.ireturn, 1) := by decide +kernel
theorem dX5_whoIs_0 : decode cX5_whoIs 0 = .ok (.iconst 0, 1) := by decide +kernel
theorem dX5_whoIs_1 : decode cX5_whoIs 1 = .ok (.istore_n 2, 1) := by decide +kernel
theorem dX5_whoIs_2 : decode cX5_whoIs 2 = .ok (.iconst 0, 1) := by decide +kernel
theorem dX5_whoIs_3 : decode cX5_whoIs 3 = .ok (.istore_n 3, 1) := by decide +kernel
theorem dX5_whoIs_4 : decode cX5_whoIs 4 = .ok (.iload_n 3, 1) := by decide +kernel
theorem dX5_whoIs_5 : decode cX5_whoIs 5 = .ok (.aload_n 0, 1) := by decide +kernel
theorem dX5_whoIs_6 : decode cX5_whoIs 6 = .ok (.getfield 73, 3) := by decide +kernel
theorem dX5_whoIs_9 : decode cX5_whoIs 9 = .ok (.if_icmp .ge 28, 3) := by decide +kernel
theorem dX5_whoIs_12 : decode cX5_whoIs 12 = .ok (.iload_n 2, 1) := by decide +kernel
theorem dX5_whoIs_13 : decode cX5_whoIs 13 = .ok (.aload_n 0, 1) := by decide +kernel
theorem dX5_whoIs_14 : decode cX5_whoIs 14 = .ok (.iload_n 3, 1) := by decide +kernel
theorem dX5_whoIs_15 : decode cX5_whoIs 15 = .ok (.iload_n 1, 1) := by decide +kernel
theorem dX5_whoIs_16 : decode cX5_whoIs 16 = .ok (.invokevirtual 129, 3) := by decide +kernel
theorem dX5_whoIs_19 : decode cX5_whoIs 19 = .ok (.ifCond .eq 7, 3) := by decide +kernel
theorem dX5_whoIs_22 : decode cX5_whoIs 22 = .ok (.iconst 1, 1) := by decide +kernel
theorem dX5_whoIs_23 : decode cX5_whoIs 23 = .ok (.goto 4, 3) := by decide +kernel
theorem dX5_whoIs_26 : decode cX5_whoIs 26 = .ok (.iconst 0, 1) := by decide +kernel
theorem dX5_whoIs_27 : decode cX5_whoIs 27 = .ok (.iload_n 3, 1) := by decide +kernel
theorem dX5_whoIs_28 : decode cX5_whoIs 28 = .ok (.ishl, 1) := by decide +kernel
theorem dX5_whoIs_29 : decode cX5_whoIs 29 = .ok (.ior, 1) := by decide +kernel
theorem dX5_whoIs_30 : decode cX5_whoIs 30 = .ok (.istore_n 2, 1) := by decide +kernel
theorem dX5_whoIs_31 : decode cX5_whoIs 31 = .ok (.iinc 3 1, 3) := by decide +kernel
theorem dX5_whoIs_34 : decode cX5_whoIs 34 = .ok (.goto (-30), 3) := by decide +kernel
theorem dX5_whoIs_37 : decode cX5_whoIs 37 = .ok (.iload_n 2, 1) := by decide +kernel
theorem dX5_whoIs_38 : decode cX5_whoIs 38 = .ok (.ireturn, 1) := by decide +kernel
theorem dX5_feed_0 : decode cX5_feed 0 = .ok (.iload_n 1, 1) := by decide +kernel
theorem dX5_feed_1 : decode cX5_feed 1 = .ok (.i2l, 1) := by decide +kernel
theorem dX5_feed_2 : decode cX5_feed 2 = .ok (.lconst 0, 1) := by decide +kernel
theorem dX5_feed_3 : decode cX5_feed 3 = .ok (.ldc2_w 132, 3) := by decide +kernel
theorem dX5_feed_6 : decode cX5_feed 6 = .ok (.invokestatic 76, 3) := by decide +kernel
theorem dX5_feed_9 : decode cX5_feed 9 = .ok (.ifCond .ne 6, 3) := by decide +kernel
theorem dX5_feed_12 : decode cX5_feed 12 = .ok (.bipush (-2), 2) := by decide +kernel
theorem dX5_feed_14 : decode cX5_feed 14 = .ok (.ireturn, 1) := by decide +kernel
theorem dX5_feed_15 : decode cX5_feed 15 = .ok (.aload_n 0, 1) := by decide +kernel
theorem dX5_feed_16 : decode cX5_feed 16 = .ok (.getfield 134, 3) := by decide +kernel
theorem dX5_feed_19 : decode cX5_feed 19 = .ok (.sipush 160, 3) := by decide +kernel
theorem dX5_feed_22 : decode cX5_feed 22 = .ok (.if_icmp .ne 6, 3) := by decide +kernel
theorem dX5_feed_25 : decode cX5_feed 25 = .ok (.bipush (-4), 2) := by decide +kernel
theorem dX5_feed_27 : decode cX5_feed 27 = .ok (.ireturn, 1) := by decide +kernel
theorem dX5_feed_28 : decode cX5_feed 28 = .ok (.aload_n 0, 1) := by decide +kernel
theorem dX5_feed_29 : decode cX5_feed 29 = .ok (.getfield 20, 3) := by decide +kernel
theorem dX5_feed_32 : decode cX5_feed 32 = .ok (.aload_n 0, 1) := by decide +kernel
theorem dX5_feed_33 : decode cX5_feed 33 = .ok (.getfield 134, 3) := by decide +kernel
theorem dX5_feed_36 : decode cX5_feed 36 = .ok (.iload_n 1, 1) := by decide +kernel
theorem dX5_feed_37 : decode cX5_feed 37 = .ok (.iastore, 1) := by decide +kernel
theorem dX5_feed_38 : decode cX5_feed 38 = .ok (.aload_n 0, 1) := by decide +kernel
theorem dX5_feed_39 : decode cX5_feed 39 = .ok (.dup, 1) := by decide +kernel
theorem dX5_feed_40 : decode cX5_feed 40 = .ok (.getfield 134, 3) := by decide +kernel
theorem dX5_feed_43 : decode cX5_feed 43 = .ok (.iconst 1, 1) := by decide +kernel
theorem dX5_feed_44 : decode cX5_feed 44 = .ok (.iadd, 1) := by decide +kernel
theorem dX5_feed_45 : decode cX5_feed 45 = .ok (.putfield 134, 3) := by decide +kernel
theorem dX5_feed_48 : decode cX5_feed 48 = .ok (.aload_n 0, 1) := by decide +kernel
theorem dX5_feed_49 : decode cX5_feed 49 = .ok (.getfield 134, 3) := by decide +kernel
theorem dX5_feed_52 : decode cX5_feed 52 = .ok (.ireturn, 1) := by decide +kernel
theorem dX5_byteAt_0 : decode cX5_byteAt 0 = .ok (.iload_n 1, 1) := by decide +kernel
theorem dX5_byteAt_1 : decode cX5_byteAt 1 = .ok (.aload_n 0, 1) := by decide +kernel
theorem dX5_byteAt_2 : decode cX5_byteAt 2 = .ok (.getfield 137, 3) := by decide +kernel
theorem dX5_byteAt_5 : decode cX5_byteAt 5 = .ok (.if_icmp .ge 17, 3) := by decide +kernel
theorem dX5_byteAt_8 : decode cX5_byteAt 8 = .ok (.aload_n 0, 1) := by decide +kernel
theorem dX5_byteAt_9 : decode cX5_byteAt 9 = .ok (.getfield 13, 3) := by decide +kernel
theorem dX5_byteAt_12 : decode cX5_byteAt 12 = .ok (.aload_n 0, 1) := by decide +kernel
theorem dX5_byteAt_13 : decode cX5_byteAt 13 = .ok (.getfield 140, 3) := by decide +kernel
theorem dX5_byteAt_16 : decode cX5_byteAt 16 = .ok (.iload_n 1, 1) := by decide +kernel
theorem dX5_byteAt_17 : decode cX5_byteAt 17 = .ok (.iadd, 1) := by decide +kernel
theorem dX5_byteAt_18 : decode cX5_byteAt 18 = .ok (.iaload, 1) := by decide +kernel
theorem dX5_byteAt_19 : decode cX5_byteAt 19 = .ok (.goto 4, 3) := by decide +kernel
theorem dX5_byteAt_22 : decode cX5_byteAt 22 = .ok (.iconst (-1), 1) := by decide +kernel
theorem dX5_byteAt_23 : decode cX5_byteAt 23 = .ok (.ireturn, 1) := by decide +kernel
theorem dX5_next_0 : decode cX5_next 0 = .ok (.aload_n 0, 1) := by decide +kernel
theorem dX5_next_1 : decode cX5_next 1 = .ok (.aload_n 0, 1) := by decide +kernel
theorem dX5_next_2 : decode cX5_next 2 = .ok (.getfield 143, 3) := by decide +kernel
theorem dX5_next_5 : decode cX5_next 5 = .ok (.invokevirtual 146, 3) := by decide +kernel
theorem dX5_next_8 : decode cX5_next 8 = .ok (.bipush 32, 2) := by decide +kernel
theorem dX5_next_10 : decode cX5_next 10 = .ok (.if_icmp .eq 16, 3) := by decide +kernel
theorem dX5_next_13 : decode cX5_next 13 = .ok (.aload_n 0, 1) := by decide +kernel
theorem dX5_next_14 : decode cX5_next 14 = .ok (.aload_n 0, 1) := by decide +kernel
theorem dX5_next_15 : decode cX5_next 15 = .ok (.getfield 143, 3) := by decide +kernel
theorem dX5_next_18 : decode cX5_next 18 = .ok (.invokevirtual 146, 3) := by decide +kernel
theorem dX5_next_21 : decode cX5_next 21 = .ok (.bipush 10, 2) := by decide +kernel
theorem dX5_next_23 : decode cX5_next 23 = .ok (.if_icmp .ne 16, 3) := by decide +kernel
theorem dX5_next_26 : decode cX5_next 26 = .ok (.aload_n 0, 1) := by decide +kernel
theorem dX5_next_27 : decode cX5_next 27 = .ok (.dup, 1) := by decide +kernel
theorem dX5_next_28 : decode cX5_next 28 = .ok (.getfield 143, 3) := by decide +kernel
theorem dX5_next_31 : decode cX5_next 31 = .ok (.iconst 1, 1) := by decide +kernel
theorem dX5_next_32 : decode cX5_next 32 = .ok (.iadd, 1) := by decide +kernel
theorem dX5_next_33 : decode cX5_next 33 = .ok (.putfield 143, 3) := by decide +kernel
theorem dX5_next_36 : decode cX5_next 36 = .ok (.goto (-36), 3) := by decide +kernel
theorem dX5_next_39 : decode cX5_next 39 = .ok (.aload_n 0, 1) := by decide +kernel
theorem dX5_next_40 : decode cX5_next 40 = .ok (.aload_n 0, 1) := by decide +kernel
theorem dX5_next_41 : decode cX5_next 41 = .ok (.getfield 143, 3) := by decide +kernel
theorem dX5_next_44 : decode cX5_next 44 = .ok (.putfield 149, 3) := by decide +kernel
theorem dX5_next_47 : decode cX5_next 47 = .ok (.aload_n 0, 1) := by decide +kernel
theorem dX5_next_48 : decode cX5_next 48 = .ok (.aload_n 0, 1) := by decide +kernel
theorem dX5_next_49 : decode cX5_next 49 = .ok (.getfield 143, 3) := by decide +kernel
theorem dX5_next_52 : decode cX5_next 52 = .ok (.invokevirtual 146, 3) := by decide +kernel
theorem dX5_next_55 : decode cX5_next 55 = .ok (.istore_n 1, 1) := by decide +kernel
theorem dX5_next_56 : decode cX5_next 56 = .ok (.aload_n 0, 1) := by decide +kernel
theorem dX5_next_57 : decode cX5_next 57 = .ok (.iconst 4, 1) := by decide +kernel
theorem dX5_next_58 : decode cX5_next 58 = .ok (.putfield 152, 3) := by decide +kernel
theorem dX5_next_61 : decode cX5_next 61 = .ok (.iload_n 1, 1) := by decide +kernel
theorem dX5_next_62 : decode cX5_next 62 = .ok (.ifCond .ge 19, 3) := by decide +kernel
theorem dX5_next_65 : decode cX5_next 65 = .ok (.aload_n 0, 1) := by decide +kernel
theorem dX5_next_66 : decode cX5_next 66 = .ok (.iconst 0, 1) := by decide +kernel
theorem dX5_next_67 : decode cX5_next 67 = .ok (.putfield 152, 3) := by decide +kernel
theorem dX5_next_70 : decode cX5_next 70 = .ok (.aload_n 0, 1) := by decide +kernel
theorem dX5_next_71 : decode cX5_next 71 = .ok (.aload_n 0, 1) := by decide +kernel
theorem dX5_next_72 : decode cX5_next 72 = .ok (.getfield 137, 3) := by decide +kernel
theorem dX5_next_75 : decode cX5_next 75 = .ok (.putfield 149, 3) := by decide +kernel
theorem dX5_next_78 : decode cX5_next 78 = .ok (.goto 243, 3) := by decide +kernel
theorem dX5_next_81 : decode cX5_next 81 = .ok (.iload_n 1, 1) := by decide +kernel
theorem dX5_next_82 : decode cX5_next 82 = .ok (.i2l, 1) := by decide +kernel
theorem dX5_next_83 : decode cX5_next 83 = .ok (.ldc2_w 155, 3) := by decide +kernel
theorem dX5_next_86 : decode cX5_next 86 = .ok (.ldc2_w 157, 3) := by decide +kernel
theorem dX5_next_89 : decode cX5_next 89 = .ok (.invokestatic 76, 3) := by decide +kernel
theorem dX5_next_92 : decode cX5_next 92 = .ok (.ifCond .eq 42, 3) := by decide +kernel
theorem dX5_next_95 : decode cX5_next 95 = .ok (.aload_n 0, 1) := by decide +kernel
theorem dX5_next_96 : decode cX5_next 96 = .ok (.iconst 1, 1) := by decide +kernel
theorem dX5_next_97 : decode cX5_next 97 = .ok (.putfield 152, 3) := by decide +kernel
theorem dX5_next_100 : decode cX5_next 100 = .ok (.aload_n 0, 1) := by decide +kernel
theorem dX5_next_101 : decode cX5_next 101 = .ok (.aload_n 0, 1) := by decide +kernel
theorem dX5_next_102 : decode cX5_next 102 = .ok (.getfield 143, 3) := by decide +kernel
theorem dX5_next_105 : decode cX5_next 105 = .ok (.invokevirtual 146, 3) := by decide +kernel
theorem dX5_next_108 : decode cX5_next 108 = .ok (.i2l, 1) := by decide +kernel
theorem dX5_next_109 : decode cX5_next 109 = .ok (.ldc2_w 155, 3) := by decide +kernel
theorem dX5_next_112 : decode cX5_next 112 = .ok (.ldc2_w 157, 3) := by decide +kernel
theorem dX5_next_115 : decode cX5_next 115 = .ok (.invokestatic 76, 3) := by decide +kernel
theorem dX5_next_118 : decode cX5_next 118 = .ok (.ifCond .eq 203, 3) := by decide +kernel
theorem dX5_next_121 : decode cX5_next 121 = .ok (.aload_n 0, 1) := by decide +kernel
theorem dX5_next_122 : decode cX5_next 122 = .ok (.dup, 1) := by decide +kernel
theorem dX5_next_123 : decode cX5_next 123 = .ok (.getfield 143, 3) := by decide +kernel
theorem dX5_next_126 : decode cX5_next 126 = .ok (.iconst 1, 1) := by decide +kernel
theorem dX5_next_127 : decode cX5_next 127 = .ok (.iadd, 1) := by decide +kernel
theorem dX5_next_128 : decode cX5_next 128 = .ok (.putfield 143, 3) := by decide +kernel
theorem dX5_next_131 : decode cX5_next 131 = .ok (.goto (-31), 3) := by decide +kernel
theorem dX5_next_134 : decode cX5_next 134 = .ok (.iload_n 1, 1) := by decide +kernel
theorem dX5_next_135 : decode cX5_next 135 = .ok (.i2l, 1) := by decide +kernel
theorem dX5_next_136 : decode cX5_next 136 = .ok (.ldc2_w 159, 3) := by decide +kernel
theorem dX5_next_139 : decode cX5_next 139 = .ok (.ldc2_w 161, 3) := by decide +kernel
theorem dX5_next_142 : decode cX5_next 142 = .ok (.invokestatic 76, 3) := by decide +kernel
theorem dX5_next_145 : decode cX5_next 145 = .ok (.ifCond .eq 107, 3) := by decide +kernel
theorem dX5_next_148 : decode cX5_next 148 = .ok (.aload_n 0, 1) := by decide +kernel
theorem dX5_next_149 : decode cX5_next 149 = .ok (.iconst 2, 1) := by decide +kernel
theorem dX5_next_150 : decode cX5_next 150 = .ok (.putfield 152, 3) := by decide +kernel
theorem dX5_next_153 : decode cX5_next 153 = .ok (.aload_n 0, 1) := by decide +kernel
theorem dX5_next_154 : decode cX5_next 154 = .ok (.lconst 0, 1) := by decide +kernel
theorem dX5_next_155 : decode cX5_next 155 = .ok (.putfield 163, 3) := by decide +kernel
theorem dX5_next_158 : decode cX5_next 158 = .ok (.iconst 0, 1) := by decide +kernel
theorem dX5_next_159 : decode cX5_next 159 = .ok (.istore_n 2, 1) := by decide +kernel
theorem dX5_next_160 : decode cX5_next 160 = .ok (.aload_n 0, 1) := by decide +kernel
theorem dX5_next_161 : decode cX5_next 161 = .ok (.aload_n 0, 1) := by decide +kernel
theorem dX5_next_162 : decode cX5_next 162 = .ok (.getfield 143, 3) := by decide +kernel
theorem dX5_next_165 : decode cX5_next 165 = .ok (.invokevirtual 146, 3) := by decide +kernel
theorem dX5_next_168 : decode cX5_next 168 = .ok (.i2l, 1) := by decide +kernel
theorem dX5_next_169 : decode cX5_next 169 = .ok (.ldc2_w 159, 3) := by decide +kernel
theorem dX5_next_172 : decode cX5_next 172 = .ok (.ldc2_w 161, 3) := by decide +kernel
theorem dX5_next_175 : decode cX5_next 175 = .ok (.invokestatic 76, 3) := by decide +kernel
theorem dX5_next_178 : decode cX5_next 178 = .ok (.ifCond .eq 57, 3) := by decide +kernel
theorem dX5_next_181 : decode cX5_next 181 = .ok (.aload_n 0, 1) := by decide +kernel
theorem dX5_next_182 : decode cX5_next 182 = .ok (.iload_n 2, 1) := by decide +kernel
theorem dX5_next_183 : decode cX5_next 183 = .ok (.iconst 4, 1) := by decide +kernel
theorem dX5_next_184 : decode cX5_next 184 = .ok (.if_icmp .ge 28, 3) := by decide +kernel
theorem dX5_next_187 : decode cX5_next 187 = .ok (.ldc2_w 167, 3) := by decide +kernel
theorem dX5_next_190 : decode cX5_next 190 = .ok (.aload_n 0, 1) := by decide +kernel
theorem dX5_next_191 : decode cX5_next 191 = .ok (.getfield 163, 3) := by decide +kernel
theorem dX5_next_194 : decode cX5_next 194 = .ok (.lmul, 1) := by decide +kernel
theorem dX5_next_195 : decode cX5_next 195 = .ok (.aload_n 0, 1) := by decide +kernel
theorem dX5_next_196 : decode cX5_next 196 = .ok (.aload_n 0, 1) := by decide +kernel
theorem dX5_next_197 : decode cX5_next 197 = .ok (.getfield 143, 3) := by decide +kernel
theorem dX5_next_200 : decode cX5_next 200 = .ok (.invokevirtual 146, 3) := by decide +kernel
theorem dX5_next_203 : decode cX5_next 203 = .ok (.i2l, 1) := by decide +kernel
theorem dX5_next_204 : decode cX5_next 204 = .ok (.ladd, 1) := by decide +kernel
theorem dX5_next_205 : decode cX5_next 205 = .ok (.ldc2_w 159, 3) := by decide +kernel
theorem dX5_next_208 : decode cX5_next 208 = .ok (.lsub, 1) := by decide +kernel
theorem dX5_next_209 : decode cX5_next 209 = .ok (.goto 7, 3) := by decide +kernel
theorem dX5_next_212 : decode cX5_next 212 = .ok (.aload_n 0, 1) := by decide +kernel
theorem dX5_next_213 : decode cX5_next 213 = .ok (.getfield 163, 3) := by decide +kernel
theorem dX5_next_216 : decode cX5_next 216 = .ok (.putfield 163, 3) := by decide +kernel
theorem dX5_next_219 : decode cX5_next 219 = .ok (.iinc 2 1, 3) := by decide +kernel
theorem dX5_next_222 : decode cX5_next 222 = .ok (.aload_n 0, 1) := by decide +kernel
theorem dX5_next_223 : decode cX5_next 223 = .ok (.dup, 1) := by decide +kernel
theorem dX5_next_224 : decode cX5_next 224 = .ok (.getfield 143, 3) := by decide +kernel
theorem dX5_next_227 : decode cX5_next 227 = .ok (.iconst 1, 1) := by decide +kernel
theorem dX5_next_228 : decode cX5_next 228 = .ok (.iadd, 1) := by decide +kernel
theorem dX5_next_229 : decode cX5_next 229 = .ok (.putfield 143, 3) := by decide +kernel
theorem dX5_next_232 : decode cX5_next 232 = .ok (.goto (-72), 3) := by decide +kernel
theorem dX5_next_235 : decode cX5_next 235 = .ok (.aload_n 0, 1) := by decide +kernel
theorem dX5_next_236 : decode cX5_next 236 = .ok (.iload_n 2, 1) := by decide +kernel
theorem dX5_next_237 : decode cX5_next 237 = .ok (.iconst 4, 1) := by decide +kernel
theorem dX5_next_238 : decode cX5_next 238 = .ok (.if_icmp .le 7, 3) := by decide +kernel
theorem dX5_next_241 : decode cX5_next 241 = .ok (.iconst 4, 1) := by decide +kernel
theorem dX5_next_242 : decode cX5_next 242 = .ok (.goto 4, 3) := by decide +kernel
theorem dX5_next_245 : decode cX5_next 245 = .ok (.iconst 2, 1) := by decide +kernel
theorem dX5_next_246 : decode cX5_next 246 = .ok (.putfield 152, 3) := by decide +kernel
theorem dX5_next_249 : decode cX5_next 249 = .ok (.goto 72, 3) := by decide +kernel
theorem dX5_next_252 : decode cX5_next 252 = .ok (.iload_n 1, 1) := by decide +kernel
theorem dX5_next_253 : decode cX5_next 253 = .ok (.bipush 40, 2) := by decide +kernel
theorem dX5_next_255 : decode cX5_next 255 = .ok (.if_icmp .eq 45, 3) := by decide +kernel
theorem dX5_next_258 : decode cX5_next 258 = .ok (.iload_n 1, 1) := by decide +kernel
theorem dX5_next_259 : decode cX5_next 259 = .ok (.bipush 41, 2) := by decide +kernel
theorem dX5_next_261 : decode cX5_next 261 = .ok (.if_icmp .eq 39, 3) := by decide +kernel
theorem dX5_next_264 : decode cX5_next 264 = .ok (.iload_n 1, 1) := by decide +kernel
theorem dX5_next_265 : decode cX5_next 265 = .ok (.bipush 59, 2) := by decide +kernel
theorem dX5_next_267 : decode cX5_next 267 = .ok (.if_icmp .eq 33, 3) := by decide +kernel
theorem dX5_next_270 : decode cX5_next 270 = .ok (.iload_n 1, 1) := by decide +kernel
theorem dX5_next_271 : decode cX5_next 271 = .ok (.bipush 43, 2) := by decide +kernel
theorem dX5_next_273 : decode cX5_next 273 = .ok (.if_icmp .eq 27, 3) := by decide +kernel
theorem dX5_next_276 : decode cX5_next 276 = .ok (.iload_n 1, 1) := by decide +kernel
theorem dX5_next_277 : decode cX5_next 277 = .ok (.bipush 45, 2) := by decide +kernel
theorem dX5_next_279 : decode cX5_next 279 = .ok (.if_icmp .eq 21, 3) := by decide +kernel
theorem dX5_next_282 : decode cX5_next 282 = .ok (.iload_n 1, 1) := by decide +kernel
theorem dX5_next_283 : decode cX5_next 283 = .ok (.bipush 42, 2) := by decide +kernel
theorem dX5_next_285 : decode cX5_next 285 = .ok (.if_icmp .eq 15, 3) := by decide +kernel
theorem dX5_next_288 : decode cX5_next 288 = .ok (.iload_n 1, 1) := by decide +kernel
theorem dX5_next_289 : decode cX5_next 289 = .ok (.bipush 60, 2) := by decide +kernel
theorem dX5_next_291 : decode cX5_next 291 = .ok (.if_icmp .eq 9, 3) := by decide +kernel
theorem dX5_next_294 : decode cX5_next 294 = .ok (.iload_n 1, 1) := by decide +kernel
theorem dX5_next_295 : decode cX5_next 295 = .ok (.bipush 61, 2) := by decide +kernel
theorem dX5_next_297 : decode cX5_next 297 = .ok (.if_icmp .ne 24, 3) := by decide +kernel
theorem dX5_next_300 : decode cX5_next 300 = .ok (.aload_n 0, 1) := by decide +kernel
theorem dX5_next_301 : decode cX5_next 301 = .ok (.iconst 3, 1) := by decide +kernel
theorem dX5_next_302 : decode cX5_next 302 = .ok (.putfield 152, 3) := by decide +kernel
theorem dX5_next_305 : decode cX5_next 305 = .ok (.aload_n 0, 1) := by decide +kernel
theorem dX5_next_306 : decode cX5_next 306 = .ok (.iload_n 1, 1) := by decide +kernel
theorem dX5_next_307 : decode cX5_next 307 = .ok (.i2l, 1) := by decide +kernel
theorem dX5_next_308 : decode cX5_next 308 = .ok (.putfield 163, 3) := by decide +kernel
theorem dX5_next_311 : decode cX5_next 311 = .ok (.aload_n 0, 1) := by decide +kernel
theorem dX5_next_312 : decode cX5_next 312 = .ok (.dup, 1) := by decide +kernel
theorem dX5_next_313 : decode cX5_next 313 = .ok (.getfield 143, 3) := by decide +kernel
theorem dX5_next_316 : decode cX5_next 316 = .ok (.iconst 1, 1) := by decide +kernel
theorem dX5_next_317 : decode cX5_next 317 = .ok (.iadd, 1) := by decide +kernel
theorem dX5_next_318 : decode cX5_next 318 = .ok (.putfield 143, 3) := by decide +kernel
theorem dX5_next_321 : decode cX5_next 321 = .ok (.return_, 1) := by decide +kernel
theorem dX5_fail_0 : decode cX5_fail 0 = .ok (.aload_n 0, 1) := by decide +kernel
theorem dX5_fail_1 : decode cX5_fail 1 = .ok (.getfield 169, 3) := by decide +kernel
theorem dX5_fail_4 : decode cX5_fail 4 = .ok (.ifCond .ne 16, 3) := by decide +kernel
theorem dX5_fail_7 : decode cX5_fail 7 = .ok (.aload_n 0, 1) := by decide +kernel
theorem dX5_fail_8 : decode cX5_fail 8 = .ok (.iconst 1, 1) := by decide +kernel
theorem dX5_fail_9 : decode cX5_fail 9 = .ok (.putfield 169, 3) := by decide +kernel
theorem dX5_fail_12 : decode cX5_fail 12 = .ok (.aload_n 0, 1) := by decide +kernel
theorem dX5_fail_13 : decode cX5_fail 13 = .ok (.aload_n 0, 1) := by decide +kernel
theorem dX5_fail_14 : decode cX5_fail 14 = .ok (.getfield 149, 3) := by decide +kernel
theorem dX5_fail_17 : decode cX5_fail 17 = .ok (.putfield 173, 3) := by decide +kernel
theorem dX5_fail_20 : decode cX5_fail 20 = .ok (.return_, 1) := by decide +kernel
theorem dX5_isLetter_0 : decode cX5_isLetter 0 = .ok (.aload_n 0, 1) := by decide +kernel
theorem dX5_isLetter_1 : decode cX5_isLetter 1 = .ok (.getfield 149, 3) := by decide +kernel
theorem dX5_isLetter_4 : decode cX5_isLetter 4 = .ok (.iload_n 1, 1) := by decide +kernel
theorem dX5_isLetter_5 : decode cX5_isLetter 5 = .ok (.iadd, 1) := by decide +kernel
theorem dX5_isLetter_6 : decode cX5_isLetter 6 = .ok (.aload_n 0, 1) := by decide +kernel
theorem dX5_isLetter_7 : decode cX5_isLetter 7 = .ok (.getfield 143, 3) := by decide +kernel
theorem dX5_isLetter_10 : decode cX5_isLetter 10 = .ok (.if_icmp .ge 25, 3) := by decide +kernel
theorem dX5_isLetter_13 : decode cX5_isLetter 13 = .ok (.aload_n 0, 1) := by decide +kernel
theorem dX5_isLetter_14 : decode cX5_isLetter 14 = .ok (.aload_n 0, 1) := by decide +kernel
theorem dX5_isLetter_15 : decode cX5_isLetter 15 = .ok (.getfield 149, 3) := by decide +kernel
theorem dX5_isLetter_18 : decode cX5_isLetter 18 = .ok (.iload_n 1, 1) := by decide +kernel
theorem dX5_isLetter_19 : decode cX5_isLetter 19 = .ok (.iadd, 1) := by decide +kernel
theorem dX5_isLetter_20 : decode cX5_isLetter 20 = .ok (.invokevirtual 146, 3) := by decide +kernel
theorem dX5_isLetter_23 : decode cX5_isLetter 23 = .ok (.iload_n 2, 1) := by decide +kernel
theorem dX5_isLetter_24 : decode cX5_isLetter 24 = .ok (.if_icmp .ne 7, 3) := by decide +kernel
theorem dX5_isLetter_27 : decode cX5_isLetter 27 = .ok (.iconst 1, 1) := by decide +kernel
theorem dX5_isLetter_28 : decode cX5_isLetter 28 = .ok (.goto 16, 3) := by decide +kernel
theorem dX5_isLetter_31 : decode cX5_isLetter 31 = .ok (.iconst 0, 1) := by decide +kernel
theorem dX5_isLetter_32 : decode cX5_isLetter 32 = .ok (.goto 12, 3) := by decide +kernel
theorem dX5_isLetter_35 : decode cX5_isLetter 35 = .ok (.iload_n 2, 1) := by decide +kernel
theorem dX5_isLetter_36 : decode cX5_isLetter 36 = .ok (.ifCond .ne 7, 3) := by decide +kernel
theorem dX5_isLetter_39 : decode cX5_isLetter 39 = .ok (.iconst 1, 1) := by decide +kernel
theorem dX5_isLetter_40 : decode cX5_isLetter 40 = .ok (.goto 4, 3) := by decide +kernel
theorem dX5_isLetter_43 : decode cX5_isLetter 43 = .ok (.iconst 0, 1) := by decide +kernel
theorem dX5_isLetter_44 : decode cX5_isLetter 44 = .ok (.ireturn, 1) := by decide +kernel
theorem dX5_isWord_0 : decode cX5_isWord 0 = .ok (.aload_n 0, 1) := by decide +kernel
theorem dX5_isWord_1 : decode cX5_isWord 1 = .ok (.getfield 169, 3) := by decide +kernel
theorem dX5_isWord_4 : decode cX5_isWord 4 = .ok (.ifCond .ne 108, 3) := by decide +kernel
theorem dX5_isWord_7 : decode cX5_isWord 7 = .ok (.aload_n 0, 1) := by decide +kernel
theorem dX5_isWord_8 : decode cX5_isWord 8 = .ok (.getfield 152, 3) := by decide +kernel
theorem dX5_isWord_11 : decode cX5_isWord 11 = .ok (.iconst 1, 1) := by decide +kernel
theorem dX5_isWord_12 : decode cX5_isWord 12 = .ok (.if_icmp .ne 100, 3) := by decide +kernel
theorem dX5_isWord_15 : decode cX5_isWord 15 = .ok (.aload_n 0, 1) := by decide +kernel
theorem dX5_isWord_16 : decode cX5_isWord 16 = .ok (.getfield 143, 3) := by decide +kernel
theorem dX5_isWord_19 : decode cX5_isWord 19 = .ok (.aload_n 0, 1) := by decide +kernel
theorem dX5_isWord_20 : decode cX5_isWord 20 = .ok (.getfield 149, 3) := by decide +kernel
theorem dX5_isWord_23 : decode cX5_isWord 23 = .ok (.bipush 8, 2) := by decide +kernel
theorem dX5_isWord_25 : decode cX5_isWord 25 = .ok (.iadd, 1) := by decide +kernel
theorem dX5_isWord_26 : decode cX5_isWord 26 = .ok (.if_icmp .gt 86, 3) := by decide +kernel
theorem dX5_isWord_29 : decode cX5_isWord 29 = .ok (.aload_n 0, 1) := by decide +kernel
theorem dX5_isWord_30 : decode cX5_isWord 30 = .ok (.iconst 0, 1) := by decide +kernel
theorem dX5_isWord_31 : decode cX5_isWord 31 = .ok (.iload_n 1, 1) := by decide +kernel
theorem dX5_isWord_32 : decode cX5_isWord 32 = .ok (.invokevirtual 176, 3) := by decide +kernel
theorem dX5_isWord_35 : decode cX5_isWord 35 = .ok (.ifCond .eq 77, 3) := by decide +kernel
theorem dX5_isWord_38 : decode cX5_isWord 38 = .ok (.aload_n 0, 1) := by decide +kernel
theorem dX5_isWord_39 : decode cX5_isWord 39 = .ok (.iconst 1, 1) := by decide +kernel
theorem dX5_isWord_40 : decode cX5_isWord 40 = .ok (.iload_n 2, 1) := by decide +kernel
theorem dX5_isWord_41 : decode cX5_isWord 41 = .ok (.invokevirtual 176, 3) := by decide +kernel
theorem dX5_isWord_44 : decode cX5_isWord 44 = .ok (.ifCond .eq 68, 3) := by decide +kernel
theorem dX5_isWord_47 : decode cX5_isWord 47 = .ok (.aload_n 0, 1) := by decide +kernel
theorem dX5_isWord_48 : decode cX5_isWord 48 = .ok (.iconst 2, 1) := by decide +kernel
theorem dX5_isWord_49 : decode cX5_isWord 49 = .ok (.iload_n 3, 1) := by decide +kernel
theorem dX5_isWord_50 : decode cX5_isWord 50 = .ok (.invokevirtual 176, 3) := by decide +kernel
theorem dX5_isWord_53 : decode cX5_isWord 53 = .ok (.ifCond .eq 59, 3) := by decide +kernel
theorem dX5_isWord_56 : decode cX5_isWord 56 = .ok (.aload_n 0, 1) := by decide +kernel
theorem dX5_isWord_57 : decode cX5_isWord 57 = .ok (.iconst 3, 1) := by decide +kernel
theorem dX5_isWord_58 : decode cX5_isWord 58 = .ok (.iload 4, 2) := by decide +kernel
theorem dX5_isWord_60 : decode cX5_isWord 60 = .ok (.invokevirtual 176, 3) := by decide +kernel
theorem dX5_isWord_63 : decode cX5_isWord 63 = .ok (.ifCond .eq 49, 3) := by decide +kernel
theorem dX5_isWord_66 : decode cX5_isWord 66 = .ok (.aload_n 0, 1) := by decide +kernel
theorem dX5_isWord_67 : decode cX5_isWord 67 = .ok (.iconst 4, 1) := by decide +kernel
theorem dX5_isWord_68 : decode cX5_isWord 68 = .ok (.iload 5, 2) := by decide +kernel
theorem dX5_isWord_70 : decode cX5_isWord 70 = .ok (.invokevirtual 176, 3) := by decide +kernel
theorem dX5_isWord_73 : decode cX5_isWord 73 = .ok (.ifCond .eq 39, 3) := by decide +kernel
theorem dX5_isWord_76 : decode cX5_isWord 76 = .ok (.aload_n 0, 1) := by decide +kernel
theorem dX5_isWord_77 : decode cX5_isWord 77 = .ok (.iconst 5, 1) := by decide +kernel
theorem dX5_isWord_78 : decode cX5_isWord 78 = .ok (.iload 6, 2) := by decide +kernel
theorem dX5_isWord_80 : decode cX5_isWord 80 = .ok (.invokevirtual 176, 3) := by decide +kernel
theorem dX5_isWord_83 : decode cX5_isWord 83 = .ok (.ifCond .eq 29, 3) := by decide +kernel
theorem dX5_isWord_86 : decode cX5_isWord 86 = .ok (.aload_n 0, 1) := by decide +kernel
theorem dX5_isWord_87 : decode cX5_isWord 87 = .ok (.bipush 6, 2) := by decide +kernel
theorem dX5_isWord_89 : decode cX5_isWord 89 = .ok (.iload 7, 2) := by decide +kernel
theorem dX5_isWord_91 : decode cX5_isWord 91 = .ok (.invokevirtual 176, 3) := by decide +kernel
theorem dX5_isWord_94 : decode cX5_isWord 94 = .ok (.ifCond .eq 18, 3) := by decide +kernel
theorem dX5_isWord_97 : decode cX5_isWord 97 = .ok (.aload_n 0, 1) := by decide +kernel
theorem dX5_isWord_98 : decode cX5_isWord 98 = .ok (.bipush 7, 2) := by decide +kernel
theorem dX5_isWord_100 : decode cX5_isWord 100 = .ok (.iload 8, 2) := by decide +kernel
theorem dX5_isWord_102 : decode cX5_isWord 102 = .ok (.invokevirtual 176, 3) := by decide +kernel
theorem dX5_isWord_105 : decode cX5_isWord 105 = .ok (.ifCond .eq 7, 3) := by decide +kernel
theorem dX5_isWord_108 : decode cX5_isWord 108 = .ok (.iconst 1, 1) := by decide +kernel
theorem dX5_isWord_109 : decode cX5_isWord 109 = .ok (.goto 4, 3) := by decide +kernel
theorem dX5_isWord_112 : decode cX5_isWord 112 = .ok (.iconst 0, 1) := by decide +kernel
theorem dX5_isWord_113 : decode cX5_isWord 113 = .ok (.ireturn, 1) := by decide +kernel
theorem dX5_isSign_0 : decode cX5_isSign 0 = .ok (.aload_n 0, 1) := by decide +kernel
theorem dX5_isSign_1 : decode cX5_isSign 1 = .ok (.getfield 169, 3) := by decide +kernel
theorem dX5_isSign_4 : decode cX5_isSign 4 = .ok (.ifCond .ne 25, 3) := by decide +kernel
theorem dX5_isSign_7 : decode cX5_isSign 7 = .ok (.aload_n 0, 1) := by decide +kernel
theorem dX5_isSign_8 : decode cX5_isSign 8 = .ok (.getfield 152, 3) := by decide +kernel
theorem dX5_isSign_11 : decode cX5_isSign 11 = .ok (.iconst 3, 1) := by decide +kernel
theorem dX5_isSign_12 : decode cX5_isSign 12 = .ok (.if_icmp .ne 17, 3) := by decide +kernel
theorem dX5_isSign_15 : decode cX5_isSign 15 = .ok (.aload_n 0, 1) := by decide +kernel
theorem dX5_isSign_16 : decode cX5_isSign 16 = .ok (.getfield 163, 3) := by decide +kernel
theorem dX5_isSign_19 : decode cX5_isSign 19 = .ok (.iload_n 1, 1) := by decide +kernel
theorem dX5_isSign_20 : decode cX5_isSign 20 = .ok (.i2l, 1) := by decide +kernel
theorem dX5_isSign_21 : decode cX5_isSign 21 = .ok (.lcmp, 1) := by decide +kernel
theorem dX5_isSign_22 : decode cX5_isSign 22 = .ok (.ifCond .ne 7, 3) := by decide +kernel
theorem dX5_isSign_25 : decode cX5_isSign 25 = .ok (.iconst 1, 1) := by decide +kernel
theorem dX5_isSign_26 : decode cX5_isSign 26 = .ok (.goto 4, 3) := by decide +kernel
theorem dX5_isSign_29 : decode cX5_isSign 29 = .ok (.iconst 0, 1) := by decide +kernel
theorem dX5_isSign_30 : decode cX5_isSign 30 = .ok (.ireturn, 1) := by decide +kernel
theorem dX5_opens_0 : decode cX5_opens 0 = .ok (.aload_n 0, 1) := by decide +kernel
theorem dX5_opens_1 : decode cX5_opens 1 = .ok (.getfield 179, 3) := by decide +kernel
theorem dX5_opens_4 : decode cX5_opens 4 = .ok (.iconst 5, 1) := by decide +kernel
theorem dX5_opens_5 : decode cX5_opens 5 = .ok (.if_icmp .ne 9, 3) := by decide +kernel
theorem dX5_opens_8 : decode cX5_opens 8 = .ok (.aload_n 0, 1) := by decide +kernel
theorem dX5_opens_9 : decode cX5_opens 9 = .ok (.invokevirtual 182, 3) := by decide +kernel
theorem dX5_opens_12 : decode cX5_opens 12 = .ok (.iconst 0, 1) := by decide +kernel
theorem dX5_opens_13 : decode cX5_opens 13 = .ok (.ireturn, 1) := by decide +kernel
theorem dX5_opens_14 : decode cX5_opens 14 = .ok (.aload_n 0, 1) := by decide +kernel
theorem dX5_opens_15 : decode cX5_opens 15 = .ok (.dup, 1) := by decide +kernel
theorem dX5_opens_16 : decode cX5_opens 16 = .ok (.getfield 179, 3) := by decide +kernel
theorem dX5_opens_19 : decode cX5_opens 19 = .ok (.iconst 1, 1) := by decide +kernel
theorem dX5_opens_20 : decode cX5_opens 20 = .ok (.iadd, 1) := by decide +kernel
theorem dX5_opens_21 : decode cX5_opens 21 = .ok (.putfield 179, 3) := by decide +kernel
theorem dX5_opens_24 : decode cX5_opens 24 = .ok (.aload_n 0, 1) := by decide +kernel
theorem dX5_opens_25 : decode cX5_opens 25 = .ok (.invokevirtual 185, 3) := by decide +kernel
theorem dX5_opens_28 : decode cX5_opens 28 = .ok (.iconst 1, 1) := by decide +kernel
theorem dX5_opens_29 : decode cX5_opens 29 = .ok (.ireturn, 1) := by decide +kernel
theorem dX5_name_0 : decode cX5_name 0 = .ok (.aload_n 0, 1) := by decide +kernel
theorem dX5_name_1 : decode cX5_name 1 = .ok (.bipush 115, 2) := by decide +kernel
theorem dX5_name_3 : decode cX5_name 3 = .ok (.bipush 107, 2) := by decide +kernel
theorem dX5_name_5 : decode cX5_name 5 = .ok (.bipush 105, 2) := by decide +kernel
theorem dX5_name_7 : decode cX5_name 7 = .ok (.bipush 108, 2) := by decide +kernel
theorem dX5_name_9 : decode cX5_name 9 = .ok (.bipush 108, 2) := by decide +kernel
theorem dX5_name_11 : decode cX5_name 11 = .ok (.iconst 0, 1) := by decide +kernel
theorem dX5_name_12 : decode cX5_name 12 = .ok (.iconst 0, 1) := by decide +kernel
theorem dX5_name_13 : decode cX5_name 13 = .ok (.iconst 0, 1) := by decide +kernel
theorem dX5_name_14 : decode cX5_name 14 = .ok (.invokevirtual 188, 3) := by decide +kernel
theorem dX5_name_17 : decode cX5_name 17 = .ok (.ifCond .eq 8, 3) := by decide +kernel
theorem dX5_name_20 : decode cX5_name 20 = .ok (.aload_n 0, 1) := by decide +kernel
theorem dX5_name_21 : decode cX5_name 21 = .ok (.getfield 192, 3) := by decide +kernel
theorem dX5_name_24 : decode cX5_name 24 = .ok (.ireturn, 1) := by decide +kernel
theorem dX5_name_25 : decode cX5_name 25 = .ok (.aload_n 0, 1) := by decide +kernel
theorem dX5_name_26 : decode cX5_name 26 = .ok (.bipush 115, 2) := by decide +kernel
theorem dX5_name_28 : decode cX5_name 28 = .ok (.bipush 111, 2) := by decide +kernel
theorem dX5_name_30 : decode cX5_name 30 = .ok (.bipush 117, 2) := by decide +kernel
theorem dX5_name_32 : decode cX5_name 32 = .ok (.bipush 110, 2) := by decide +kernel
theorem dX5_name_34 : decode cX5_name 34 = .ok (.bipush 100, 2) := by decide +kernel
theorem dX5_name_36 : decode cX5_name 36 = .ok (.iconst 0, 1) := by decide +kernel
theorem dX5_name_37 : decode cX5_name 37 = .ok (.iconst 0, 1) := by decide +kernel
theorem dX5_name_38 : decode cX5_name 38 = .ok (.iconst 0, 1) := by decide +kernel
theorem dX5_name_39 : decode cX5_name 39 = .ok (.invokevirtual 188, 3) := by decide +kernel
theorem dX5_name_42 : decode cX5_name 42 = .ok (.ifCond .eq 8, 3) := by decide +kernel
theorem dX5_name_45 : decode cX5_name 45 = .ok (.aload_n 0, 1) := by decide +kernel
theorem dX5_name_46 : decode cX5_name 46 = .ok (.getfield 195, 3) := by decide +kernel
theorem dX5_name_49 : decode cX5_name 49 = .ok (.ireturn, 1) := by decide +kernel
theorem dX5_name_50 : decode cX5_name 50 = .ok (.aload_n 0, 1) := by decide +kernel
theorem dX5_name_51 : decode cX5_name 51 = .ok (.bipush 110, 2) := by decide +kernel
theorem dX5_name_53 : decode cX5_name 53 = .ok (.bipush 117, 2) := by decide +kernel
theorem dX5_name_55 : decode cX5_name 55 = .ok (.bipush 109, 2) := by decide +kernel
theorem dX5_name_57 : decode cX5_name 57 = .ok (.bipush 98, 2) := by decide +kernel
theorem dX5_name_59 : decode cX5_name 59 = .ok (.bipush 101, 2) := by decide +kernel
theorem dX5_name_61 : decode cX5_name 61 = .ok (.bipush 114, 2) := by decide +kernel
theorem dX5_name_63 : decode cX5_name 63 = .ok (.iconst 0, 1) := by decide +kernel
theorem dX5_name_64 : decode cX5_name 64 = .ok (.iconst 0, 1) := by decide +kernel
theorem dX5_name_65 : decode cX5_name 65 = .ok (.invokevirtual 188, 3) := by decide +kernel
theorem dX5_name_68 : decode cX5_name 68 = .ok (.ifCond .eq 8, 3) := by decide +kernel
theorem dX5_name_71 : decode cX5_name 71 = .ok (.aload_n 0, 1) := by decide +kernel
theorem dX5_name_72 : decode cX5_name 72 = .ok (.getfield 198, 3) := by decide +kernel
theorem dX5_name_75 : decode cX5_name 75 = .ok (.ireturn, 1) := by decide +kernel
theorem dX5_name_76 : decode cX5_name 76 = .ok (.aload_n 0, 1) := by decide +kernel
theorem dX5_name_77 : decode cX5_name 77 = .ok (.bipush 100, 2) := by decide +kernel
theorem dX5_name_79 : decode cX5_name 79 = .ok (.bipush 97, 2) := by decide +kernel
theorem dX5_name_81 : decode cX5_name 81 = .ok (.bipush 121, 2) := by decide +kernel
theorem dX5_name_83 : decode cX5_name 83 = .ok (.iconst 0, 1) := by decide +kernel
theorem dX5_name_84 : decode cX5_name 84 = .ok (.iconst 0, 1) := by decide +kernel
theorem dX5_name_85 : decode cX5_name 85 = .ok (.iconst 0, 1) := by decide +kernel
theorem dX5_name_86 : decode cX5_name 86 = .ok (.iconst 0, 1) := by decide +kernel
theorem dX5_name_87 : decode cX5_name 87 = .ok (.iconst 0, 1) := by decide +kernel
theorem dX5_name_88 : decode cX5_name 88 = .ok (.invokevirtual 188, 3) := by decide +kernel
theorem dX5_name_91 : decode cX5_name 91 = .ok (.ifCond .eq 8, 3) := by decide +kernel
theorem dX5_name_94 : decode cX5_name 94 = .ok (.aload_n 0, 1) := by decide +kernel
theorem dX5_name_95 : decode cX5_name 95 = .ok (.getfield 201, 3) := by decide +kernel
theorem dX5_name_98 : decode cX5_name 98 = .ok (.ireturn, 1) := by decide +kernel
theorem dX5_name_99 : decode cX5_name 99 = .ok (.aload_n 0, 1) := by decide +kernel
theorem dX5_name_100 : decode cX5_name 100 = .ok (.bipush 119, 2) := by decide +kernel
theorem dX5_name_102 : decode cX5_name 102 = .ok (.bipush 97, 2) := by decide +kernel
theorem dX5_name_104 : decode cX5_name 104 = .ok (.bipush 116, 2) := by decide +kernel
theorem dX5_name_106 : decode cX5_name 106 = .ok (.bipush 101, 2) := by decide +kernel
theorem dX5_name_108 : decode cX5_name 108 = .ok (.bipush 114, 2) := by decide +kernel
theorem dX5_name_110 : decode cX5_name 110 = .ok (.iconst 0, 1) := by decide +kernel
theorem dX5_name_111 : decode cX5_name 111 = .ok (.iconst 0, 1) := by decide +kernel
theorem dX5_name_112 : decode cX5_name 112 = .ok (.iconst 0, 1) := by decide +kernel
theorem dX5_name_113 : decode cX5_name 113 = .ok (.invokevirtual 188, 3) := by decide +kernel
theorem dX5_name_116 : decode cX5_name 116 = .ok (.ifCond .eq 8, 3) := by decide +kernel
theorem dX5_name_119 : decode cX5_name 119 = .ok (.aload_n 0, 1) := by decide +kernel
theorem dX5_name_120 : decode cX5_name 120 = .ok (.getfield 204, 3) := by decide +kernel
theorem dX5_name_123 : decode cX5_name 123 = .ok (.ireturn, 1) := by decide +kernel
theorem dX5_name_124 : decode cX5_name 124 = .ok (.aload_n 0, 1) := by decide +kernel
theorem dX5_name_125 : decode cX5_name 125 = .ok (.bipush 112, 2) := by decide +kernel
theorem dX5_name_127 : decode cX5_name 127 = .ok (.bipush 97, 2) := by decide +kernel
theorem dX5_name_129 : decode cX5_name 129 = .ok (.bipush 114, 2) := by decide +kernel
theorem dX5_name_131 : decode cX5_name 131 = .ok (.bipush 116, 2) := by decide +kernel
theorem dX5_name_133 : decode cX5_name 133 = .ok (.iconst 0, 1) := by decide +kernel
theorem dX5_name_134 : decode cX5_name 134 = .ok (.iconst 0, 1) := by decide +kernel
theorem dX5_name_135 : decode cX5_name 135 = .ok (.iconst 0, 1) := by decide +kernel
theorem dX5_name_136 : decode cX5_name 136 = .ok (.iconst 0, 1) := by decide +kernel
theorem dX5_name_137 : decode cX5_name 137 = .ok (.invokevirtual 188, 3) := by decide +kernel
theorem dX5_name_140 : decode cX5_name 140 = .ok (.ifCond .eq 8, 3) := by decide +kernel
theorem dX5_name_143 : decode cX5_name 143 = .ok (.aload_n 0, 1) := by decide +kernel
theorem dX5_name_144 : decode cX5_name 144 = .ok (.getfield 207, 3) := by decide +kernel
theorem dX5_name_147 : decode cX5_name 147 = .ok (.ireturn, 1) := by decide +kernel
theorem dX5_name_148 : decode cX5_name 148 = .ok (.aload_n 0, 1) := by decide +kernel
theorem dX5_name_149 : decode cX5_name 149 = .ok (.invokevirtual 182, 3) := by decide +kernel
theorem dX5_name_152 : decode cX5_name 152 = .ok (.iconst 0, 1) := by decide +kernel
theorem dX5_name_153 : decode cX5_name 153 = .ok (.ireturn, 1) := by decide +kernel
theorem dX5_atom_0 : decode cX5_atom 0 = .ok (.iconst 0, 1) := by decide +kernel
theorem dX5_atom_1 : decode cX5_atom 1 = .ok (.istore_n 1, 1) := by decide +kernel
theorem dX5_atom_2 : decode cX5_atom 2 = .ok (.aload_n 0, 1) := by decide +kernel
theorem dX5_atom_3 : decode cX5_atom 3 = .ok (.bipush 45, 2) := by decide +kernel
theorem dX5_atom_5 : decode cX5_atom 5 = .ok (.invokevirtual 210, 3) := by decide +kernel
theorem dX5_atom_8 : decode cX5_atom 8 = .ok (.ifCond .eq 29, 3) := by decide +kernel
theorem dX5_atom_11 : decode cX5_atom 11 = .ok (.aload_n 0, 1) := by decide +kernel
theorem dX5_atom_12 : decode cX5_atom 12 = .ok (.invokevirtual 213, 3) := by decide +kernel
theorem dX5_atom_15 : decode cX5_atom 15 = .ok (.ifCond .eq 146, 3) := by decide +kernel
theorem dX5_atom_18 : decode cX5_atom 18 = .ok (.aload_n 0, 1) := by decide +kernel
theorem dX5_atom_19 : decode cX5_atom 19 = .ok (.invokevirtual 217, 3) := by decide +kernel
theorem dX5_atom_22 : decode cX5_atom 22 = .ok (.ineg, 1) := by decide +kernel
theorem dX5_atom_23 : decode cX5_atom 23 = .ok (.istore_n 1, 1) := by decide +kernel
theorem dX5_atom_24 : decode cX5_atom 24 = .ok (.aload_n 0, 1) := by decide +kernel
theorem dX5_atom_25 : decode cX5_atom 25 = .ok (.dup, 1) := by decide +kernel
theorem dX5_atom_26 : decode cX5_atom 26 = .ok (.getfield 179, 3) := by decide +kernel
theorem dX5_atom_29 : decode cX5_atom 29 = .ok (.iconst 1, 1) := by decide +kernel
theorem dX5_atom_30 : decode cX5_atom 30 = .ok (.isub, 1) := by decide +kernel
theorem dX5_atom_31 : decode cX5_atom 31 = .ok (.putfield 179, 3) := by decide +kernel
theorem dX5_atom_34 : decode cX5_atom 34 = .ok (.goto 127, 3) := by decide +kernel
theorem dX5_atom_37 : decode cX5_atom 37 = .ok (.aload_n 0, 1) := by decide +kernel
theorem dX5_atom_38 : decode cX5_atom 38 = .ok (.bipush 40, 2) := by decide +kernel
theorem dX5_atom_40 : decode cX5_atom 40 = .ok (.invokevirtual 210, 3) := by decide +kernel
theorem dX5_atom_43 : decode cX5_atom 43 = .ok (.ifCond .eq 52, 3) := by decide +kernel
theorem dX5_atom_46 : decode cX5_atom 46 = .ok (.aload_n 0, 1) := by decide +kernel
theorem dX5_atom_47 : decode cX5_atom 47 = .ok (.invokevirtual 213, 3) := by decide +kernel
theorem dX5_atom_50 : decode cX5_atom 50 = .ok (.ifCond .eq 111, 3) := by decide +kernel
theorem dX5_atom_53 : decode cX5_atom 53 = .ok (.aload_n 0, 1) := by decide +kernel
theorem dX5_atom_54 : decode cX5_atom 54 = .ok (.invokevirtual 221, 3) := by decide +kernel
theorem dX5_atom_57 : decode cX5_atom 57 = .ok (.istore_n 1, 1) := by decide +kernel
theorem dX5_atom_58 : decode cX5_atom 58 = .ok (.aload_n 0, 1) := by decide +kernel
theorem dX5_atom_59 : decode cX5_atom 59 = .ok (.bipush 41, 2) := by decide +kernel
theorem dX5_atom_61 : decode cX5_atom 61 = .ok (.invokevirtual 210, 3) := by decide +kernel
theorem dX5_atom_64 : decode cX5_atom 64 = .ok (.ifCond .ne 7, 3) := by decide +kernel
theorem dX5_atom_67 : decode cX5_atom 67 = .ok (.aload_n 0, 1) := by decide +kernel
theorem dX5_atom_68 : decode cX5_atom 68 = .ok (.invokevirtual 182, 3) := by decide +kernel
theorem dX5_atom_71 : decode cX5_atom 71 = .ok (.aload_n 0, 1) := by decide +kernel
theorem dX5_atom_72 : decode cX5_atom 72 = .ok (.dup, 1) := by decide +kernel
theorem dX5_atom_73 : decode cX5_atom 73 = .ok (.getfield 179, 3) := by decide +kernel
theorem dX5_atom_76 : decode cX5_atom 76 = .ok (.iconst 1, 1) := by decide +kernel
theorem dX5_atom_77 : decode cX5_atom 77 = .ok (.isub, 1) := by decide +kernel
theorem dX5_atom_78 : decode cX5_atom 78 = .ok (.putfield 179, 3) := by decide +kernel
theorem dX5_atom_81 : decode cX5_atom 81 = .ok (.aload_n 0, 1) := by decide +kernel
theorem dX5_atom_82 : decode cX5_atom 82 = .ok (.getfield 169, 3) := by decide +kernel
theorem dX5_atom_85 : decode cX5_atom 85 = .ok (.ifCond .ne 76, 3) := by decide +kernel
theorem dX5_atom_88 : decode cX5_atom 88 = .ok (.aload_n 0, 1) := by decide +kernel
theorem dX5_atom_89 : decode cX5_atom 89 = .ok (.invokevirtual 185, 3) := by decide +kernel
theorem dX5_atom_92 : decode cX5_atom 92 = .ok (.goto 69, 3) := by decide +kernel
theorem dX5_atom_95 : decode cX5_atom 95 = .ok (.aload_n 0, 1) := by decide +kernel
theorem dX5_atom_96 : decode cX5_atom 96 = .ok (.getfield 169, 3) := by decide +kernel
theorem dX5_atom_99 : decode cX5_atom 99 = .ok (.ifCond .ne 24, 3) := by decide +kernel
theorem dX5_atom_102 : decode cX5_atom 102 = .ok (.aload_n 0, 1) := by decide +kernel
theorem dX5_atom_103 : decode cX5_atom 103 = .ok (.getfield 152, 3) := by decide +kernel
theorem dX5_atom_106 : decode cX5_atom 106 = .ok (.iconst 2, 1) := by decide +kernel
theorem dX5_atom_107 : decode cX5_atom 107 = .ok (.if_icmp .ne 16, 3) := by decide +kernel
theorem dX5_atom_110 : decode cX5_atom 110 = .ok (.aload_n 0, 1) := by decide +kernel
theorem dX5_atom_111 : decode cX5_atom 111 = .ok (.getfield 163, 3) := by decide +kernel
theorem dX5_atom_114 : decode cX5_atom 114 = .ok (.l2i, 1) := by decide +kernel
theorem dX5_atom_115 : decode cX5_atom 115 = .ok (.istore_n 1, 1) := by decide +kernel
theorem dX5_atom_116 : decode cX5_atom 116 = .ok (.aload_n 0, 1) := by decide +kernel
theorem dX5_atom_117 : decode cX5_atom 117 = .ok (.invokevirtual 185, 3) := by decide +kernel
theorem dX5_atom_120 : decode cX5_atom 120 = .ok (.goto 41, 3) := by decide +kernel
theorem dX5_atom_123 : decode cX5_atom 123 = .ok (.aload_n 0, 1) := by decide +kernel
theorem dX5_atom_124 : decode cX5_atom 124 = .ok (.getfield 169, 3) := by decide +kernel
theorem dX5_atom_127 : decode cX5_atom 127 = .ok (.ifCond .ne 30, 3) := by decide +kernel
theorem dX5_atom_130 : decode cX5_atom 130 = .ok (.aload_n 0, 1) := by decide +kernel
theorem dX5_atom_131 : decode cX5_atom 131 = .ok (.getfield 152, 3) := by decide +kernel
theorem dX5_atom_134 : decode cX5_atom 134 = .ok (.iconst 1, 1) := by decide +kernel
theorem dX5_atom_135 : decode cX5_atom 135 = .ok (.if_icmp .ne 22, 3) := by decide +kernel
theorem dX5_atom_138 : decode cX5_atom 138 = .ok (.aload_n 0, 1) := by decide +kernel
theorem dX5_atom_139 : decode cX5_atom 139 = .ok (.invokevirtual 224, 3) := by decide +kernel
theorem dX5_atom_142 : decode cX5_atom 142 = .ok (.istore_n 1, 1) := by decide +kernel
theorem dX5_atom_143 : decode cX5_atom 143 = .ok (.aload_n 0, 1) := by decide +kernel
theorem dX5_atom_144 : decode cX5_atom 144 = .ok (.getfield 169, 3) := by decide +kernel
theorem dX5_atom_147 : decode cX5_atom 147 = .ok (.ifCond .ne 14, 3) := by decide +kernel
theorem dX5_atom_150 : decode cX5_atom 150 = .ok (.aload_n 0, 1) := by decide +kernel
theorem dX5_atom_151 : decode cX5_atom 151 = .ok (.invokevirtual 185, 3) := by decide +kernel
theorem dX5_atom_154 : decode cX5_atom 154 = .ok (.goto 7, 3) := by decide +kernel
theorem dX5_atom_157 : decode cX5_atom 157 = .ok (.aload_n 0, 1) := by decide +kernel
theorem dX5_atom_158 : decode cX5_atom 158 = .ok (.invokevirtual 182, 3) := by decide +kernel
theorem dX5_atom_161 : decode cX5_atom 161 = .ok (.iload_n 1, 1) := by decide +kernel
theorem dX5_atom_162 : decode cX5_atom 162 = .ok (.ireturn, 1) := by decide +kernel
theorem dX5_term_0 : decode cX5_term 0 = .ok (.aload_n 0, 1) := by decide +kernel
theorem dX5_term_1 : decode cX5_term 1 = .ok (.invokevirtual 217, 3) := by decide +kernel
theorem dX5_term_4 : decode cX5_term 4 = .ok (.istore_n 1, 1) := by decide +kernel
theorem dX5_term_5 : decode cX5_term 5 = .ok (.aload_n 0, 1) := by decide +kernel
theorem dX5_term_6 : decode cX5_term 6 = .ok (.bipush 42, 2) := by decide +kernel
theorem dX5_term_8 : decode cX5_term 8 = .ok (.invokevirtual 210, 3) := by decide +kernel
theorem dX5_term_11 : decode cX5_term 11 = .ok (.ifCond .eq 17, 3) := by decide +kernel
theorem dX5_term_14 : decode cX5_term 14 = .ok (.aload_n 0, 1) := by decide +kernel
theorem dX5_term_15 : decode cX5_term 15 = .ok (.invokevirtual 185, 3) := by decide +kernel
theorem dX5_term_18 : decode cX5_term 18 = .ok (.iload_n 1, 1) := by decide +kernel
theorem dX5_term_19 : decode cX5_term 19 = .ok (.aload_n 0, 1) := by decide +kernel
theorem dX5_term_20 : decode cX5_term 20 = .ok (.invokevirtual 217, 3) := by decide +kernel
theorem dX5_term_23 : decode cX5_term 23 = .ok (.imul, 1) := by decide +kernel
theorem dX5_term_24 : decode cX5_term 24 = .ok (.istore_n 1, 1) := by decide +kernel
theorem dX5_term_25 : decode cX5_term 25 = .ok (.goto (-20), 3) := by decide +kernel
theorem dX5_term_28 : decode cX5_term 28 = .ok (.iload_n 1, 1) := by decide +kernel
theorem dX5_term_29 : decode cX5_term 29 = .ok (.ireturn, 1) := by decide +kernel
theorem dX5_added_0 : decode cX5_added 0 = .ok (.aload_n 0, 1) := by decide +kernel
theorem dX5_added_1 : decode cX5_added 1 = .ok (.invokevirtual 227, 3) := by decide +kernel
theorem dX5_added_4 : decode cX5_added 4 = .ok (.istore_n 1, 1) := by decide +kernel
theorem dX5_added_5 : decode cX5_added 5 = .ok (.aload_n 0, 1) := by decide +kernel
theorem dX5_added_6 : decode cX5_added 6 = .ok (.bipush 43, 2) := by decide +kernel
theorem dX5_added_8 : decode cX5_added 8 = .ok (.invokevirtual 210, 3) := by decide +kernel
theorem dX5_added_11 : decode cX5_added 11 = .ok (.ifCond .ne 12, 3) := by decide +kernel
theorem dX5_added_14 : decode cX5_added 14 = .ok (.aload_n 0, 1) := by decide +kernel
theorem dX5_added_15 : decode cX5_added 15 = .ok (.bipush 45, 2) := by decide +kernel
theorem dX5_added_17 : decode cX5_added 17 = .ok (.invokevirtual 210, 3) := by decide +kernel
theorem dX5_added_20 : decode cX5_added 20 = .ok (.ifCond .eq 46, 3) := by decide +kernel
theorem dX5_added_23 : decode cX5_added 23 = .ok (.aload_n 0, 1) := by decide +kernel
theorem dX5_added_24 : decode cX5_added 24 = .ok (.getfield 163, 3) := by decide +kernel
theorem dX5_added_27 : decode cX5_added 27 = .ok (.ldc2_w 230, 3) := by decide +kernel
theorem dX5_added_30 : decode cX5_added 30 = .ok (.lcmp, 1) := by decide +kernel
theorem dX5_added_31 : decode cX5_added 31 = .ok (.ifCond .ne 7, 3) := by decide +kernel
theorem dX5_added_34 : decode cX5_added 34 = .ok (.iconst 1, 1) := by decide +kernel
theorem dX5_added_35 : decode cX5_added 35 = .ok (.goto 4, 3) := by decide +kernel
theorem dX5_added_38 : decode cX5_added 38 = .ok (.iconst 0, 1) := by decide +kernel
theorem dX5_added_39 : decode cX5_added 39 = .ok (.istore_n 2, 1) := by decide +kernel
theorem dX5_added_40 : decode cX5_added 40 = .ok (.aload_n 0, 1) := by decide +kernel
theorem dX5_added_41 : decode cX5_added 41 = .ok (.invokevirtual 185, 3) := by decide +kernel
theorem dX5_added_44 : decode cX5_added 44 = .ok (.aload_n 0, 1) := by decide +kernel
theorem dX5_added_45 : decode cX5_added 45 = .ok (.invokevirtual 227, 3) := by decide +kernel
theorem dX5_added_48 : decode cX5_added 48 = .ok (.istore_n 3, 1) := by decide +kernel
theorem dX5_added_49 : decode cX5_added 49 = .ok (.iload_n 2, 1) := by decide +kernel
theorem dX5_added_50 : decode cX5_added 50 = .ok (.ifCond .eq 9, 3) := by decide +kernel
theorem dX5_added_53 : decode cX5_added 53 = .ok (.iload_n 1, 1) := by decide +kernel
theorem dX5_added_54 : decode cX5_added 54 = .ok (.iload_n 3, 1) := by decide +kernel
theorem dX5_added_55 : decode cX5_added 55 = .ok (.iadd, 1) := by decide +kernel
theorem dX5_added_56 : decode cX5_added 56 = .ok (.goto 6, 3) := by decide +kernel
theorem dX5_added_59 : decode cX5_added 59 = .ok (.iload_n 1, 1) := by decide +kernel
theorem dX5_added_60 : decode cX5_added 60 = .ok (.iload_n 3, 1) := by decide +kernel
theorem dX5_added_61 : decode cX5_added 61 = .ok (.isub, 1) := by decide +kernel
theorem dX5_added_62 : decode cX5_added 62 = .ok (.istore_n 1, 1) := by decide +kernel
theorem dX5_added_63 : decode cX5_added 63 = .ok (.goto (-58), 3) := by decide +kernel
theorem dX5_added_66 : decode cX5_added 66 = .ok (.iload_n 1, 1) := by decide +kernel
theorem dX5_added_67 : decode cX5_added 67 = .ok (.ireturn, 1) := by decide +kernel
theorem dX5_not_0 : decode cX5_not 0 = .ok (.aload_n 0, 1) := by decide +kernel
theorem dX5_not_1 : decode cX5_not 1 = .ok (.bipush 110, 2) := by decide +kernel
theorem dX5_not_3 : decode cX5_not 3 = .ok (.bipush 111, 2) := by decide +kernel
theorem dX5_not_5 : decode cX5_not 5 = .ok (.bipush 116, 2) := by decide +kernel
theorem dX5_not_7 : decode cX5_not 7 = .ok (.iconst 0, 1) := by decide +kernel
theorem dX5_not_8 : decode cX5_not 8 = .ok (.iconst 0, 1) := by decide +kernel
theorem dX5_not_9 : decode cX5_not 9 = .ok (.iconst 0, 1) := by decide +kernel
theorem dX5_not_10 : decode cX5_not 10 = .ok (.iconst 0, 1) := by decide +kernel
theorem dX5_not_11 : decode cX5_not 11 = .ok (.iconst 0, 1) := by decide +kernel
theorem dX5_not_12 : decode cX5_not 12 = .ok (.invokevirtual 188, 3) := by decide +kernel
theorem dX5_not_15 : decode cX5_not 15 = .ok (.ifCond .eq 37, 3) := by decide +kernel
theorem dX5_not_18 : decode cX5_not 18 = .ok (.aload_n 0, 1) := by decide +kernel
theorem dX5_not_19 : decode cX5_not 19 = .ok (.invokevirtual 213, 3) := by decide +kernel
theorem dX5_not_22 : decode cX5_not 22 = .ok (.ifCond .ne 5, 3) := by decide +kernel
theorem dX5_not_25 : decode cX5_not 25 = .ok (.iconst 0, 1) := by decide +kernel
theorem dX5_not_26 : decode cX5_not 26 = .ok (.ireturn, 1) := by decide +kernel
theorem dX5_not_27 : decode cX5_not 27 = .ok (.aload_n 0, 1) := by decide +kernel
theorem dX5_not_28 : decode cX5_not 28 = .ok (.invokevirtual 232, 3) := by decide +kernel
theorem dX5_not_31 : decode cX5_not 31 = .ok (.istore_n 1, 1) := by decide +kernel
theorem dX5_not_32 : decode cX5_not 32 = .ok (.aload_n 0, 1) := by decide +kernel
theorem dX5_not_33 : decode cX5_not 33 = .ok (.dup, 1) := by decide +kernel
theorem dX5_not_34 : decode cX5_not 34 = .ok (.getfield 179, 3) := by decide +kernel
theorem dX5_not_37 : decode cX5_not 37 = .ok (.iconst 1, 1) := by decide +kernel
theorem dX5_not_38 : decode cX5_not 38 = .ok (.isub, 1) := by decide +kernel
theorem dX5_not_39 : decode cX5_not 39 = .ok (.putfield 179, 3) := by decide +kernel
theorem dX5_not_42 : decode cX5_not 42 = .ok (.iload_n 1, 1) := by decide +kernel
theorem dX5_not_43 : decode cX5_not 43 = .ok (.ifCond .ne 7, 3) := by decide +kernel
theorem dX5_not_46 : decode cX5_not 46 = .ok (.iconst 1, 1) := by decide +kernel
theorem dX5_not_47 : decode cX5_not 47 = .ok (.goto 4, 3) := by decide +kernel
theorem dX5_not_50 : decode cX5_not 50 = .ok (.iconst 0, 1) := by decide +kernel
theorem dX5_not_51 : decode cX5_not 51 = .ok (.ireturn, 1) := by decide +kernel
theorem dX5_not_52 : decode cX5_not 52 = .ok (.aload_n 0, 1) := by decide +kernel
theorem dX5_not_53 : decode cX5_not 53 = .ok (.invokevirtual 235, 3) := by decide +kernel
theorem dX5_not_56 : decode cX5_not 56 = .ok (.istore_n 1, 1) := by decide +kernel
theorem dX5_not_57 : decode cX5_not 57 = .ok (.aload_n 0, 1) := by decide +kernel
theorem dX5_not_58 : decode cX5_not 58 = .ok (.bipush 60, 2) := by decide +kernel
theorem dX5_not_60 : decode cX5_not 60 = .ok (.invokevirtual 210, 3) := by decide +kernel
theorem dX5_not_63 : decode cX5_not 63 = .ok (.ifCond .ne 14, 3) := by decide +kernel
theorem dX5_not_66 : decode cX5_not 66 = .ok (.aload_n 0, 1) := by decide +kernel
theorem dX5_not_67 : decode cX5_not 67 = .ok (.bipush 61, 2) := by decide +kernel
theorem dX5_not_69 : decode cX5_not 69 = .ok (.invokevirtual 210, 3) := by decide +kernel
theorem dX5_not_72 : decode cX5_not 72 = .ok (.ifCond .ne 5, 3) := by decide +kernel
theorem dX5_not_75 : decode cX5_not 75 = .ok (.iload_n 1, 1) := by decide +kernel
theorem dX5_not_76 : decode cX5_not 76 = .ok (.ireturn, 1) := by decide +kernel
theorem dX5_not_77 : decode cX5_not 77 = .ok (.aload_n 0, 1) := by decide +kernel
theorem dX5_not_78 : decode cX5_not 78 = .ok (.getfield 163, 3) := by decide +kernel
theorem dX5_not_81 : decode cX5_not 81 = .ok (.ldc2_w 238, 3) := by decide +kernel
theorem dX5_not_84 : decode cX5_not 84 = .ok (.lcmp, 1) := by decide +kernel
theorem dX5_not_85 : decode cX5_not 85 = .ok (.ifCond .ne 7, 3) := by decide +kernel
theorem dX5_not_88 : decode cX5_not 88 = .ok (.iconst 1, 1) := by decide +kernel
theorem dX5_not_89 : decode cX5_not 89 = .ok (.goto 4, 3) := by decide +kernel
theorem dX5_not_92 : decode cX5_not 92 = .ok (.iconst 0, 1) := by decide +kernel
theorem dX5_not_93 : decode cX5_not 93 = .ok (.istore_n 2, 1) := by decide +kernel
theorem dX5_not_94 : decode cX5_not 94 = .ok (.aload_n 0, 1) := by decide +kernel
theorem dX5_not_95 : decode cX5_not 95 = .ok (.invokevirtual 185, 3) := by decide +kernel
theorem dX5_not_98 : decode cX5_not 98 = .ok (.aload_n 0, 1) := by decide +kernel
theorem dX5_not_99 : decode cX5_not 99 = .ok (.invokevirtual 235, 3) := by decide +kernel
theorem dX5_not_102 : decode cX5_not 102 = .ok (.istore_n 3, 1) := by decide +kernel
theorem dX5_not_103 : decode cX5_not 103 = .ok (.iload_n 2, 1) := by decide +kernel
theorem dX5_not_104 : decode cX5_not 104 = .ok (.ifCond .eq 11, 3) := by decide +kernel
theorem dX5_not_107 : decode cX5_not 107 = .ok (.iload_n 1, 1) := by decide +kernel
theorem dX5_not_108 : decode cX5_not 108 = .ok (.iload_n 3, 1) := by decide +kernel
theorem dX5_not_109 : decode cX5_not 109 = .ok (.if_icmp .ge 15, 3) := by decide +kernel
theorem dX5_not_112 : decode cX5_not 112 = .ok (.goto 8, 3) := by decide +kernel
theorem dX5_not_115 : decode cX5_not 115 = .ok (.iload_n 1, 1) := by decide +kernel
theorem dX5_not_116 : decode cX5_not 116 = .ok (.iload_n 3, 1) := by decide +kernel
theorem dX5_not_117 : decode cX5_not 117 = .ok (.if_icmp .ne 7, 3) := by decide +kernel
theorem dX5_not_120 : decode cX5_not 120 = .ok (.iconst 1, 1) := by decide +kernel
theorem dX5_not_121 : decode cX5_not 121 = .ok (.goto 4, 3) := by decide +kernel
theorem dX5_not_124 : decode cX5_not 124 = .ok (.iconst 0, 1) := by decide +kernel
theorem dX5_not_125 : decode cX5_not 125 = .ok (.ireturn, 1) := by decide +kernel
theorem dX5_both_0 : decode cX5_both 0 = .ok (.aload_n 0, 1) := by decide +kernel
theorem dX5_both_1 : decode cX5_both 1 = .ok (.invokevirtual 232, 3) := by decide +kernel
theorem dX5_both_4 : decode cX5_both 4 = .ok (.istore_n 1, 1) := by decide +kernel
theorem dX5_both_5 : decode cX5_both 5 = .ok (.aload_n 0, 1) := by decide +kernel
theorem dX5_both_6 : decode cX5_both 6 = .ok (.bipush 97, 2) := by decide +kernel
theorem dX5_both_8 : decode cX5_both 8 = .ok (.bipush 110, 2) := by decide +kernel
theorem dX5_both_10 : decode cX5_both 10 = .ok (.bipush 100, 2) := by decide +kernel
theorem dX5_both_12 : decode cX5_both 12 = .ok (.iconst 0, 1) := by decide +kernel
theorem dX5_both_13 : decode cX5_both 13 = .ok (.iconst 0, 1) := by decide +kernel
theorem dX5_both_14 : decode cX5_both 14 = .ok (.iconst 0, 1) := by decide +kernel
theorem dX5_both_15 : decode cX5_both 15 = .ok (.iconst 0, 1) := by decide +kernel
theorem dX5_both_16 : decode cX5_both 16 = .ok (.iconst 0, 1) := by decide +kernel
theorem dX5_both_17 : decode cX5_both 17 = .ok (.invokevirtual 188, 3) := by decide +kernel
theorem dX5_both_20 : decode cX5_both 20 = .ok (.ifCond .eq 29, 3) := by decide +kernel
theorem dX5_both_23 : decode cX5_both 23 = .ok (.aload_n 0, 1) := by decide +kernel
theorem dX5_both_24 : decode cX5_both 24 = .ok (.invokevirtual 185, 3) := by decide +kernel
theorem dX5_both_27 : decode cX5_both 27 = .ok (.aload_n 0, 1) := by decide +kernel
theorem dX5_both_28 : decode cX5_both 28 = .ok (.invokevirtual 232, 3) := by decide +kernel
theorem dX5_both_31 : decode cX5_both 31 = .ok (.istore_n 2, 1) := by decide +kernel
theorem dX5_both_32 : decode cX5_both 32 = .ok (.iload_n 1, 1) := by decide +kernel
theorem dX5_both_33 : decode cX5_both 33 = .ok (.ifCond .eq 11, 3) := by decide +kernel
theorem dX5_both_36 : decode cX5_both 36 = .ok (.iload_n 2, 1) := by decide +kernel
theorem dX5_both_37 : decode cX5_both 37 = .ok (.ifCond .eq 7, 3) := by decide +kernel
theorem dX5_both_40 : decode cX5_both 40 = .ok (.iconst 1, 1) := by decide +kernel
theorem dX5_both_41 : decode cX5_both 41 = .ok (.goto 4, 3) := by decide +kernel
theorem dX5_both_44 : decode cX5_both 44 = .ok (.iconst 0, 1) := by decide +kernel
theorem dX5_both_45 : decode cX5_both 45 = .ok (.istore_n 1, 1) := by decide +kernel
theorem dX5_both_46 : decode cX5_both 46 = .ok (.goto (-41), 3) := by decide +kernel
theorem dX5_both_49 : decode cX5_both 49 = .ok (.iload_n 1, 1) := by decide +kernel
theorem dX5_both_50 : decode cX5_both 50 = .ok (.ireturn, 1) := by decide +kernel
theorem dX5_either_0 : decode cX5_either 0 = .ok (.aload_n 0, 1) := by decide +kernel
theorem dX5_either_1 : decode cX5_either 1 = .ok (.invokevirtual 240, 3) := by decide +kernel
theorem dX5_either_4 : decode cX5_either 4 = .ok (.istore_n 1, 1) := by decide +kernel
theorem dX5_either_5 : decode cX5_either 5 = .ok (.aload_n 0, 1) := by decide +kernel
theorem dX5_either_6 : decode cX5_either 6 = .ok (.bipush 111, 2) := by decide +kernel
theorem dX5_either_8 : decode cX5_either 8 = .ok (.bipush 114, 2) := by decide +kernel
theorem dX5_either_10 : decode cX5_either 10 = .ok (.iconst 0, 1) := by decide +kernel
theorem dX5_either_11 : decode cX5_either 11 = .ok (.iconst 0, 1) := by decide +kernel
theorem dX5_either_12 : decode cX5_either 12 = .ok (.iconst 0, 1) := by decide +kernel
theorem dX5_either_13 : decode cX5_either 13 = .ok (.iconst 0, 1) := by decide +kernel
theorem dX5_either_14 : decode cX5_either 14 = .ok (.iconst 0, 1) := by decide +kernel
theorem dX5_either_15 : decode cX5_either 15 = .ok (.iconst 0, 1) := by decide +kernel
theorem dX5_either_16 : decode cX5_either 16 = .ok (.invokevirtual 188, 3) := by decide +kernel
theorem dX5_either_19 : decode cX5_either 19 = .ok (.ifCond .eq 29, 3) := by decide +kernel
theorem dX5_either_22 : decode cX5_either 22 = .ok (.aload_n 0, 1) := by decide +kernel
theorem dX5_either_23 : decode cX5_either 23 = .ok (.invokevirtual 185, 3) := by decide +kernel
theorem dX5_either_26 : decode cX5_either 26 = .ok (.aload_n 0, 1) := by decide +kernel
theorem dX5_either_27 : decode cX5_either 27 = .ok (.invokevirtual 240, 3) := by decide +kernel
theorem dX5_either_30 : decode cX5_either 30 = .ok (.istore_n 2, 1) := by decide +kernel
theorem dX5_either_31 : decode cX5_either 31 = .ok (.iload_n 1, 1) := by decide +kernel
theorem dX5_either_32 : decode cX5_either 32 = .ok (.ifCond .ne 7, 3) := by decide +kernel
theorem dX5_either_35 : decode cX5_either 35 = .ok (.iload_n 2, 1) := by decide +kernel
theorem dX5_either_36 : decode cX5_either 36 = .ok (.ifCond .eq 7, 3) := by decide +kernel
theorem dX5_either_39 : decode cX5_either 39 = .ok (.iconst 1, 1) := by decide +kernel
theorem dX5_either_40 : decode cX5_either 40 = .ok (.goto 4, 3) := by decide +kernel
theorem dX5_either_43 : decode cX5_either 43 = .ok (.iconst 0, 1) := by decide +kernel
theorem dX5_either_44 : decode cX5_either 44 = .ok (.istore_n 1, 1) := by decide +kernel
theorem dX5_either_45 : decode cX5_either 45 = .ok (.goto (-40), 3) := by decide +kernel
theorem dX5_either_48 : decode cX5_either 48 = .ok (.iload_n 1, 1) := by decide +kernel
theorem dX5_either_49 : decode cX5_either 49 = .ok (.ireturn, 1) := by decide +kernel
theorem dX5_part_0 : decode cX5_part 0 = .ok (.iload_n 1, 1) := by decide +kernel
theorem dX5_part_1 : decode cX5_part 1 = .ok (.ifCond .ne 7, 3) := by decide +kernel
theorem dX5_part_4 : decode cX5_part 4 = .ok (.aload_n 0, 1) := by decide +kernel
theorem dX5_part_5 : decode cX5_part 5 = .ok (.invokevirtual 182, 3) := by decide +kernel
theorem dX5_part_8 : decode cX5_part 8 = .ok (.aload_n 0, 1) := by decide +kernel
theorem dX5_part_9 : decode cX5_part 9 = .ok (.getfield 169, 3) := by decide +kernel
theorem dX5_part_12 : decode cX5_part 12 = .ok (.ifCond .ne 7, 3) := by decide +kernel
theorem dX5_part_15 : decode cX5_part 15 = .ok (.aload_n 0, 1) := by decide +kernel
theorem dX5_part_16 : decode cX5_part 16 = .ok (.invokevirtual 185, 3) := by decide +kernel
theorem dX5_part_19 : decode cX5_part 19 = .ok (.aload_n 0, 1) := by decide +kernel
theorem dX5_part_20 : decode cX5_part 20 = .ok (.getfield 169, 3) := by decide +kernel
theorem dX5_part_23 : decode cX5_part 23 = .ok (.ifCond .eq 7, 3) := by decide +kernel
theorem dX5_part_26 : decode cX5_part 26 = .ok (.iconst 0, 1) := by decide +kernel
theorem dX5_part_27 : decode cX5_part 27 = .ok (.goto 7, 3) := by decide +kernel
theorem dX5_part_30 : decode cX5_part 30 = .ok (.aload_n 0, 1) := by decide +kernel
theorem dX5_part_31 : decode cX5_part 31 = .ok (.invokevirtual 221, 3) := by decide +kernel
theorem dX5_part_34 : decode cX5_part 34 = .ok (.istore_n 2, 1) := by decide +kernel
theorem dX5_part_35 : decode cX5_part 35 = .ok (.aload_n 0, 1) := by decide +kernel
theorem dX5_part_36 : decode cX5_part 36 = .ok (.bipush 59, 2) := by decide +kernel
theorem dX5_part_38 : decode cX5_part 38 = .ok (.invokevirtual 210, 3) := by decide +kernel
theorem dX5_part_41 : decode cX5_part 41 = .ok (.ifCond .ne 7, 3) := by decide +kernel
theorem dX5_part_44 : decode cX5_part 44 = .ok (.aload_n 0, 1) := by decide +kernel
theorem dX5_part_45 : decode cX5_part 45 = .ok (.invokevirtual 182, 3) := by decide +kernel
theorem dX5_part_48 : decode cX5_part 48 = .ok (.aload_n 0, 1) := by decide +kernel
theorem dX5_part_49 : decode cX5_part 49 = .ok (.getfield 169, 3) := by decide +kernel
theorem dX5_part_52 : decode cX5_part 52 = .ok (.ifCond .ne 7, 3) := by decide +kernel
theorem dX5_part_55 : decode cX5_part 55 = .ok (.aload_n 0, 1) := by decide +kernel
theorem dX5_part_56 : decode cX5_part 56 = .ok (.invokevirtual 185, 3) := by decide +kernel
theorem dX5_part_59 : decode cX5_part 59 = .ok (.iload_n 2, 1) := by decide +kernel
theorem dX5_part_60 : decode cX5_part 60 = .ok (.ireturn, 1) := by decide +kernel
theorem dX5_read_0 : decode cX5_read 0 = .ok (.aload_n 0, 1) := by decide +kernel
theorem dX5_read_1 : decode cX5_read 1 = .ok (.sipush 160, 3) := by decide +kernel
theorem dX5_read_4 : decode cX5_read 4 = .ok (.iload_n 1, 1) := by decide +kernel
theorem dX5_read_5 : decode cX5_read 5 = .ok (.imul, 1) := by decide +kernel
theorem dX5_read_6 : decode cX5_read 6 = .ok (.putfield 140, 3) := by decide +kernel
theorem dX5_read_9 : decode cX5_read 9 = .ok (.aload_n 0, 1) := by decide +kernel
theorem dX5_read_10 : decode cX5_read 10 = .ok (.aload_n 0, 1) := by decide +kernel
theorem dX5_read_11 : decode cX5_read 11 = .ok (.getfield 17, 3) := by decide +kernel
theorem dX5_read_14 : decode cX5_read 14 = .ok (.iload_n 1, 1) := by decide +kernel
theorem dX5_read_15 : decode cX5_read 15 = .ok (.iaload, 1) := by decide +kernel
theorem dX5_read_16 : decode cX5_read 16 = .ok (.putfield 137, 3) := by decide +kernel
theorem dX5_read_19 : decode cX5_read 19 = .ok (.aload_n 0, 1) := by decide +kernel
theorem dX5_read_20 : decode cX5_read 20 = .ok (.iconst 0, 1) := by decide +kernel
theorem dX5_read_21 : decode cX5_read 21 = .ok (.putfield 143, 3) := by decide +kernel
theorem dX5_read_24 : decode cX5_read 24 = .ok (.aload_n 0, 1) := by decide +kernel
theorem dX5_read_25 : decode cX5_read 25 = .ok (.iconst 0, 1) := by decide +kernel
theorem dX5_read_26 : decode cX5_read 26 = .ok (.putfield 179, 3) := by decide +kernel
theorem dX5_read_29 : decode cX5_read 29 = .ok (.aload_n 0, 1) := by decide +kernel
theorem dX5_read_30 : decode cX5_read 30 = .ok (.iconst 0, 1) := by decide +kernel
theorem dX5_read_31 : decode cX5_read 31 = .ok (.putfield 169, 3) := by decide +kernel
theorem dX5_read_34 : decode cX5_read 34 = .ok (.aload_n 0, 1) := by decide +kernel
theorem dX5_read_35 : decode cX5_read 35 = .ok (.invokevirtual 185, 3) := by decide +kernel
theorem dX5_read_38 : decode cX5_read 38 = .ok (.aload_n 0, 1) := by decide +kernel
theorem dX5_read_39 : decode cX5_read 39 = .ok (.aload_n 0, 1) := by decide +kernel
theorem dX5_read_40 : decode cX5_read 40 = .ok (.bipush 109, 2) := by decide +kernel
theorem dX5_read_42 : decode cX5_read 42 = .ok (.bipush 97, 2) := by decide +kernel
theorem dX5_read_44 : decode cX5_read 44 = .ok (.bipush 107, 2) := by decide +kernel
theorem dX5_read_46 : decode cX5_read 46 = .ok (.bipush 101, 2) := by decide +kernel
theorem dX5_read_48 : decode cX5_read 48 = .ok (.bipush 115, 2) := by decide +kernel
theorem dX5_read_50 : decode cX5_read 50 = .ok (.iconst 0, 1) := by decide +kernel
theorem dX5_read_51 : decode cX5_read 51 = .ok (.iconst 0, 1) := by decide +kernel
theorem dX5_read_52 : decode cX5_read 52 = .ok (.iconst 0, 1) := by decide +kernel
theorem dX5_read_53 : decode cX5_read 53 = .ok (.invokevirtual 188, 3) := by decide +kernel
theorem dX5_read_56 : decode cX5_read 56 = .ok (.invokevirtual 243, 3) := by decide +kernel
theorem dX5_read_59 : decode cX5_read 59 = .ok (.istore_n 3, 1) := by decide +kernel
theorem dX5_read_60 : decode cX5_read 60 = .ok (.aload_n 0, 1) := by decide +kernel
theorem dX5_read_61 : decode cX5_read 61 = .ok (.getfield 169, 3) := by decide +kernel
theorem dX5_read_64 : decode cX5_read 64 = .ok (.ifCond .eq 7, 3) := by decide +kernel
theorem dX5_read_67 : decode cX5_read 67 = .ok (.iconst 0, 1) := by decide +kernel
theorem dX5_read_68 : decode cX5_read 68 = .ok (.goto 24, 3) := by decide +kernel
theorem dX5_read_71 : decode cX5_read 71 = .ok (.aload_n 0, 1) := by decide +kernel
theorem dX5_read_72 : decode cX5_read 72 = .ok (.aload_n 0, 1) := by decide +kernel
theorem dX5_read_73 : decode cX5_read 73 = .ok (.bipush 109, 2) := by decide +kernel
theorem dX5_read_75 : decode cX5_read 75 = .ok (.bipush 101, 2) := by decide +kernel
theorem dX5_read_77 : decode cX5_read 77 = .ok (.bipush 110, 2) := by decide +kernel
theorem dX5_read_79 : decode cX5_read 79 = .ok (.bipush 100, 2) := by decide +kernel
theorem dX5_read_81 : decode cX5_read 81 = .ok (.bipush 115, 2) := by decide +kernel
theorem dX5_read_83 : decode cX5_read 83 = .ok (.iconst 0, 1) := by decide +kernel
theorem dX5_read_84 : decode cX5_read 84 = .ok (.iconst 0, 1) := by decide +kernel
theorem dX5_read_85 : decode cX5_read 85 = .ok (.iconst 0, 1) := by decide +kernel
theorem dX5_read_86 : decode cX5_read 86 = .ok (.invokevirtual 188, 3) := by decide +kernel
theorem dX5_read_89 : decode cX5_read 89 = .ok (.invokevirtual 243, 3) := by decide +kernel
theorem dX5_read_92 : decode cX5_read 92 = .ok (.istore 4, 2) := by decide +kernel
theorem dX5_read_94 : decode cX5_read 94 = .ok (.aload_n 0, 1) := by decide +kernel
theorem dX5_read_95 : decode cX5_read 95 = .ok (.getfield 169, 3) := by decide +kernel
theorem dX5_read_98 : decode cX5_read 98 = .ok (.ifCond .eq 7, 3) := by decide +kernel
theorem dX5_read_101 : decode cX5_read 101 = .ok (.iconst 0, 1) := by decide +kernel
theorem dX5_read_102 : decode cX5_read 102 = .ok (.goto 24, 3) := by decide +kernel
theorem dX5_read_105 : decode cX5_read 105 = .ok (.aload_n 0, 1) := by decide +kernel
theorem dX5_read_106 : decode cX5_read 106 = .ok (.aload_n 0, 1) := by decide +kernel
theorem dX5_read_107 : decode cX5_read 107 = .ok (.bipush 112, 2) := by decide +kernel
theorem dX5_read_109 : decode cX5_read 109 = .ok (.bipush 117, 2) := by decide +kernel
theorem dX5_read_111 : decode cX5_read 111 = .ok (.bipush 109, 2) := by decide +kernel
theorem dX5_read_113 : decode cX5_read 113 = .ok (.bipush 112, 2) := by decide +kernel
theorem dX5_read_115 : decode cX5_read 115 = .ok (.bipush 115, 2) := by decide +kernel
theorem dX5_read_117 : decode cX5_read 117 = .ok (.iconst 0, 1) := by decide +kernel
theorem dX5_read_118 : decode cX5_read 118 = .ok (.iconst 0, 1) := by decide +kernel
theorem dX5_read_119 : decode cX5_read 119 = .ok (.iconst 0, 1) := by decide +kernel
theorem dX5_read_120 : decode cX5_read 120 = .ok (.invokevirtual 188, 3) := by decide +kernel
theorem dX5_read_123 : decode cX5_read 123 = .ok (.invokevirtual 243, 3) := by decide +kernel
theorem dX5_read_126 : decode cX5_read 126 = .ok (.istore 5, 2) := by decide +kernel
theorem dX5_read_128 : decode cX5_read 128 = .ok (.aload_n 0, 1) := by decide +kernel
theorem dX5_read_129 : decode cX5_read 129 = .ok (.getfield 169, 3) := by decide +kernel
theorem dX5_read_132 : decode cX5_read 132 = .ok (.ifCond .ne 14, 3) := by decide +kernel
theorem dX5_read_135 : decode cX5_read 135 = .ok (.aload_n 0, 1) := by decide +kernel
theorem dX5_read_136 : decode cX5_read 136 = .ok (.getfield 152, 3) := by decide +kernel
theorem dX5_read_139 : decode cX5_read 139 = .ok (.ifCond .eq 7, 3) := by decide +kernel
theorem dX5_read_142 : decode cX5_read 142 = .ok (.aload_n 0, 1) := by decide +kernel
theorem dX5_read_143 : decode cX5_read 143 = .ok (.invokevirtual 182, 3) := by decide +kernel
theorem dX5_read_146 : decode cX5_read 146 = .ok (.iload_n 2, 1) := by decide +kernel
theorem dX5_read_147 : decode cX5_read 147 = .ok (.ifCond .ne 7, 3) := by decide +kernel
theorem dX5_read_150 : decode cX5_read 150 = .ok (.iload_n 3, 1) := by decide +kernel
theorem dX5_read_151 : decode cX5_read 151 = .ok (.goto 15, 3) := by decide +kernel
theorem dX5_read_154 : decode cX5_read 154 = .ok (.iload_n 2, 1) := by decide +kernel
theorem dX5_read_155 : decode cX5_read 155 = .ok (.iconst 1, 1) := by decide +kernel
theorem dX5_read_156 : decode cX5_read 156 = .ok (.if_icmp .ne 8, 3) := by decide +kernel
theorem dX5_read_159 : decode cX5_read 159 = .ok (.iload 4, 2) := by decide +kernel
theorem dX5_read_161 : decode cX5_read 161 = .ok (.goto 5, 3) := by decide +kernel
theorem dX5_read_164 : decode cX5_read 164 = .ok (.iload 5, 2) := by decide +kernel
theorem dX5_read_166 : decode cX5_read 166 = .ok (.ireturn, 1) := by decide +kernel
theorem dX5_text_0 : decode cX5_text 0 = .ok (.aload_n 0, 1) := by decide +kernel
theorem dX5_text_1 : decode cX5_text 1 = .ok (.getfield 70, 3) := by decide +kernel
theorem dX5_text_4 : decode cX5_text 4 = .ok (.bipush 6, 2) := by decide +kernel
theorem dX5_text_6 : decode cX5_text 6 = .ok (.if_icmp .ne 6, 3) := by decide +kernel
theorem dX5_text_9 : decode cX5_text 9 = .ok (.bipush (-4), 2) := by decide +kernel
theorem dX5_text_11 : decode cX5_text 11 = .ok (.ireturn, 1) := by decide +kernel
theorem dX5_text_12 : decode cX5_text 12 = .ok (.iconst 0, 1) := by decide +kernel
theorem dX5_text_13 : decode cX5_text 13 = .ok (.istore_n 1, 1) := by decide +kernel
theorem dX5_text_14 : decode cX5_text 14 = .ok (.iload_n 1, 1) := by decide +kernel
theorem dX5_text_15 : decode cX5_text 15 = .ok (.aload_n 0, 1) := by decide +kernel
theorem dX5_text_16 : decode cX5_text 16 = .ok (.getfield 134, 3) := by decide +kernel
theorem dX5_text_19 : decode cX5_text 19 = .ok (.if_icmp .ge 30, 3) := by decide +kernel
theorem dX5_text_22 : decode cX5_text 22 = .ok (.aload_n 0, 1) := by decide +kernel
theorem dX5_text_23 : decode cX5_text 23 = .ok (.getfield 13, 3) := by decide +kernel
theorem dX5_text_26 : decode cX5_text 26 = .ok (.sipush 160, 3) := by decide +kernel
theorem dX5_text_29 : decode cX5_text 29 = .ok (.aload_n 0, 1) := by decide +kernel
theorem dX5_text_30 : decode cX5_text 30 = .ok (.getfield 70, 3) := by decide +kernel
theorem dX5_text_33 : decode cX5_text 33 = .ok (.imul, 1) := by decide +kernel
theorem dX5_text_34 : decode cX5_text 34 = .ok (.iload_n 1, 1) := by decide +kernel
theorem dX5_text_35 : decode cX5_text 35 = .ok (.iadd, 1) := by decide +kernel
theorem dX5_text_36 : decode cX5_text 36 = .ok (.aload_n 0, 1) := by decide +kernel
theorem dX5_text_37 : decode cX5_text 37 = .ok (.getfield 20, 3) := by decide +kernel
theorem dX5_text_40 : decode cX5_text 40 = .ok (.iload_n 1, 1) := by decide +kernel
theorem dX5_text_41 : decode cX5_text 41 = .ok (.iaload, 1) := by decide +kernel
theorem dX5_text_42 : decode cX5_text 42 = .ok (.iastore, 1) := by decide +kernel
theorem dX5_text_43 : decode cX5_text 43 = .ok (.iinc 1 1, 3) := by decide +kernel
theorem dX5_text_46 : decode cX5_text 46 = .ok (.goto (-32), 3) := by decide +kernel
theorem dX5_text_49 : decode cX5_text 49 = .ok (.aload_n 0, 1) := by decide +kernel
theorem dX5_text_50 : decode cX5_text 50 = .ok (.getfield 17, 3) := by decide +kernel
theorem dX5_text_53 : decode cX5_text 53 = .ok (.aload_n 0, 1) := by decide +kernel
theorem dX5_text_54 : decode cX5_text 54 = .ok (.getfield 70, 3) := by decide +kernel
theorem dX5_text_57 : decode cX5_text 57 = .ok (.aload_n 0, 1) := by decide +kernel
theorem dX5_text_58 : decode cX5_text 58 = .ok (.getfield 134, 3) := by decide +kernel
theorem dX5_text_61 : decode cX5_text 61 = .ok (.iastore, 1) := by decide +kernel
theorem dX5_text_62 : decode cX5_text 62 = .ok (.aload_n 0, 1) := by decide +kernel
theorem dX5_text_63 : decode cX5_text 63 = .ok (.iconst 0, 1) := by decide +kernel
theorem dX5_text_64 : decode cX5_text 64 = .ok (.putfield 134, 3) := by decide +kernel
theorem dX5_text_67 : decode cX5_text 67 = .ok (.aload_n 0, 1) := by decide +kernel
theorem dX5_text_68 : decode cX5_text 68 = .ok (.aload_n 0, 1) := by decide +kernel
theorem dX5_text_69 : decode cX5_text 69 = .ok (.getfield 70, 3) := by decide +kernel
theorem dX5_text_72 : decode cX5_text 72 = .ok (.iconst 0, 1) := by decide +kernel
theorem dX5_text_73 : decode cX5_text 73 = .ok (.invokevirtual 247, 3) := by decide +kernel
theorem dX5_text_76 : decode cX5_text 76 = .ok (.istore_n 1, 1) := by decide +kernel
theorem dX5_text_77 : decode cX5_text 77 = .ok (.aload_n 0, 1) := by decide +kernel
theorem dX5_text_78 : decode cX5_text 78 = .ok (.getfield 169, 3) := by decide +kernel
theorem dX5_text_81 : decode cX5_text 81 = .ok (.ifCond .eq 11, 3) := by decide +kernel
theorem dX5_text_84 : decode cX5_text 84 = .ok (.bipush (-100), 2) := by decide +kernel
theorem dX5_text_86 : decode cX5_text 86 = .ok (.aload_n 0, 1) := by decide +kernel
theorem dX5_text_87 : decode cX5_text 87 = .ok (.getfield 173, 3) := by decide +kernel
theorem dX5_text_90 : decode cX5_text 90 = .ok (.isub, 1) := by decide +kernel
theorem dX5_text_91 : decode cX5_text 91 = .ok (.ireturn, 1) := by decide +kernel
theorem dX5_text_92 : decode cX5_text 92 = .ok (.aload_n 0, 1) := by decide +kernel
theorem dX5_text_93 : decode cX5_text 93 = .ok (.dup, 1) := by decide +kernel
theorem dX5_text_94 : decode cX5_text 94 = .ok (.getfield 70, 3) := by decide +kernel
theorem dX5_text_97 : decode cX5_text 97 = .ok (.iconst 1, 1) := by decide +kernel
theorem dX5_text_98 : decode cX5_text 98 = .ok (.iadd, 1) := by decide +kernel
theorem dX5_text_99 : decode cX5_text 99 = .ok (.putfield 70, 3) := by decide +kernel
theorem dX5_text_102 : decode cX5_text 102 = .ok (.aload_n 0, 1) := by decide +kernel
theorem dX5_text_103 : decode cX5_text 103 = .ok (.getfield 70, 3) := by decide +kernel
theorem dX5_text_106 : decode cX5_text 106 = .ok (.iconst 1, 1) := by decide +kernel
theorem dX5_text_107 : decode cX5_text 107 = .ok (.isub, 1) := by decide +kernel
theorem dX5_text_108 : decode cX5_text 108 = .ok (.ireturn, 1) := by decide +kernel
theorem dX5_force_0 : decode cX5_force 0 = .ok (.iload_n 1, 1) := by decide +kernel
theorem dX5_force_1 : decode cX5_force 1 = .ok (.i2l, 1) := by decide +kernel
theorem dX5_force_2 : decode cX5_force 2 = .ok (.lconst 0, 1) := by decide +kernel
theorem dX5_force_3 : decode cX5_force 3 = .ok (.aload_n 0, 1) := by decide +kernel
theorem dX5_force_4 : decode cX5_force 4 = .ok (.getfield 70, 3) := by decide +kernel
theorem dX5_force_7 : decode cX5_force 7 = .ok (.iconst 1, 1) := by decide +kernel
theorem dX5_force_8 : decode cX5_force 8 = .ok (.isub, 1) := by decide +kernel
theorem dX5_force_9 : decode cX5_force 9 = .ok (.i2l, 1) := by decide +kernel
theorem dX5_force_10 : decode cX5_force 10 = .ok (.invokestatic 76, 3) := by decide +kernel
theorem dX5_force_13 : decode cX5_force 13 = .ok (.ifCond .ne 6, 3) := by decide +kernel
theorem dX5_force_16 : decode cX5_force 16 = .ok (.bipush (-2), 2) := by decide +kernel
theorem dX5_force_18 : decode cX5_force 18 = .ok (.ireturn, 1) := by decide +kernel
theorem dX5_force_19 : decode cX5_force 19 = .ok (.aload_n 0, 1) := by decide +kernel
theorem dX5_force_20 : decode cX5_force 20 = .ok (.getfield 113, 3) := by decide +kernel
theorem dX5_force_23 : decode cX5_force 23 = .ok (.istore_n 2, 1) := by decide +kernel
theorem dX5_force_24 : decode cX5_force 24 = .ok (.aload_n 0, 1) := by decide +kernel
theorem dX5_force_25 : decode cX5_force 25 = .ok (.iload_n 1, 1) := by decide +kernel
theorem dX5_force_26 : decode cX5_force 26 = .ok (.putfield 113, 3) := by decide +kernel
theorem dX5_force_29 : decode cX5_force 29 = .ok (.iload_n 2, 1) := by decide +kernel
theorem dX5_force_30 : decode cX5_force 30 = .ok (.ireturn, 1) := by decide +kernel
theorem dX5_says_0 : decode cX5_says 0 = .ok (.aload_n 0, 1) := by decide +kernel
theorem dX5_says_1 : decode cX5_says 1 = .ok (.aload_n 0, 1) := by decide +kernel
theorem dX5_says_2 : decode cX5_says 2 = .ok (.getfield 32, 3) := by decide +kernel
theorem dX5_says_5 : decode cX5_says 5 = .ok (.iconst 4, 1) := by decide +kernel
theorem dX5_says_6 : decode cX5_says 6 = .ok (.iload_n 2, 1) := by decide +kernel
theorem dX5_says_7 : decode cX5_says 7 = .ok (.imul, 1) := by decide +kernel
theorem dX5_says_8 : decode cX5_says 8 = .ok (.iconst 1, 1) := by decide +kernel
theorem dX5_says_9 : decode cX5_says 9 = .ok (.iadd, 1) := by decide +kernel
theorem dX5_says_10 : decode cX5_says 10 = .ok (.iaload, 1) := by decide +kernel
theorem dX5_says_11 : decode cX5_says 11 = .ok (.putfield 192, 3) := by decide +kernel
theorem dX5_says_14 : decode cX5_says 14 = .ok (.aload_n 0, 1) := by decide +kernel
theorem dX5_says_15 : decode cX5_says 15 = .ok (.iload_n 3, 1) := by decide +kernel
theorem dX5_says_16 : decode cX5_says 16 = .ok (.iconst (-1), 1) := by decide +kernel
theorem dX5_says_17 : decode cX5_says 17 = .ok (.if_icmp .ne 7, 3) := by decide +kernel
theorem dX5_says_20 : decode cX5_says 20 = .ok (.iconst 0, 1) := by decide +kernel
theorem dX5_says_21 : decode cX5_says 21 = .ok (.goto 9, 3) := by decide +kernel
theorem dX5_says_24 : decode cX5_says 24 = .ok (.aload_n 0, 1) := by decide +kernel
theorem dX5_says_25 : decode cX5_says 25 = .ok (.getfield 29, 3) := by decide +kernel
theorem dX5_says_28 : decode cX5_says 28 = .ok (.iload_n 3, 1) := by decide +kernel
theorem dX5_says_29 : decode cX5_says 29 = .ok (.iaload, 1) := by decide +kernel
theorem dX5_says_30 : decode cX5_says 30 = .ok (.putfield 195, 3) := by decide +kernel
theorem dX5_says_33 : decode cX5_says 33 = .ok (.aload_n 0, 1) := by decide +kernel
theorem dX5_says_34 : decode cX5_says 34 = .ok (.aload_n 0, 1) := by decide +kernel
theorem dX5_says_35 : decode cX5_says 35 = .ok (.getfield 32, 3) := by decide +kernel
theorem dX5_says_38 : decode cX5_says 38 = .ok (.iconst 4, 1) := by decide +kernel
theorem dX5_says_39 : decode cX5_says 39 = .ok (.iload_n 2, 1) := by decide +kernel
theorem dX5_says_40 : decode cX5_says 40 = .ok (.imul, 1) := by decide +kernel
theorem dX5_says_41 : decode cX5_says 41 = .ok (.iaload, 1) := by decide +kernel
theorem dX5_says_42 : decode cX5_says 42 = .ok (.putfield 198, 3) := by decide +kernel
theorem dX5_says_45 : decode cX5_says 45 = .ok (.aload_n 0, 1) := by decide +kernel
theorem dX5_says_46 : decode cX5_says 46 = .ok (.aload_n 0, 1) := by decide +kernel
theorem dX5_says_47 : decode cX5_says 47 = .ok (.getfield 107, 3) := by decide +kernel
theorem dX5_says_50 : decode cX5_says 50 = .ok (.putfield 201, 3) := by decide +kernel
theorem dX5_says_53 : decode cX5_says 53 = .ok (.aload_n 0, 1) := by decide +kernel
theorem dX5_says_54 : decode cX5_says 54 = .ok (.aload_n 0, 1) := by decide +kernel
theorem dX5_says_55 : decode cX5_says 55 = .ok (.getfield 110, 3) := by decide +kernel
theorem dX5_says_58 : decode cX5_says 58 = .ok (.putfield 204, 3) := by decide +kernel
theorem dX5_says_61 : decode cX5_says 61 = .ok (.aload_n 0, 1) := by decide +kernel
theorem dX5_says_62 : decode cX5_says 62 = .ok (.iload_n 3, 1) := by decide +kernel
theorem dX5_says_63 : decode cX5_says 63 = .ok (.iconst (-1), 1) := by decide +kernel
theorem dX5_says_64 : decode cX5_says 64 = .ok (.if_icmp .ne 7, 3) := by decide +kernel
theorem dX5_says_67 : decode cX5_says 67 = .ok (.iconst 0, 1) := by decide +kernel
theorem dX5_says_68 : decode cX5_says 68 = .ok (.goto 4, 3) := by decide +kernel
theorem dX5_says_71 : decode cX5_says 71 = .ok (.iload_n 3, 1) := by decide +kernel
theorem dX5_says_72 : decode cX5_says 72 = .ok (.putfield 207, 3) := by decide +kernel
theorem dX5_says_75 : decode cX5_says 75 = .ok (.aload_n 0, 1) := by decide +kernel
theorem dX5_says_76 : decode cX5_says 76 = .ok (.aload_n 0, 1) := by decide +kernel
theorem dX5_says_77 : decode cX5_says 77 = .ok (.getfield 113, 3) := by decide +kernel
theorem dX5_says_80 : decode cX5_says 80 = .ok (.iload_n 1, 1) := by decide +kernel
theorem dX5_says_81 : decode cX5_says 81 = .ok (.invokevirtual 247, 3) := by decide +kernel
theorem dX5_says_84 : decode cX5_says 84 = .ok (.iconst 0, 1) := by decide +kernel
theorem dX5_says_85 : decode cX5_says 85 = .ok (.bipush 99, 2) := by decide +kernel
theorem dX5_says_87 : decode cX5_says 87 = .ok (.invokestatic 250, 3) := by decide +kernel
theorem dX5_says_90 : decode cX5_says 90 = .ok (.ireturn, 1) := by decide +kernel
theorem dX5_makesOf_0 : decode cX5_makesOf 0 = .ok (.aload_n 0, 1) := by decide +kernel
theorem dX5_makesOf_1 : decode cX5_makesOf 1 = .ok (.getfield 32, 3) := by decide +kernel
theorem dX5_makesOf_4 : decode cX5_makesOf 4 = .ok (.iconst 4, 1) := by decide +kernel
theorem dX5_makesOf_5 : decode cX5_makesOf 5 = .ok (.iload_n 1, 1) := by decide +kernel
theorem dX5_makesOf_6 : decode cX5_makesOf 6 = .ok (.imul, 1) := by decide +kernel
theorem dX5_makesOf_7 : decode cX5_makesOf 7 = .ok (.iconst 2, 1) := by decide +kernel
theorem dX5_makesOf_8 : decode cX5_makesOf 8 = .ok (.iadd, 1) := by decide +kernel
theorem dX5_makesOf_9 : decode cX5_makesOf 9 = .ok (.iaload, 1) := by decide +kernel
theorem dX5_makesOf_10 : decode cX5_makesOf 10 = .ok (.istore_n 3, 1) := by decide +kernel
theorem dX5_makesOf_11 : decode cX5_makesOf 11 = .ok (.iload_n 3, 1) := by decide +kernel
theorem dX5_makesOf_12 : decode cX5_makesOf 12 = .ok (.iconst 5, 1) := by decide +kernel
theorem dX5_makesOf_13 : decode cX5_makesOf 13 = .ok (.if_icmp .ne 17, 3) := by decide +kernel
theorem dX5_makesOf_16 : decode cX5_makesOf 16 = .ok (.iload_n 2, 1) := by decide +kernel
theorem dX5_makesOf_17 : decode cX5_makesOf 17 = .ok (.invokestatic 254, 3) := by decide +kernel
theorem dX5_makesOf_20 : decode cX5_makesOf 20 = .ok (.ifCond .eq 7, 3) := by decide +kernel
theorem dX5_makesOf_23 : decode cX5_makesOf 23 = .ok (.iconst 0, 1) := by decide +kernel
theorem dX5_makesOf_24 : decode cX5_makesOf 24 = .ok (.goto 5, 3) := by decide +kernel
theorem dX5_makesOf_27 : decode cX5_makesOf 27 = .ok (.bipush 99, 2) := by decide +kernel
theorem dX5_makesOf_29 : decode cX5_makesOf 29 = .ok (.ireturn, 1) := by decide +kernel
theorem dX5_makesOf_30 : decode cX5_makesOf 30 = .ok (.aload_n 0, 1) := by decide +kernel
theorem dX5_makesOf_31 : decode cX5_makesOf 31 = .ok (.iconst 0, 1) := by decide +kernel
theorem dX5_makesOf_32 : decode cX5_makesOf 32 = .ok (.iload_n 1, 1) := by decide +kernel
theorem dX5_makesOf_33 : decode cX5_makesOf 33 = .ok (.iload_n 2, 1) := by decide +kernel
theorem dX5_makesOf_34 : decode cX5_makesOf 34 = .ok (.invokevirtual 257, 3) := by decide +kernel
theorem dX5_makesOf_37 : decode cX5_makesOf 37 = .ok (.istore 4, 2) := by decide +kernel
theorem dX5_makesOf_39 : decode cX5_makesOf 39 = .ok (.aload_n 0, 1) := by decide +kernel
theorem dX5_makesOf_40 : decode cX5_makesOf 40 = .ok (.iload_n 1, 1) := by decide +kernel
theorem dX5_makesOf_41 : decode cX5_makesOf 41 = .ok (.invokevirtual 120, 3) := by decide +kernel
theorem dX5_makesOf_44 : decode cX5_makesOf 44 = .ok (.iconst 1, 1) := by decide +kernel
theorem dX5_makesOf_45 : decode cX5_makesOf 45 = .ok (.iload_n 2, 1) := by decide +kernel
theorem dX5_makesOf_46 : decode cX5_makesOf 46 = .ok (.ishl, 1) := by decide +kernel
theorem dX5_makesOf_47 : decode cX5_makesOf 47 = .ok (.iconst (-1), 1) := by decide +kernel
theorem dX5_makesOf_48 : decode cX5_makesOf 48 = .ok (.ixor, 1) := by decide +kernel
theorem dX5_makesOf_49 : decode cX5_makesOf 49 = .ok (.iand, 1) := by decide +kernel
theorem dX5_makesOf_50 : decode cX5_makesOf 50 = .ok (.invokestatic 260, 3) := by decide +kernel
theorem dX5_makesOf_53 : decode cX5_makesOf 53 = .ok (.istore 5, 2) := by decide +kernel
theorem dX5_makesOf_55 : decode cX5_makesOf 55 = .ok (.iload_n 2, 1) := by decide +kernel
theorem dX5_makesOf_56 : decode cX5_makesOf 56 = .ok (.invokestatic 254, 3) := by decide +kernel
theorem dX5_makesOf_59 : decode cX5_makesOf 59 = .ok (.ifCond .eq 17, 3) := by decide +kernel
theorem dX5_makesOf_62 : decode cX5_makesOf 62 = .ok (.iload 4, 2) := by decide +kernel
theorem dX5_makesOf_64 : decode cX5_makesOf 64 = .ok (.aload_n 0, 1) := by decide +kernel
theorem dX5_makesOf_65 : decode cX5_makesOf 65 = .ok (.getfield 32, 3) := by decide +kernel
theorem dX5_makesOf_68 : decode cX5_makesOf 68 = .ok (.iconst 4, 1) := by decide +kernel
theorem dX5_makesOf_69 : decode cX5_makesOf 69 = .ok (.iload_n 1, 1) := by decide +kernel
theorem dX5_makesOf_70 : decode cX5_makesOf 70 = .ok (.imul, 1) := by decide +kernel
theorem dX5_makesOf_71 : decode cX5_makesOf 71 = .ok (.iaload, 1) := by decide +kernel
theorem dX5_makesOf_72 : decode cX5_makesOf 72 = .ok (.iadd, 1) := by decide +kernel
theorem dX5_makesOf_73 : decode cX5_makesOf 73 = .ok (.goto 5, 3) := by decide +kernel
theorem dX5_makesOf_76 : decode cX5_makesOf 76 = .ok (.iload 4, 2) := by decide +kernel
theorem dX5_makesOf_78 : decode cX5_makesOf 78 = .ok (.iconst 0, 1) := by decide +kernel
theorem dX5_makesOf_79 : decode cX5_makesOf 79 = .ok (.bipush 99, 2) := by decide +kernel
theorem dX5_makesOf_81 : decode cX5_makesOf 81 = .ok (.invokestatic 250, 3) := by decide +kernel
theorem dX5_makesOf_84 : decode cX5_makesOf 84 = .ok (.istore 6, 2) := by decide +kernel
theorem dX5_makesOf_86 : decode cX5_makesOf 86 = .ok (.iload 5, 2) := by decide +kernel
theorem dX5_makesOf_88 : decode cX5_makesOf 88 = .ok (.ifCond .ne 10, 3) := by decide +kernel
theorem dX5_makesOf_91 : decode cX5_makesOf 91 = .ok (.iload 4, 2) := by decide +kernel
theorem dX5_makesOf_93 : decode cX5_makesOf 93 = .ok (.iconst 2, 1) := by decide +kernel
theorem dX5_makesOf_94 : decode cX5_makesOf 94 = .ok (.idiv, 1) := by decide +kernel
theorem dX5_makesOf_95 : decode cX5_makesOf 95 = .ok (.goto 5, 3) := by decide +kernel
theorem dX5_makesOf_98 : decode cX5_makesOf 98 = .ok (.iload 4, 2) := by decide +kernel
theorem dX5_makesOf_100 : decode cX5_makesOf 100 = .ok (.istore 7, 2) := by decide +kernel
theorem dX5_makesOf_102 : decode cX5_makesOf 102 = .ok (.iload_n 3, 1) := by decide +kernel
theorem dX5_makesOf_103 : decode cX5_makesOf 103 = .ok (.iconst 1, 1) := by decide +kernel
theorem dX5_makesOf_104 : decode cX5_makesOf 104 = .ok (.if_icmp .ne 8, 3) := by decide +kernel
theorem dX5_makesOf_107 : decode cX5_makesOf 107 = .ok (.iload 6, 2) := by decide +kernel
theorem dX5_makesOf_109 : decode cX5_makesOf 109 = .ok (.goto 41, 3) := by decide +kernel
theorem dX5_makesOf_112 : decode cX5_makesOf 112 = .ok (.iload_n 3, 1) := by decide +kernel
theorem dX5_makesOf_113 : decode cX5_makesOf 113 = .ok (.iconst 3, 1) := by decide +kernel
theorem dX5_makesOf_114 : decode cX5_makesOf 114 = .ok (.if_icmp .ne 11, 3) := by decide +kernel
theorem dX5_makesOf_117 : decode cX5_makesOf 117 = .ok (.iload 6, 2) := by decide +kernel
theorem dX5_makesOf_119 : decode cX5_makesOf 119 = .ok (.iload 5, 2) := by decide +kernel
theorem dX5_makesOf_121 : decode cX5_makesOf 121 = .ok (.iadd, 1) := by decide +kernel
theorem dX5_makesOf_122 : decode cX5_makesOf 122 = .ok (.goto 28, 3) := by decide +kernel
theorem dX5_makesOf_125 : decode cX5_makesOf 125 = .ok (.iload_n 3, 1) := by decide +kernel
theorem dX5_makesOf_126 : decode cX5_makesOf 126 = .ok (.iconst 2, 1) := by decide +kernel
theorem dX5_makesOf_127 : decode cX5_makesOf 127 = .ok (.if_icmp .ne 8, 3) := by decide +kernel
theorem dX5_makesOf_130 : decode cX5_makesOf 130 = .ok (.iload 7, 2) := by decide +kernel
theorem dX5_makesOf_132 : decode cX5_makesOf 132 = .ok (.goto 18, 3) := by decide +kernel
theorem dX5_makesOf_135 : decode cX5_makesOf 135 = .ok (.iload_n 3, 1) := by decide +kernel
theorem dX5_makesOf_136 : decode cX5_makesOf 136 = .ok (.iconst 4, 1) := by decide +kernel
theorem dX5_makesOf_137 : decode cX5_makesOf 137 = .ok (.if_icmp .ne 11, 3) := by decide +kernel
theorem dX5_makesOf_140 : decode cX5_makesOf 140 = .ok (.iload 7, 2) := by decide +kernel
theorem dX5_makesOf_142 : decode cX5_makesOf 142 = .ok (.bipush 10, 2) := by decide +kernel
theorem dX5_makesOf_144 : decode cX5_makesOf 144 = .ok (.iadd, 1) := by decide +kernel
theorem dX5_makesOf_145 : decode cX5_makesOf 145 = .ok (.goto 5, 3) := by decide +kernel
theorem dX5_makesOf_148 : decode cX5_makesOf 148 = .ok (.iload 4, 2) := by decide +kernel
theorem dX5_makesOf_150 : decode cX5_makesOf 150 = .ok (.iconst 0, 1) := by decide +kernel
theorem dX5_makesOf_151 : decode cX5_makesOf 151 = .ok (.bipush 99, 2) := by decide +kernel
theorem dX5_makesOf_153 : decode cX5_makesOf 153 = .ok (.invokestatic 250, 3) := by decide +kernel
theorem dX5_makesOf_156 : decode cX5_makesOf 156 = .ok (.ireturn, 1) := by decide +kernel
theorem dX5_mendsOf_0 : decode cX5_mendsOf 0 = .ok (.aload_n 0, 1) := by decide +kernel
theorem dX5_mendsOf_1 : decode cX5_mendsOf 1 = .ok (.getfield 32, 3) := by decide +kernel
theorem dX5_mendsOf_4 : decode cX5_mendsOf 4 = .ok (.iconst 4, 1) := by decide +kernel
theorem dX5_mendsOf_5 : decode cX5_mendsOf 5 = .ok (.iload_n 1, 1) := by decide +kernel
theorem dX5_mendsOf_6 : decode cX5_mendsOf 6 = .ok (.imul, 1) := by decide +kernel
theorem dX5_mendsOf_7 : decode cX5_mendsOf 7 = .ok (.iconst 2, 1) := by decide +kernel
theorem dX5_mendsOf_8 : decode cX5_mendsOf 8 = .ok (.iadd, 1) := by decide +kernel
theorem dX5_mendsOf_9 : decode cX5_mendsOf 9 = .ok (.iaload, 1) := by decide +kernel
theorem dX5_mendsOf_10 : decode cX5_mendsOf 10 = .ok (.istore_n 3, 1) := by decide +kernel
theorem dX5_mendsOf_11 : decode cX5_mendsOf 11 = .ok (.iload_n 3, 1) := by decide +kernel
theorem dX5_mendsOf_12 : decode cX5_mendsOf 12 = .ok (.iconst 5, 1) := by decide +kernel
theorem dX5_mendsOf_13 : decode cX5_mendsOf 13 = .ok (.if_icmp .eq 19, 3) := by decide +kernel
theorem dX5_mendsOf_16 : decode cX5_mendsOf 16 = .ok (.iload_n 3, 1) := by decide +kernel
theorem dX5_mendsOf_17 : decode cX5_mendsOf 17 = .ok (.iconst 4, 1) := by decide +kernel
theorem dX5_mendsOf_18 : decode cX5_mendsOf 18 = .ok (.if_icmp .ne 16, 3) := by decide +kernel
theorem dX5_mendsOf_21 : decode cX5_mendsOf 21 = .ok (.aload_n 0, 1) := by decide +kernel
theorem dX5_mendsOf_22 : decode cX5_mendsOf 22 = .ok (.getfield 29, 3) := by decide +kernel
theorem dX5_mendsOf_25 : decode cX5_mendsOf 25 = .ok (.iload_n 2, 1) := by decide +kernel
theorem dX5_mendsOf_26 : decode cX5_mendsOf 26 = .ok (.iaload, 1) := by decide +kernel
theorem dX5_mendsOf_27 : decode cX5_mendsOf 27 = .ok (.bipush 49, 2) := by decide +kernel
theorem dX5_mendsOf_29 : decode cX5_mendsOf 29 = .ok (.if_icmp .le 5, 3) := by decide +kernel
theorem dX5_mendsOf_32 : decode cX5_mendsOf 32 = .ok (.iconst 0, 1) := by decide +kernel
theorem dX5_mendsOf_33 : decode cX5_mendsOf 33 = .ok (.ireturn, 1) := by decide +kernel
theorem dX5_mendsOf_34 : decode cX5_mendsOf 34 = .ok (.aload_n 0, 1) := by decide +kernel
theorem dX5_mendsOf_35 : decode cX5_mendsOf 35 = .ok (.iconst 1, 1) := by decide +kernel
theorem dX5_mendsOf_36 : decode cX5_mendsOf 36 = .ok (.iload_n 1, 1) := by decide +kernel
theorem dX5_mendsOf_37 : decode cX5_mendsOf 37 = .ok (.iload_n 2, 1) := by decide +kernel
theorem dX5_mendsOf_38 : decode cX5_mendsOf 38 = .ok (.invokevirtual 257, 3) := by decide +kernel
theorem dX5_mendsOf_41 : decode cX5_mendsOf 41 = .ok (.istore 4, 2) := by decide +kernel
theorem dX5_mendsOf_43 : decode cX5_mendsOf 43 = .ok (.iload_n 2, 1) := by decide +kernel
theorem dX5_mendsOf_44 : decode cX5_mendsOf 44 = .ok (.invokestatic 254, 3) := by decide +kernel
theorem dX5_mendsOf_47 : decode cX5_mendsOf 47 = .ok (.ifCond .eq 10, 3) := by decide +kernel
theorem dX5_mendsOf_50 : decode cX5_mendsOf 50 = .ok (.iconst 2, 1) := by decide +kernel
theorem dX5_mendsOf_51 : decode cX5_mendsOf 51 = .ok (.iload 4, 2) := by decide +kernel
theorem dX5_mendsOf_53 : decode cX5_mendsOf 53 = .ok (.imul, 1) := by decide +kernel
theorem dX5_mendsOf_54 : decode cX5_mendsOf 54 = .ok (.goto 5, 3) := by decide +kernel
theorem dX5_mendsOf_57 : decode cX5_mendsOf 57 = .ok (.iload 4, 2) := by decide +kernel
theorem dX5_mendsOf_59 : decode cX5_mendsOf 59 = .ok (.iconst 0, 1) := by decide +kernel
theorem dX5_mendsOf_60 : decode cX5_mendsOf 60 = .ok (.bipush 99, 2) := by decide +kernel
theorem dX5_mendsOf_62 : decode cX5_mendsOf 62 = .ok (.invokestatic 250, 3) := by decide +kernel
theorem dX5_mendsOf_65 : decode cX5_mendsOf 65 = .ok (.istore 5, 2) := by decide +kernel
theorem dX5_mendsOf_67 : decode cX5_mendsOf 67 = .ok (.iload_n 3, 1) := by decide +kernel
theorem dX5_mendsOf_68 : decode cX5_mendsOf 68 = .ok (.iconst 1, 1) := by decide +kernel
theorem dX5_mendsOf_69 : decode cX5_mendsOf 69 = .ok (.if_icmp .ne 8, 3) := by decide +kernel
theorem dX5_mendsOf_72 : decode cX5_mendsOf 72 = .ok (.iload 5, 2) := by decide +kernel
theorem dX5_mendsOf_74 : decode cX5_mendsOf 74 = .ok (.goto 17, 3) := by decide +kernel
theorem dX5_mendsOf_77 : decode cX5_mendsOf 77 = .ok (.iload_n 3, 1) := by decide +kernel
theorem dX5_mendsOf_78 : decode cX5_mendsOf 78 = .ok (.iconst 3, 1) := by decide +kernel
theorem dX5_mendsOf_79 : decode cX5_mendsOf 79 = .ok (.if_icmp .ne 10, 3) := by decide +kernel
theorem dX5_mendsOf_82 : decode cX5_mendsOf 82 = .ok (.iload 5, 2) := by decide +kernel
theorem dX5_mendsOf_84 : decode cX5_mendsOf 84 = .ok (.iconst 1, 1) := by decide +kernel
theorem dX5_mendsOf_85 : decode cX5_mendsOf 85 = .ok (.iadd, 1) := by decide +kernel
theorem dX5_mendsOf_86 : decode cX5_mendsOf 86 = .ok (.goto 5, 3) := by decide +kernel
theorem dX5_mendsOf_89 : decode cX5_mendsOf 89 = .ok (.iload 4, 2) := by decide +kernel
theorem dX5_mendsOf_91 : decode cX5_mendsOf 91 = .ok (.iconst 0, 1) := by decide +kernel
theorem dX5_mendsOf_92 : decode cX5_mendsOf 92 = .ok (.bipush 99, 2) := by decide +kernel
theorem dX5_mendsOf_94 : decode cX5_mendsOf 94 = .ok (.invokestatic 250, 3) := by decide +kernel
theorem dX5_mendsOf_97 : decode cX5_mendsOf 97 = .ok (.ireturn, 1) := by decide +kernel
theorem dX5_pumpsOf_0 : decode cX5_pumpsOf 0 = .ok (.aload_n 0, 1) := by decide +kernel
theorem dX5_pumpsOf_1 : decode cX5_pumpsOf 1 = .ok (.getfield 32, 3) := by decide +kernel
theorem dX5_pumpsOf_4 : decode cX5_pumpsOf 4 = .ok (.iconst 4, 1) := by decide +kernel
theorem dX5_pumpsOf_5 : decode cX5_pumpsOf 5 = .ok (.iload_n 1, 1) := by decide +kernel
theorem dX5_pumpsOf_6 : decode cX5_pumpsOf 6 = .ok (.imul, 1) := by decide +kernel
theorem dX5_pumpsOf_7 : decode cX5_pumpsOf 7 = .ok (.iconst 2, 1) := by decide +kernel
theorem dX5_pumpsOf_8 : decode cX5_pumpsOf 8 = .ok (.iadd, 1) := by decide +kernel
theorem dX5_pumpsOf_9 : decode cX5_pumpsOf 9 = .ok (.iaload, 1) := by decide +kernel
theorem dX5_pumpsOf_10 : decode cX5_pumpsOf 10 = .ok (.istore_n 2, 1) := by decide +kernel
theorem dX5_pumpsOf_11 : decode cX5_pumpsOf 11 = .ok (.iload_n 2, 1) := by decide +kernel
theorem dX5_pumpsOf_12 : decode cX5_pumpsOf 12 = .ok (.iconst 5, 1) := by decide +kernel
theorem dX5_pumpsOf_13 : decode cX5_pumpsOf 13 = .ok (.if_icmp .eq 17, 3) := by decide +kernel
theorem dX5_pumpsOf_16 : decode cX5_pumpsOf 16 = .ok (.iload_n 2, 1) := by decide +kernel
theorem dX5_pumpsOf_17 : decode cX5_pumpsOf 17 = .ok (.iconst 4, 1) := by decide +kernel
theorem dX5_pumpsOf_18 : decode cX5_pumpsOf 18 = .ok (.if_icmp .ne 30, 3) := by decide +kernel
theorem dX5_pumpsOf_21 : decode cX5_pumpsOf 21 = .ok (.aload_n 0, 1) := by decide +kernel
theorem dX5_pumpsOf_22 : decode cX5_pumpsOf 22 = .ok (.getfield 110, 3) := by decide +kernel
theorem dX5_pumpsOf_25 : decode cX5_pumpsOf 25 = .ok (.bipush 30, 2) := by decide +kernel
theorem dX5_pumpsOf_27 : decode cX5_pumpsOf 27 = .ok (.if_icmp .ge 21, 3) := by decide +kernel
theorem dX5_pumpsOf_30 : decode cX5_pumpsOf 30 = .ok (.iload_n 2, 1) := by decide +kernel
theorem dX5_pumpsOf_31 : decode cX5_pumpsOf 31 = .ok (.iconst 5, 1) := by decide +kernel
theorem dX5_pumpsOf_32 : decode cX5_pumpsOf 32 = .ok (.if_icmp .ne 14, 3) := by decide +kernel
theorem dX5_pumpsOf_35 : decode cX5_pumpsOf 35 = .ok (.aload_n 0, 1) := by decide +kernel
theorem dX5_pumpsOf_36 : decode cX5_pumpsOf 36 = .ok (.getfield 32, 3) := by decide +kernel
theorem dX5_pumpsOf_39 : decode cX5_pumpsOf 39 = .ok (.iconst 4, 1) := by decide +kernel
theorem dX5_pumpsOf_40 : decode cX5_pumpsOf 40 = .ok (.iload_n 1, 1) := by decide +kernel
theorem dX5_pumpsOf_41 : decode cX5_pumpsOf 41 = .ok (.imul, 1) := by decide +kernel
theorem dX5_pumpsOf_42 : decode cX5_pumpsOf 42 = .ok (.iaload, 1) := by decide +kernel
theorem dX5_pumpsOf_43 : decode cX5_pumpsOf 43 = .ok (.goto 4, 3) := by decide +kernel
theorem dX5_pumpsOf_46 : decode cX5_pumpsOf 46 = .ok (.iconst 0, 1) := by decide +kernel
theorem dX5_pumpsOf_47 : decode cX5_pumpsOf 47 = .ok (.ireturn, 1) := by decide +kernel
theorem dX5_pumpsOf_48 : decode cX5_pumpsOf 48 = .ok (.aload_n 0, 1) := by decide +kernel
theorem dX5_pumpsOf_49 : decode cX5_pumpsOf 49 = .ok (.iconst 2, 1) := by decide +kernel
theorem dX5_pumpsOf_50 : decode cX5_pumpsOf 50 = .ok (.iload_n 1, 1) := by decide +kernel
theorem dX5_pumpsOf_51 : decode cX5_pumpsOf 51 = .ok (.iconst (-1), 1) := by decide +kernel
theorem dX5_pumpsOf_52 : decode cX5_pumpsOf 52 = .ok (.invokevirtual 257, 3) := by decide +kernel
theorem dX5_pumpsOf_55 : decode cX5_pumpsOf 55 = .ok (.istore_n 3, 1) := by decide +kernel
theorem dX5_pumpsOf_56 : decode cX5_pumpsOf 56 = .ok (.aload_n 0, 1) := by decide +kernel
theorem dX5_pumpsOf_57 : decode cX5_pumpsOf 57 = .ok (.iconst 1, 1) := by decide +kernel
theorem dX5_pumpsOf_58 : decode cX5_pumpsOf 58 = .ok (.invokevirtual 263, 3) := by decide +kernel
theorem dX5_pumpsOf_61 : decode cX5_pumpsOf 61 = .ok (.iconst 1, 1) := by decide +kernel
theorem dX5_pumpsOf_62 : decode cX5_pumpsOf 62 = .ok (.iload_n 1, 1) := by decide +kernel
theorem dX5_pumpsOf_63 : decode cX5_pumpsOf 63 = .ok (.ishl, 1) := by decide +kernel
theorem dX5_pumpsOf_64 : decode cX5_pumpsOf 64 = .ok (.iconst (-1), 1) := by decide +kernel
theorem dX5_pumpsOf_65 : decode cX5_pumpsOf 65 = .ok (.ixor, 1) := by decide +kernel
theorem dX5_pumpsOf_66 : decode cX5_pumpsOf 66 = .ok (.iand, 1) := by decide +kernel
theorem dX5_pumpsOf_67 : decode cX5_pumpsOf 67 = .ok (.invokestatic 260, 3) := by decide +kernel
theorem dX5_pumpsOf_70 : decode cX5_pumpsOf 70 = .ok (.istore 4, 2) := by decide +kernel
theorem dX5_pumpsOf_72 : decode cX5_pumpsOf 72 = .ok (.iload_n 2, 1) := by decide +kernel
theorem dX5_pumpsOf_73 : decode cX5_pumpsOf 73 = .ok (.iconst 1, 1) := by decide +kernel
theorem dX5_pumpsOf_74 : decode cX5_pumpsOf 74 = .ok (.if_icmp .eq 8, 3) := by decide +kernel
theorem dX5_pumpsOf_77 : decode cX5_pumpsOf 77 = .ok (.iload_n 2, 1) := by decide +kernel
theorem dX5_pumpsOf_78 : decode cX5_pumpsOf 78 = .ok (.iconst 3, 1) := by decide +kernel
theorem dX5_pumpsOf_79 : decode cX5_pumpsOf 79 = .ok (.if_icmp .ne 9, 3) := by decide +kernel
theorem dX5_pumpsOf_82 : decode cX5_pumpsOf 82 = .ok (.iload_n 3, 1) := by decide +kernel
theorem dX5_pumpsOf_83 : decode cX5_pumpsOf 83 = .ok (.iconst 2, 1) := by decide +kernel
theorem dX5_pumpsOf_84 : decode cX5_pumpsOf 84 = .ok (.idiv, 1) := by decide +kernel
theorem dX5_pumpsOf_85 : decode cX5_pumpsOf 85 = .ok (.goto 21, 3) := by decide +kernel
theorem dX5_pumpsOf_88 : decode cX5_pumpsOf 88 = .ok (.iload_n 2, 1) := by decide +kernel
theorem dX5_pumpsOf_89 : decode cX5_pumpsOf 89 = .ok (.iconst 2, 1) := by decide +kernel
theorem dX5_pumpsOf_90 : decode cX5_pumpsOf 90 = .ok (.if_icmp .eq 8, 3) := by decide +kernel
theorem dX5_pumpsOf_93 : decode cX5_pumpsOf 93 = .ok (.iload_n 2, 1) := by decide +kernel
theorem dX5_pumpsOf_94 : decode cX5_pumpsOf 94 = .ok (.iconst 4, 1) := by decide +kernel
theorem dX5_pumpsOf_95 : decode cX5_pumpsOf 95 = .ok (.if_icmp .ne 10, 3) := by decide +kernel
theorem dX5_pumpsOf_98 : decode cX5_pumpsOf 98 = .ok (.iload_n 3, 1) := by decide +kernel
theorem dX5_pumpsOf_99 : decode cX5_pumpsOf 99 = .ok (.iload 4, 2) := by decide +kernel
theorem dX5_pumpsOf_101 : decode cX5_pumpsOf 101 = .ok (.iadd, 1) := by decide +kernel
theorem dX5_pumpsOf_102 : decode cX5_pumpsOf 102 = .ok (.goto 4, 3) := by decide +kernel
theorem dX5_pumpsOf_105 : decode cX5_pumpsOf 105 = .ok (.iload_n 3, 1) := by decide +kernel
theorem dX5_pumpsOf_106 : decode cX5_pumpsOf 106 = .ok (.iconst 0, 1) := by decide +kernel
theorem dX5_pumpsOf_107 : decode cX5_pumpsOf 107 = .ok (.bipush 99, 2) := by decide +kernel
theorem dX5_pumpsOf_109 : decode cX5_pumpsOf 109 = .ok (.invokestatic 250, 3) := by decide +kernel
theorem dX5_pumpsOf_112 : decode cX5_pumpsOf 112 = .ok (.ireturn, 1) := by decide +kernel
theorem dX5_asks_0 : decode cX5_asks 0 = .ok (.aload_n 0, 1) := by decide +kernel
theorem dX5_asks_1 : decode cX5_asks 1 = .ok (.iload_n 1, 1) := by decide +kernel
theorem dX5_asks_2 : decode cX5_asks 2 = .ok (.invokevirtual 86, 3) := by decide +kernel
theorem dX5_asks_5 : decode cX5_asks 5 = .ok (.ifCond .eq 20, 3) := by decide +kernel
theorem dX5_asks_8 : decode cX5_asks 8 = .ok (.iload_n 2, 1) := by decide +kernel
theorem dX5_asks_9 : decode cX5_asks 9 = .ok (.invokestatic 82, 3) := by decide +kernel
theorem dX5_asks_12 : decode cX5_asks 12 = .ok (.ifCond .eq 13, 3) := by decide +kernel
theorem dX5_asks_15 : decode cX5_asks 15 = .ok (.iload_n 3, 1) := by decide +kernel
theorem dX5_asks_16 : decode cX5_asks 16 = .ok (.i2l, 1) := by decide +kernel
theorem dX5_asks_17 : decode cX5_asks 17 = .ok (.lconst 0, 1) := by decide +kernel
theorem dX5_asks_18 : decode cX5_asks 18 = .ok (.lconst 1, 1) := by decide +kernel
theorem dX5_asks_19 : decode cX5_asks 19 = .ok (.invokestatic 76, 3) := by decide +kernel
theorem dX5_asks_22 : decode cX5_asks 22 = .ok (.ifCond .ne 6, 3) := by decide +kernel
theorem dX5_asks_25 : decode cX5_asks 25 = .ok (.bipush (-2), 2) := by decide +kernel
theorem dX5_asks_27 : decode cX5_asks 27 = .ok (.ireturn, 1) := by decide +kernel
theorem dX5_asks_28 : decode cX5_asks 28 = .ok (.iload_n 3, 1) := by decide +kernel
theorem dX5_asks_29 : decode cX5_asks 29 = .ok (.ifCond .ne 12, 3) := by decide +kernel
theorem dX5_asks_32 : decode cX5_asks 32 = .ok (.aload_n 0, 1) := by decide +kernel
theorem dX5_asks_33 : decode cX5_asks 33 = .ok (.iload_n 1, 1) := by decide +kernel
theorem dX5_asks_34 : decode cX5_asks 34 = .ok (.iload_n 2, 1) := by decide +kernel
theorem dX5_asks_35 : decode cX5_asks 35 = .ok (.invokevirtual 266, 3) := by decide +kernel
theorem dX5_asks_38 : decode cX5_asks 38 = .ok (.goto 9, 3) := by decide +kernel
theorem dX5_asks_41 : decode cX5_asks 41 = .ok (.aload_n 0, 1) := by decide +kernel
theorem dX5_asks_42 : decode cX5_asks 42 = .ok (.iload_n 1, 1) := by decide +kernel
theorem dX5_asks_43 : decode cX5_asks 43 = .ok (.iload_n 2, 1) := by decide +kernel
theorem dX5_asks_44 : decode cX5_asks 44 = .ok (.invokevirtual 269, 3) := by decide +kernel
theorem dX5_asks_47 : decode cX5_asks 47 = .ok (.ireturn, 1) := by decide +kernel
theorem dX5_built_0 : decode cX5_built 0 = .ok (.aload_n 0, 1) := by decide +kernel
theorem dX5_built_1 : decode cX5_built 1 = .ok (.iload_n 1, 1) := by decide +kernel
theorem dX5_built_2 : decode cX5_built 2 = .ok (.iload_n 2, 1) := by decide +kernel
theorem dX5_built_3 : decode cX5_built 3 = .ok (.invokevirtual 266, 3) := by decide +kernel
theorem dX5_built_6 : decode cX5_built 6 = .ok (.istore_n 3, 1) := by decide +kernel
theorem dX5_built_7 : decode cX5_built 7 = .ok (.aload_n 0, 1) := by decide +kernel
theorem dX5_built_8 : decode cX5_built 8 = .ok (.getfield 26, 3) := by decide +kernel
theorem dX5_built_11 : decode cX5_built 11 = .ok (.iload_n 2, 1) := by decide +kernel
theorem dX5_built_12 : decode cX5_built 12 = .ok (.iload_n 1, 1) := by decide +kernel
theorem dX5_built_13 : decode cX5_built 13 = .ok (.iastore, 1) := by decide +kernel
theorem dX5_built_14 : decode cX5_built 14 = .ok (.aload_n 0, 1) := by decide +kernel
theorem dX5_built_15 : decode cX5_built 15 = .ok (.getfield 29, 3) := by decide +kernel
theorem dX5_built_18 : decode cX5_built 18 = .ok (.iload_n 2, 1) := by decide +kernel
theorem dX5_built_19 : decode cX5_built 19 = .ok (.iload_n 3, 1) := by decide +kernel
theorem dX5_built_20 : decode cX5_built 20 = .ok (.iastore, 1) := by decide +kernel
theorem dX5_built_21 : decode cX5_built 21 = .ok (.iload_n 3, 1) := by decide +kernel
theorem dX5_built_22 : decode cX5_built 22 = .ok (.ireturn, 1) := by decide +kernel
theorem dX5_builds_0 : decode cX5_builds 0 = .ok (.aload_n 0, 1) := by decide +kernel
theorem dX5_builds_1 : decode cX5_builds 1 = .ok (.iload_n 1, 1) := by decide +kernel
theorem dX5_builds_2 : decode cX5_builds 2 = .ok (.invokevirtual 86, 3) := by decide +kernel
theorem dX5_builds_5 : decode cX5_builds 5 = .ok (.ifCond .eq 10, 3) := by decide +kernel
theorem dX5_builds_8 : decode cX5_builds 8 = .ok (.iload_n 2, 1) := by decide +kernel
theorem dX5_builds_9 : decode cX5_builds 9 = .ok (.invokestatic 82, 3) := by decide +kernel
theorem dX5_builds_12 : decode cX5_builds 12 = .ok (.ifCond .ne 6, 3) := by decide +kernel
theorem dX5_builds_15 : decode cX5_builds 15 = .ok (.bipush (-2), 2) := by decide +kernel
theorem dX5_builds_17 : decode cX5_builds 17 = .ok (.ireturn, 1) := by decide +kernel
theorem dX5_builds_18 : decode cX5_builds 18 = .ok (.aload_n 0, 1) := by decide +kernel
theorem dX5_builds_19 : decode cX5_builds 19 = .ok (.iload_n 1, 1) := by decide +kernel
theorem dX5_builds_20 : decode cX5_builds 20 = .ok (.iconst 0, 1) := by decide +kernel
theorem dX5_builds_21 : decode cX5_builds 21 = .ok (.invokevirtual 129, 3) := by decide +kernel
theorem dX5_builds_24 : decode cX5_builds 24 = .ok (.ifCond .eq 12, 3) := by decide +kernel
theorem dX5_builds_27 : decode cX5_builds 27 = .ok (.aload_n 0, 1) := by decide +kernel
theorem dX5_builds_28 : decode cX5_builds 28 = .ok (.iload_n 1, 1) := by decide +kernel
theorem dX5_builds_29 : decode cX5_builds 29 = .ok (.iload_n 2, 1) := by decide +kernel
theorem dX5_builds_30 : decode cX5_builds 30 = .ok (.invokevirtual 272, 3) := by decide +kernel
theorem dX5_builds_33 : decode cX5_builds 33 = .ok (.goto 5, 3) := by decide +kernel
theorem dX5_builds_36 : decode cX5_builds 36 = .ok (.bipush (-3), 2) := by decide +kernel
theorem dX5_builds_38 : decode cX5_builds 38 = .ok (.ireturn, 1) := by decide +kernel
theorem dX5_binds_0 : decode cX5_binds 0 = .ok (.iconst 0, 1) := by decide +kernel
theorem dX5_binds_1 : decode cX5_binds 1 = .ok (.istore_n 1, 1) := by decide +kernel
theorem dX5_binds_2 : decode cX5_binds 2 = .ok (.iload_n 1, 1) := by decide +kernel
theorem dX5_binds_3 : decode cX5_binds 3 = .ok (.aload_n 0, 1) := by decide +kernel
theorem dX5_binds_4 : decode cX5_binds 4 = .ok (.getfield 73, 3) := by decide +kernel
theorem dX5_binds_7 : decode cX5_binds 7 = .ok (.if_icmp .ge 50, 3) := by decide +kernel
theorem dX5_binds_10 : decode cX5_binds 10 = .ok (.aload_n 0, 1) := by decide +kernel
theorem dX5_binds_11 : decode cX5_binds 11 = .ok (.getfield 32, 3) := by decide +kernel
theorem dX5_binds_14 : decode cX5_binds 14 = .ok (.iconst 4, 1) := by decide +kernel
theorem dX5_binds_15 : decode cX5_binds 15 = .ok (.iload_n 1, 1) := by decide +kernel
theorem dX5_binds_16 : decode cX5_binds 16 = .ok (.imul, 1) := by decide +kernel
theorem dX5_binds_17 : decode cX5_binds 17 = .ok (.iconst 3, 1) := by decide +kernel
theorem dX5_binds_18 : decode cX5_binds 18 = .ok (.iadd, 1) := by decide +kernel
theorem dX5_binds_19 : decode cX5_binds 19 = .ok (.aload_n 0, 1) := by decide +kernel
theorem dX5_binds_20 : decode cX5_binds 20 = .ok (.iload_n 1, 1) := by decide +kernel
theorem dX5_binds_21 : decode cX5_binds 21 = .ok (.iconst 0, 1) := by decide +kernel
theorem dX5_binds_22 : decode cX5_binds 22 = .ok (.invokevirtual 129, 3) := by decide +kernel
theorem dX5_binds_25 : decode cX5_binds 25 = .ok (.ifCond .eq 15, 3) := by decide +kernel
theorem dX5_binds_28 : decode cX5_binds 28 = .ok (.aload_n 0, 1) := by decide +kernel
theorem dX5_binds_29 : decode cX5_binds 29 = .ok (.iload_n 1, 1) := by decide +kernel
theorem dX5_binds_30 : decode cX5_binds 30 = .ok (.invokevirtual 120, 3) := by decide +kernel
theorem dX5_binds_33 : decode cX5_binds 33 = .ok (.ifCond .eq 7, 3) := by decide +kernel
theorem dX5_binds_36 : decode cX5_binds 36 = .ok (.iconst 1, 1) := by decide +kernel
theorem dX5_binds_37 : decode cX5_binds 37 = .ok (.goto 13, 3) := by decide +kernel
theorem dX5_binds_40 : decode cX5_binds 40 = .ok (.aload_n 0, 1) := by decide +kernel
theorem dX5_binds_41 : decode cX5_binds 41 = .ok (.getfield 32, 3) := by decide +kernel
theorem dX5_binds_44 : decode cX5_binds 44 = .ok (.iconst 4, 1) := by decide +kernel
theorem dX5_binds_45 : decode cX5_binds 45 = .ok (.iload_n 1, 1) := by decide +kernel
theorem dX5_binds_46 : decode cX5_binds 46 = .ok (.imul, 1) := by decide +kernel
theorem dX5_binds_47 : decode cX5_binds 47 = .ok (.iconst 3, 1) := by decide +kernel
theorem dX5_binds_48 : decode cX5_binds 48 = .ok (.iadd, 1) := by decide +kernel
theorem dX5_binds_49 : decode cX5_binds 49 = .ok (.iaload, 1) := by decide +kernel
theorem dX5_binds_50 : decode cX5_binds 50 = .ok (.iastore, 1) := by decide +kernel
theorem dX5_binds_51 : decode cX5_binds 51 = .ok (.iinc 1 1, 3) := by decide +kernel
theorem dX5_binds_54 : decode cX5_binds 54 = .ok (.goto (-52), 3) := by decide +kernel
theorem dX5_binds_57 : decode cX5_binds 57 = .ok (.return_, 1) := by decide +kernel
theorem dX5_bound_0 : decode cX5_bound 0 = .ok (.aload_n 0, 1) := by decide +kernel
theorem dX5_bound_1 : decode cX5_bound 1 = .ok (.invokevirtual 275, 3) := by decide +kernel
theorem dX5_bound_4 : decode cX5_bound 4 = .ok (.aload_n 0, 1) := by decide +kernel
theorem dX5_bound_5 : decode cX5_bound 5 = .ok (.iconst 1, 1) := by decide +kernel
theorem dX5_bound_6 : decode cX5_bound 6 = .ok (.invokevirtual 263, 3) := by decide +kernel
theorem dX5_bound_9 : decode cX5_bound 9 = .ok (.ireturn, 1) := by decide +kernel
theorem dX5_home_0 : decode cX5_home 0 = .ok (.aload_n 0, 1) := by decide +kernel
theorem dX5_home_1 : decode cX5_home 1 = .ok (.getfield 110, 3) := by decide +kernel
theorem dX5_home_4 : decode cX5_home 4 = .ok (.bipush 100, 2) := by decide +kernel
theorem dX5_home_6 : decode cX5_home 6 = .ok (.if_icmp .ne 6, 3) := by decide +kernel
theorem dX5_home_9 : decode cX5_home 9 = .ok (.bipush (-3), 2) := by decide +kernel
theorem dX5_home_11 : decode cX5_home 11 = .ok (.ireturn, 1) := by decide +kernel
theorem dX5_home_12 : decode cX5_home 12 = .ok (.aload_n 0, 1) := by decide +kernel
theorem dX5_home_13 : decode cX5_home 13 = .ok (.iconst 1, 1) := by decide +kernel
theorem dX5_home_14 : decode cX5_home 14 = .ok (.invokevirtual 263, 3) := by decide +kernel
theorem dX5_home_17 : decode cX5_home 17 = .ok (.istore_n 1, 1) := by decide +kernel
theorem dX5_home_18 : decode cX5_home 18 = .ok (.iconst 0, 1) := by decide +kernel
theorem dX5_home_19 : decode cX5_home 19 = .ok (.istore_n 2, 1) := by decide +kernel
theorem dX5_home_20 : decode cX5_home 20 = .ok (.iload_n 2, 1) := by decide +kernel
theorem dX5_home_21 : decode cX5_home 21 = .ok (.aload_n 0, 1) := by decide +kernel
theorem dX5_home_22 : decode cX5_home 22 = .ok (.getfield 73, 3) := by decide +kernel
theorem dX5_home_25 : decode cX5_home 25 = .ok (.if_icmp .ge 42, 3) := by decide +kernel
theorem dX5_home_28 : decode cX5_home 28 = .ok (.aload_n 0, 1) := by decide +kernel
theorem dX5_home_29 : decode cX5_home 29 = .ok (.getfield 32, 3) := by decide +kernel
theorem dX5_home_32 : decode cX5_home 32 = .ok (.iconst 4, 1) := by decide +kernel
theorem dX5_home_33 : decode cX5_home 33 = .ok (.iload_n 2, 1) := by decide +kernel
theorem dX5_home_34 : decode cX5_home 34 = .ok (.imul, 1) := by decide +kernel
theorem dX5_home_35 : decode cX5_home 35 = .ok (.iconst 3, 1) := by decide +kernel
theorem dX5_home_36 : decode cX5_home 36 = .ok (.iadd, 1) := by decide +kernel
theorem dX5_home_37 : decode cX5_home 37 = .ok (.aload_n 0, 1) := by decide +kernel
theorem dX5_home_38 : decode cX5_home 38 = .ok (.iload_n 2, 1) := by decide +kernel
theorem dX5_home_39 : decode cX5_home 39 = .ok (.iconst 1, 1) := by decide +kernel
theorem dX5_home_40 : decode cX5_home 40 = .ok (.invokevirtual 129, 3) := by decide +kernel
theorem dX5_home_43 : decode cX5_home 43 = .ok (.ifCond .eq 7, 3) := by decide +kernel
theorem dX5_home_46 : decode cX5_home 46 = .ok (.iconst 0, 1) := by decide +kernel
theorem dX5_home_47 : decode cX5_home 47 = .ok (.goto 13, 3) := by decide +kernel
theorem dX5_home_50 : decode cX5_home 50 = .ok (.aload_n 0, 1) := by decide +kernel
theorem dX5_home_51 : decode cX5_home 51 = .ok (.getfield 32, 3) := by decide +kernel
theorem dX5_home_54 : decode cX5_home 54 = .ok (.iconst 4, 1) := by decide +kernel
theorem dX5_home_55 : decode cX5_home 55 = .ok (.iload_n 2, 1) := by decide +kernel
theorem dX5_home_56 : decode cX5_home 56 = .ok (.imul, 1) := by decide +kernel
theorem dX5_home_57 : decode cX5_home 57 = .ok (.iconst 3, 1) := by decide +kernel
theorem dX5_home_58 : decode cX5_home 58 = .ok (.iadd, 1) := by decide +kernel
theorem dX5_home_59 : decode cX5_home 59 = .ok (.iaload, 1) := by decide +kernel
theorem dX5_home_60 : decode cX5_home 60 = .ok (.iastore, 1) := by decide +kernel
theorem dX5_home_61 : decode cX5_home 61 = .ok (.iinc 2 1, 3) := by decide +kernel
theorem dX5_home_64 : decode cX5_home 64 = .ok (.goto (-44), 3) := by decide +kernel
theorem dX5_home_67 : decode cX5_home 67 = .ok (.iload_n 1, 1) := by decide +kernel
theorem dX5_home_68 : decode cX5_home 68 = .ok (.ireturn, 1) := by decide +kernel
theorem dX5_leaksOf_0 : decode cX5_leaksOf 0 = .ok (.aload_n 0, 1) := by decide +kernel
theorem dX5_leaksOf_1 : decode cX5_leaksOf 1 = .ok (.getfield 23, 3) := by decide +kernel
theorem dX5_leaksOf_4 : decode cX5_leaksOf 4 = .ok (.aload_n 0, 1) := by decide +kernel
theorem dX5_leaksOf_5 : decode cX5_leaksOf 5 = .ok (.getfield 29, 3) := by decide +kernel
theorem dX5_leaksOf_8 : decode cX5_leaksOf 8 = .ok (.iload_n 1, 1) := by decide +kernel
theorem dX5_leaksOf_9 : decode cX5_leaksOf 9 = .ok (.iaload, 1) := by decide +kernel
theorem dX5_leaksOf_10 : decode cX5_leaksOf 10 = .ok (.if_icmp .ge 7, 3) := by decide +kernel
theorem dX5_leaksOf_13 : decode cX5_leaksOf 13 = .ok (.iconst 0, 1) := by decide +kernel
theorem dX5_leaksOf_14 : decode cX5_leaksOf 14 = .ok (.goto 14, 3) := by decide +kernel
theorem dX5_leaksOf_17 : decode cX5_leaksOf 17 = .ok (.aload_n 0, 1) := by decide +kernel
theorem dX5_leaksOf_18 : decode cX5_leaksOf 18 = .ok (.getfield 23, 3) := by decide +kernel
theorem dX5_leaksOf_21 : decode cX5_leaksOf 21 = .ok (.aload_n 0, 1) := by decide +kernel
theorem dX5_leaksOf_22 : decode cX5_leaksOf 22 = .ok (.getfield 29, 3) := by decide +kernel
theorem dX5_leaksOf_25 : decode cX5_leaksOf 25 = .ok (.iload_n 1, 1) := by decide +kernel
theorem dX5_leaksOf_26 : decode cX5_leaksOf 26 = .ok (.iaload, 1) := by decide +kernel
theorem dX5_leaksOf_27 : decode cX5_leaksOf 27 = .ok (.isub, 1) := by decide +kernel
theorem dX5_leaksOf_28 : decode cX5_leaksOf 28 = .ok (.istore_n 2, 1) := by decide +kernel
theorem dX5_leaksOf_29 : decode cX5_leaksOf 29 = .ok (.iload_n 1, 1) := by decide +kernel
theorem dX5_leaksOf_30 : decode cX5_leaksOf 30 = .ok (.invokestatic 254, 3) := by decide +kernel
theorem dX5_leaksOf_33 : decode cX5_leaksOf 33 = .ok (.ifCond .eq 7, 3) := by decide +kernel
theorem dX5_leaksOf_36 : decode cX5_leaksOf 36 = .ok (.iload_n 2, 1) := by decide +kernel
theorem dX5_leaksOf_37 : decode cX5_leaksOf 37 = .ok (.goto 6, 3) := by decide +kernel
theorem dX5_leaksOf_40 : decode cX5_leaksOf 40 = .ok (.iload_n 2, 1) := by decide +kernel
theorem dX5_leaksOf_41 : decode cX5_leaksOf 41 = .ok (.iconst 2, 1) := by decide +kernel
theorem dX5_leaksOf_42 : decode cX5_leaksOf 42 = .ok (.idiv, 1) := by decide +kernel
theorem dX5_leaksOf_43 : decode cX5_leaksOf 43 = .ok (.ireturn, 1) := by decide +kernel
theorem dX5_leaksAll_0 : decode cX5_leaksAll 0 = .ok (.iconst 0, 1) := by decide +kernel
theorem dX5_leaksAll_1 : decode cX5_leaksAll 1 = .ok (.istore_n 1, 1) := by decide +kernel
theorem dX5_leaksAll_2 : decode cX5_leaksAll 2 = .ok (.iconst 0, 1) := by decide +kernel
theorem dX5_leaksAll_3 : decode cX5_leaksAll 3 = .ok (.istore_n 2, 1) := by decide +kernel
theorem dX5_leaksAll_4 : decode cX5_leaksAll 4 = .ok (.iload_n 2, 1) := by decide +kernel
theorem dX5_leaksAll_5 : decode cX5_leaksAll 5 = .ok (.bipush 10, 2) := by decide +kernel
theorem dX5_leaksAll_7 : decode cX5_leaksAll 7 = .ok (.if_icmp .ge 17, 3) := by decide +kernel
theorem dX5_leaksAll_10 : decode cX5_leaksAll 10 = .ok (.iload_n 1, 1) := by decide +kernel
theorem dX5_leaksAll_11 : decode cX5_leaksAll 11 = .ok (.aload_n 0, 1) := by decide +kernel
theorem dX5_leaksAll_12 : decode cX5_leaksAll 12 = .ok (.iload_n 2, 1) := by decide +kernel
theorem dX5_leaksAll_13 : decode cX5_leaksAll 13 = .ok (.invokevirtual 126, 3) := by decide +kernel
theorem dX5_leaksAll_16 : decode cX5_leaksAll 16 = .ok (.iadd, 1) := by decide +kernel
theorem dX5_leaksAll_17 : decode cX5_leaksAll 17 = .ok (.istore_n 1, 1) := by decide +kernel
theorem dX5_leaksAll_18 : decode cX5_leaksAll 18 = .ok (.iinc 2 1, 3) := by decide +kernel
theorem dX5_leaksAll_21 : decode cX5_leaksAll 21 = .ok (.goto (-17), 3) := by decide +kernel
theorem dX5_leaksAll_24 : decode cX5_leaksAll 24 = .ok (.iload_n 1, 1) := by decide +kernel
theorem dX5_leaksAll_25 : decode cX5_leaksAll 25 = .ok (.ireturn, 1) := by decide +kernel
theorem dX5_works_0 : decode cX5_works 0 = .ok (.aload_n 0, 1) := by decide +kernel
theorem dX5_works_1 : decode cX5_works 1 = .ok (.aload_n 0, 1) := by decide +kernel
theorem dX5_works_2 : decode cX5_works 2 = .ok (.getfield 110, 3) := by decide +kernel
theorem dX5_works_5 : decode cX5_works 5 = .ok (.aload_n 0, 1) := by decide +kernel
theorem dX5_works_6 : decode cX5_works 6 = .ok (.iload_n 1, 1) := by decide +kernel
theorem dX5_works_7 : decode cX5_works 7 = .ok (.invokevirtual 123, 3) := by decide +kernel
theorem dX5_works_10 : decode cX5_works 10 = .ok (.isub, 1) := by decide +kernel
theorem dX5_works_11 : decode cX5_works 11 = .ok (.iconst 0, 1) := by decide +kernel
theorem dX5_works_12 : decode cX5_works 12 = .ok (.bipush 100, 2) := by decide +kernel
theorem dX5_works_14 : decode cX5_works 14 = .ok (.invokestatic 250, 3) := by decide +kernel
theorem dX5_works_17 : decode cX5_works 17 = .ok (.putfield 110, 3) := by decide +kernel
theorem dX5_works_20 : decode cX5_works 20 = .ok (.iconst (-1), 1) := by decide +kernel
theorem dX5_works_21 : decode cX5_works 21 = .ok (.istore_n 2, 1) := by decide +kernel
theorem dX5_works_22 : decode cX5_works 22 = .ok (.iconst 0, 1) := by decide +kernel
theorem dX5_works_23 : decode cX5_works 23 = .ok (.istore_n 3, 1) := by decide +kernel
theorem dX5_works_24 : decode cX5_works 24 = .ok (.iload_n 3, 1) := by decide +kernel
theorem dX5_works_25 : decode cX5_works 25 = .ok (.bipush 10, 2) := by decide +kernel
theorem dX5_works_27 : decode cX5_works 27 = .ok (.if_icmp .ge 45, 3) := by decide +kernel
theorem dX5_works_30 : decode cX5_works 30 = .ok (.aload_n 0, 1) := by decide +kernel
theorem dX5_works_31 : decode cX5_works 31 = .ok (.getfield 26, 3) := by decide +kernel
theorem dX5_works_34 : decode cX5_works 34 = .ok (.iload_n 3, 1) := by decide +kernel
theorem dX5_works_35 : decode cX5_works 35 = .ok (.iaload, 1) := by decide +kernel
theorem dX5_works_36 : decode cX5_works 36 = .ok (.iload_n 1, 1) := by decide +kernel
theorem dX5_works_37 : decode cX5_works 37 = .ok (.if_icmp .ne 27, 3) := by decide +kernel
theorem dX5_works_40 : decode cX5_works 40 = .ok (.iload_n 2, 1) := by decide +kernel
theorem dX5_works_41 : decode cX5_works 41 = .ok (.iconst (-1), 1) := by decide +kernel
theorem dX5_works_42 : decode cX5_works 42 = .ok (.if_icmp .eq 18, 3) := by decide +kernel
theorem dX5_works_45 : decode cX5_works 45 = .ok (.aload_n 0, 1) := by decide +kernel
theorem dX5_works_46 : decode cX5_works 46 = .ok (.getfield 29, 3) := by decide +kernel
theorem dX5_works_49 : decode cX5_works 49 = .ok (.iload_n 3, 1) := by decide +kernel
theorem dX5_works_50 : decode cX5_works 50 = .ok (.iaload, 1) := by decide +kernel
theorem dX5_works_51 : decode cX5_works 51 = .ok (.aload_n 0, 1) := by decide +kernel
theorem dX5_works_52 : decode cX5_works 52 = .ok (.getfield 29, 3) := by decide +kernel
theorem dX5_works_55 : decode cX5_works 55 = .ok (.iload_n 2, 1) := by decide +kernel
theorem dX5_works_56 : decode cX5_works 56 = .ok (.iaload, 1) := by decide +kernel
theorem dX5_works_57 : decode cX5_works 57 = .ok (.if_icmp .ge 7, 3) := by decide +kernel
theorem dX5_works_60 : decode cX5_works 60 = .ok (.iload_n 3, 1) := by decide +kernel
theorem dX5_works_61 : decode cX5_works 61 = .ok (.goto 4, 3) := by decide +kernel
theorem dX5_works_64 : decode cX5_works 64 = .ok (.iload_n 2, 1) := by decide +kernel
theorem dX5_works_65 : decode cX5_works 65 = .ok (.istore_n 2, 1) := by decide +kernel
theorem dX5_works_66 : decode cX5_works 66 = .ok (.iinc 3 1, 3) := by decide +kernel
theorem dX5_works_69 : decode cX5_works 69 = .ok (.goto (-45), 3) := by decide +kernel
theorem dX5_works_72 : decode cX5_works 72 = .ok (.iload_n 2, 1) := by decide +kernel
theorem dX5_works_73 : decode cX5_works 73 = .ok (.iconst (-1), 1) := by decide +kernel
theorem dX5_works_74 : decode cX5_works 74 = .ok (.if_icmp .eq 28, 3) := by decide +kernel
theorem dX5_works_77 : decode cX5_works 77 = .ok (.aload_n 0, 1) := by decide +kernel
theorem dX5_works_78 : decode cX5_works 78 = .ok (.getfield 29, 3) := by decide +kernel
theorem dX5_works_81 : decode cX5_works 81 = .ok (.iload_n 2, 1) := by decide +kernel
theorem dX5_works_82 : decode cX5_works 82 = .ok (.aload_n 0, 1) := by decide +kernel
theorem dX5_works_83 : decode cX5_works 83 = .ok (.getfield 29, 3) := by decide +kernel
theorem dX5_works_86 : decode cX5_works 86 = .ok (.iload_n 2, 1) := by decide +kernel
theorem dX5_works_87 : decode cX5_works 87 = .ok (.iaload, 1) := by decide +kernel
theorem dX5_works_88 : decode cX5_works 88 = .ok (.aload_n 0, 1) := by decide +kernel
theorem dX5_works_89 : decode cX5_works 89 = .ok (.iload_n 1, 1) := by decide +kernel
theorem dX5_works_90 : decode cX5_works 90 = .ok (.iload_n 2, 1) := by decide +kernel
theorem dX5_works_91 : decode cX5_works 91 = .ok (.invokevirtual 269, 3) := by decide +kernel
theorem dX5_works_94 : decode cX5_works 94 = .ok (.iadd, 1) := by decide +kernel
theorem dX5_works_95 : decode cX5_works 95 = .ok (.iconst 0, 1) := by decide +kernel
theorem dX5_works_96 : decode cX5_works 96 = .ok (.bipush 99, 2) := by decide +kernel
theorem dX5_works_98 : decode cX5_works 98 = .ok (.invokestatic 250, 3) := by decide +kernel
theorem dX5_works_101 : decode cX5_works 101 = .ok (.iastore, 1) := by decide +kernel
theorem dX5_works_102 : decode cX5_works 102 = .ok (.return_, 1) := by decide +kernel
theorem dX5_passes_0 : decode cX5_passes 0 = .ok (.aload_n 0, 1) := by decide +kernel
theorem dX5_passes_1 : decode cX5_passes 1 = .ok (.getfield 110, 3) := by decide +kernel
theorem dX5_passes_4 : decode cX5_passes 4 = .ok (.bipush 100, 2) := by decide +kernel
theorem dX5_passes_6 : decode cX5_passes 6 = .ok (.if_icmp .ge 98, 3) := by decide +kernel
theorem dX5_passes_9 : decode cX5_passes 9 = .ok (.aload_n 0, 1) := by decide +kernel
theorem dX5_passes_10 : decode cX5_passes 10 = .ok (.aload_n 0, 1) := by decide +kernel
theorem dX5_passes_11 : decode cX5_passes 11 = .ok (.getfield 110, 3) := by decide +kernel
theorem dX5_passes_14 : decode cX5_passes 14 = .ok (.aload_n 0, 1) := by decide +kernel
theorem dX5_passes_15 : decode cX5_passes 15 = .ok (.invokevirtual 278, 3) := by decide +kernel
theorem dX5_passes_18 : decode cX5_passes 18 = .ok (.bipush 10, 2) := by decide +kernel
theorem dX5_passes_20 : decode cX5_passes 20 = .ok (.idiv, 1) := by decide +kernel
theorem dX5_passes_21 : decode cX5_passes 21 = .ok (.iadd, 1) := by decide +kernel
theorem dX5_passes_22 : decode cX5_passes 22 = .ok (.iconst 0, 1) := by decide +kernel
theorem dX5_passes_23 : decode cX5_passes 23 = .ok (.bipush 100, 2) := by decide +kernel
theorem dX5_passes_25 : decode cX5_passes 25 = .ok (.invokestatic 250, 3) := by decide +kernel
theorem dX5_passes_28 : decode cX5_passes 28 = .ok (.putfield 110, 3) := by decide +kernel
theorem dX5_passes_31 : decode cX5_passes 31 = .ok (.aload_n 0, 1) := by decide +kernel
theorem dX5_passes_32 : decode cX5_passes 32 = .ok (.getfield 110, 3) := by decide +kernel
theorem dX5_passes_35 : decode cX5_passes 35 = .ok (.bipush 100, 2) := by decide +kernel
theorem dX5_passes_37 : decode cX5_passes 37 = .ok (.if_icmp .ne 7, 3) := by decide +kernel
theorem dX5_passes_40 : decode cX5_passes 40 = .ok (.iconst 1, 1) := by decide +kernel
theorem dX5_passes_41 : decode cX5_passes 41 = .ok (.goto 4, 3) := by decide +kernel
theorem dX5_passes_44 : decode cX5_passes 44 = .ok (.iconst 0, 1) := by decide +kernel
theorem dX5_passes_45 : decode cX5_passes 45 = .ok (.istore_n 1, 1) := by decide +kernel
theorem dX5_passes_46 : decode cX5_passes 46 = .ok (.iconst 0, 1) := by decide +kernel
theorem dX5_passes_47 : decode cX5_passes 47 = .ok (.istore_n 2, 1) := by decide +kernel
theorem dX5_passes_48 : decode cX5_passes 48 = .ok (.iload_n 2, 1) := by decide +kernel
theorem dX5_passes_49 : decode cX5_passes 49 = .ok (.aload_n 0, 1) := by decide +kernel
theorem dX5_passes_50 : decode cX5_passes 50 = .ok (.getfield 73, 3) := by decide +kernel
theorem dX5_passes_53 : decode cX5_passes 53 = .ok (.if_icmp .ge 51, 3) := by decide +kernel
theorem dX5_passes_56 : decode cX5_passes 56 = .ok (.aload_n 0, 1) := by decide +kernel
theorem dX5_passes_57 : decode cX5_passes 57 = .ok (.iload_n 2, 1) := by decide +kernel
theorem dX5_passes_58 : decode cX5_passes 58 = .ok (.iconst 1, 1) := by decide +kernel
theorem dX5_passes_59 : decode cX5_passes 59 = .ok (.invokevirtual 129, 3) := by decide +kernel
theorem dX5_passes_62 : decode cX5_passes 62 = .ok (.ifCond .eq 18, 3) := by decide +kernel
theorem dX5_passes_65 : decode cX5_passes 65 = .ok (.iload_n 1, 1) := by decide +kernel
theorem dX5_passes_66 : decode cX5_passes 66 = .ok (.ifCond .eq 14, 3) := by decide +kernel
theorem dX5_passes_69 : decode cX5_passes 69 = .ok (.aload_n 0, 1) := by decide +kernel
theorem dX5_passes_70 : decode cX5_passes 70 = .ok (.getfield 32, 3) := by decide +kernel
theorem dX5_passes_73 : decode cX5_passes 73 = .ok (.iconst 4, 1) := by decide +kernel
theorem dX5_passes_74 : decode cX5_passes 74 = .ok (.iload_n 2, 1) := by decide +kernel
theorem dX5_passes_75 : decode cX5_passes 75 = .ok (.imul, 1) := by decide +kernel
theorem dX5_passes_76 : decode cX5_passes 76 = .ok (.iconst 3, 1) := by decide +kernel
theorem dX5_passes_77 : decode cX5_passes 77 = .ok (.iadd, 1) := by decide +kernel
theorem dX5_passes_78 : decode cX5_passes 78 = .ok (.iconst 2, 1) := by decide +kernel
theorem dX5_passes_79 : decode cX5_passes 79 = .ok (.iastore, 1) := by decide +kernel
theorem dX5_passes_80 : decode cX5_passes 80 = .ok (.aload_n 0, 1) := by decide +kernel
theorem dX5_passes_81 : decode cX5_passes 81 = .ok (.iload_n 2, 1) := by decide +kernel
theorem dX5_passes_82 : decode cX5_passes 82 = .ok (.iconst 1, 1) := by decide +kernel
theorem dX5_passes_83 : decode cX5_passes 83 = .ok (.invokevirtual 129, 3) := by decide +kernel
theorem dX5_passes_86 : decode cX5_passes 86 = .ok (.ifCond .eq 12, 3) := by decide +kernel
theorem dX5_passes_89 : decode cX5_passes 89 = .ok (.iload_n 1, 1) := by decide +kernel
theorem dX5_passes_90 : decode cX5_passes 90 = .ok (.ifCond .ne 8, 3) := by decide +kernel
theorem dX5_passes_93 : decode cX5_passes 93 = .ok (.aload_n 0, 1) := by decide +kernel
theorem dX5_passes_94 : decode cX5_passes 94 = .ok (.iload_n 2, 1) := by decide +kernel
theorem dX5_passes_95 : decode cX5_passes 95 = .ok (.invokevirtual 281, 3) := by decide +kernel
theorem dX5_passes_98 : decode cX5_passes 98 = .ok (.iinc 2 1, 3) := by decide +kernel
theorem dX5_passes_101 : decode cX5_passes 101 = .ok (.goto (-53), 3) := by decide +kernel
theorem dX5_passes_104 : decode cX5_passes 104 = .ok (.aload_n 0, 1) := by decide +kernel
theorem dX5_passes_105 : decode cX5_passes 105 = .ok (.dup, 1) := by decide +kernel
theorem dX5_passes_106 : decode cX5_passes 106 = .ok (.getfield 107, 3) := by decide +kernel
theorem dX5_passes_109 : decode cX5_passes 109 = .ok (.iconst 1, 1) := by decide +kernel
theorem dX5_passes_110 : decode cX5_passes 110 = .ok (.iadd, 1) := by decide +kernel
theorem dX5_passes_111 : decode cX5_passes 111 = .ok (.putfield 107, 3) := by decide +kernel
theorem dX5_passes_114 : decode cX5_passes 114 = .ok (.return_, 1) := by decide +kernel
theorem dX5_day_0 : decode cX5_day 0 = .ok (.aload_n 0, 1) := by decide +kernel
theorem dX5_day_1 : decode cX5_day 1 = .ok (.getfield 107, 3) := by decide +kernel
theorem dX5_day_4 : decode cX5_day 4 = .ok (.sipush 999, 3) := by decide +kernel
theorem dX5_day_7 : decode cX5_day 7 = .ok (.if_icmp .eq 12, 3) := by decide +kernel
theorem dX5_day_10 : decode cX5_day 10 = .ok (.aload_n 0, 1) := by decide +kernel
theorem dX5_day_11 : decode cX5_day 11 = .ok (.getfield 110, 3) := by decide +kernel
theorem dX5_day_14 : decode cX5_day 14 = .ok (.bipush 100, 2) := by decide +kernel
theorem dX5_day_16 : decode cX5_day 16 = .ok (.if_icmp .ne 6, 3) := by decide +kernel
theorem dX5_day_19 : decode cX5_day 19 = .ok (.bipush (-3), 2) := by decide +kernel
theorem dX5_day_21 : decode cX5_day 21 = .ok (.ireturn, 1) := by decide +kernel
theorem dX5_day_22 : decode cX5_day 22 = .ok (.aload_n 0, 1) := by decide +kernel
theorem dX5_day_23 : decode cX5_day 23 = .ok (.invokevirtual 285, 3) := by decide +kernel
theorem dX5_day_26 : decode cX5_day 26 = .ok (.aload_n 0, 1) := by decide +kernel
theorem dX5_day_27 : decode cX5_day 27 = .ok (.getfield 110, 3) := by decide +kernel
theorem dX5_day_30 : decode cX5_day 30 = .ok (.ireturn, 1) := by decide +kernel
theorem dX5_laysAside_0 : decode cX5_laysAside 0 = .ok (.iconst 0, 1) := by decide +kernel
theorem dX5_laysAside_1 : decode cX5_laysAside 1 = .ok (.istore_n 1, 1) := by decide +kernel
theorem dX5_laysAside_2 : decode cX5_laysAside 2 = .ok (.iload_n 1, 1) := by decide +kernel
theorem dX5_laysAside_3 : decode cX5_laysAside 3 = .ok (.bipush 20, 2) := by decide +kernel
theorem dX5_laysAside_5 : decode cX5_laysAside 5 = .ok (.if_icmp .ge 21, 3) := by decide +kernel
theorem dX5_laysAside_8 : decode cX5_laysAside 8 = .ok (.aload_n 0, 1) := by decide +kernel
theorem dX5_laysAside_9 : decode cX5_laysAside 9 = .ok (.getfield 35, 3) := by decide +kernel
theorem dX5_laysAside_12 : decode cX5_laysAside 12 = .ok (.iload_n 1, 1) := by decide +kernel
theorem dX5_laysAside_13 : decode cX5_laysAside 13 = .ok (.aload_n 0, 1) := by decide +kernel
theorem dX5_laysAside_14 : decode cX5_laysAside 14 = .ok (.getfield 32, 3) := by decide +kernel
theorem dX5_laysAside_17 : decode cX5_laysAside 17 = .ok (.iload_n 1, 1) := by decide +kernel
theorem dX5_laysAside_18 : decode cX5_laysAside 18 = .ok (.iaload, 1) := by decide +kernel
theorem dX5_laysAside_19 : decode cX5_laysAside 19 = .ok (.iastore, 1) := by decide +kernel
theorem dX5_laysAside_20 : decode cX5_laysAside 20 = .ok (.iinc 1 1, 3) := by decide +kernel
theorem dX5_laysAside_23 : decode cX5_laysAside 23 = .ok (.goto (-21), 3) := by decide +kernel
theorem dX5_laysAside_26 : decode cX5_laysAside 26 = .ok (.iconst 0, 1) := by decide +kernel
theorem dX5_laysAside_27 : decode cX5_laysAside 27 = .ok (.istore_n 1, 1) := by decide +kernel
theorem dX5_laysAside_28 : decode cX5_laysAside 28 = .ok (.iload_n 1, 1) := by decide +kernel
theorem dX5_laysAside_29 : decode cX5_laysAside 29 = .ok (.bipush 10, 2) := by decide +kernel
theorem dX5_laysAside_31 : decode cX5_laysAside 31 = .ok (.if_icmp .ge 39, 3) := by decide +kernel
theorem dX5_laysAside_34 : decode cX5_laysAside 34 = .ok (.aload_n 0, 1) := by decide +kernel
theorem dX5_laysAside_35 : decode cX5_laysAside 35 = .ok (.getfield 35, 3) := by decide +kernel
theorem dX5_laysAside_38 : decode cX5_laysAside 38 = .ok (.bipush 20, 2) := by decide +kernel
theorem dX5_laysAside_40 : decode cX5_laysAside 40 = .ok (.iload_n 1, 1) := by decide +kernel
theorem dX5_laysAside_41 : decode cX5_laysAside 41 = .ok (.iadd, 1) := by decide +kernel
theorem dX5_laysAside_42 : decode cX5_laysAside 42 = .ok (.aload_n 0, 1) := by decide +kernel
theorem dX5_laysAside_43 : decode cX5_laysAside 43 = .ok (.getfield 26, 3) := by decide +kernel
theorem dX5_laysAside_46 : decode cX5_laysAside 46 = .ok (.iload_n 1, 1) := by decide +kernel
theorem dX5_laysAside_47 : decode cX5_laysAside 47 = .ok (.iaload, 1) := by decide +kernel
theorem dX5_laysAside_48 : decode cX5_laysAside 48 = .ok (.iastore, 1) := by decide +kernel
theorem dX5_laysAside_49 : decode cX5_laysAside 49 = .ok (.aload_n 0, 1) := by decide +kernel
theorem dX5_laysAside_50 : decode cX5_laysAside 50 = .ok (.getfield 35, 3) := by decide +kernel
theorem dX5_laysAside_53 : decode cX5_laysAside 53 = .ok (.bipush 30, 2) := by decide +kernel
theorem dX5_laysAside_55 : decode cX5_laysAside 55 = .ok (.iload_n 1, 1) := by decide +kernel
theorem dX5_laysAside_56 : decode cX5_laysAside 56 = .ok (.iadd, 1) := by decide +kernel
theorem dX5_laysAside_57 : decode cX5_laysAside 57 = .ok (.aload_n 0, 1) := by decide +kernel
theorem dX5_laysAside_58 : decode cX5_laysAside 58 = .ok (.getfield 29, 3) := by decide +kernel
theorem dX5_laysAside_61 : decode cX5_laysAside 61 = .ok (.iload_n 1, 1) := by decide +kernel
theorem dX5_laysAside_62 : decode cX5_laysAside 62 = .ok (.iaload, 1) := by decide +kernel
theorem dX5_laysAside_63 : decode cX5_laysAside 63 = .ok (.iastore, 1) := by decide +kernel
theorem dX5_laysAside_64 : decode cX5_laysAside 64 = .ok (.iinc 1 1, 3) := by decide +kernel
theorem dX5_laysAside_67 : decode cX5_laysAside 67 = .ok (.goto (-39), 3) := by decide +kernel
theorem dX5_laysAside_70 : decode cX5_laysAside 70 = .ok (.aload_n 0, 1) := by decide +kernel
theorem dX5_laysAside_71 : decode cX5_laysAside 71 = .ok (.getfield 35, 3) := by decide +kernel
theorem dX5_laysAside_74 : decode cX5_laysAside 74 = .ok (.bipush 40, 2) := by decide +kernel
theorem dX5_laysAside_76 : decode cX5_laysAside 76 = .ok (.aload_n 0, 1) := by decide +kernel
theorem dX5_laysAside_77 : decode cX5_laysAside 77 = .ok (.getfield 107, 3) := by decide +kernel
theorem dX5_laysAside_80 : decode cX5_laysAside 80 = .ok (.iastore, 1) := by decide +kernel
theorem dX5_laysAside_81 : decode cX5_laysAside 81 = .ok (.aload_n 0, 1) := by decide +kernel
theorem dX5_laysAside_82 : decode cX5_laysAside 82 = .ok (.getfield 35, 3) := by decide +kernel
theorem dX5_laysAside_85 : decode cX5_laysAside 85 = .ok (.bipush 41, 2) := by decide +kernel
theorem dX5_laysAside_87 : decode cX5_laysAside 87 = .ok (.aload_n 0, 1) := by decide +kernel
theorem dX5_laysAside_88 : decode cX5_laysAside 88 = .ok (.getfield 23, 3) := by decide +kernel
theorem dX5_laysAside_91 : decode cX5_laysAside 91 = .ok (.iastore, 1) := by decide +kernel
theorem dX5_laysAside_92 : decode cX5_laysAside 92 = .ok (.aload_n 0, 1) := by decide +kernel
theorem dX5_laysAside_93 : decode cX5_laysAside 93 = .ok (.getfield 35, 3) := by decide +kernel
theorem dX5_laysAside_96 : decode cX5_laysAside 96 = .ok (.bipush 42, 2) := by decide +kernel
theorem dX5_laysAside_98 : decode cX5_laysAside 98 = .ok (.aload_n 0, 1) := by decide +kernel
theorem dX5_laysAside_99 : decode cX5_laysAside 99 = .ok (.getfield 110, 3) := by decide +kernel
theorem dX5_laysAside_102 : decode cX5_laysAside 102 = .ok (.iastore, 1) := by decide +kernel
theorem dX5_laysAside_103 : decode cX5_laysAside 103 = .ok (.return_, 1) := by decide +kernel
theorem dX5_laysBack_0 : decode cX5_laysBack 0 = .ok (.iconst 0, 1) := by decide +kernel
theorem dX5_laysBack_1 : decode cX5_laysBack 1 = .ok (.istore_n 1, 1) := by decide +kernel
theorem dX5_laysBack_2 : decode cX5_laysBack 2 = .ok (.iload_n 1, 1) := by decide +kernel
theorem dX5_laysBack_3 : decode cX5_laysBack 3 = .ok (.bipush 20, 2) := by decide +kernel
theorem dX5_laysBack_5 : decode cX5_laysBack 5 = .ok (.if_icmp .ge 21, 3) := by decide +kernel
theorem dX5_laysBack_8 : decode cX5_laysBack 8 = .ok (.aload_n 0, 1) := by decide +kernel
theorem dX5_laysBack_9 : decode cX5_laysBack 9 = .ok (.getfield 32, 3) := by decide +kernel
theorem dX5_laysBack_12 : decode cX5_laysBack 12 = .ok (.iload_n 1, 1) := by decide +kernel
theorem dX5_laysBack_13 : decode cX5_laysBack 13 = .ok (.aload_n 0, 1) := by decide +kernel
theorem dX5_laysBack_14 : decode cX5_laysBack 14 = .ok (.getfield 35, 3) := by decide +kernel
theorem dX5_laysBack_17 : decode cX5_laysBack 17 = .ok (.iload_n 1, 1) := by decide +kernel
theorem dX5_laysBack_18 : decode cX5_laysBack 18 = .ok (.iaload, 1) := by decide +kernel
theorem dX5_laysBack_19 : decode cX5_laysBack 19 = .ok (.iastore, 1) := by decide +kernel
theorem dX5_laysBack_20 : decode cX5_laysBack 20 = .ok (.iinc 1 1, 3) := by decide +kernel
theorem dX5_laysBack_23 : decode cX5_laysBack 23 = .ok (.goto (-21), 3) := by decide +kernel
theorem dX5_laysBack_26 : decode cX5_laysBack 26 = .ok (.iconst 0, 1) := by decide +kernel
theorem dX5_laysBack_27 : decode cX5_laysBack 27 = .ok (.istore_n 1, 1) := by decide +kernel
theorem dX5_laysBack_28 : decode cX5_laysBack 28 = .ok (.iload_n 1, 1) := by decide +kernel
theorem dX5_laysBack_29 : decode cX5_laysBack 29 = .ok (.bipush 10, 2) := by decide +kernel
theorem dX5_laysBack_31 : decode cX5_laysBack 31 = .ok (.if_icmp .ge 39, 3) := by decide +kernel
theorem dX5_laysBack_34 : decode cX5_laysBack 34 = .ok (.aload_n 0, 1) := by decide +kernel
theorem dX5_laysBack_35 : decode cX5_laysBack 35 = .ok (.getfield 26, 3) := by decide +kernel
theorem dX5_laysBack_38 : decode cX5_laysBack 38 = .ok (.iload_n 1, 1) := by decide +kernel
theorem dX5_laysBack_39 : decode cX5_laysBack 39 = .ok (.aload_n 0, 1) := by decide +kernel
theorem dX5_laysBack_40 : decode cX5_laysBack 40 = .ok (.getfield 35, 3) := by decide +kernel
theorem dX5_laysBack_43 : decode cX5_laysBack 43 = .ok (.bipush 20, 2) := by decide +kernel
theorem dX5_laysBack_45 : decode cX5_laysBack 45 = .ok (.iload_n 1, 1) := by decide +kernel
theorem dX5_laysBack_46 : decode cX5_laysBack 46 = .ok (.iadd, 1) := by decide +kernel
theorem dX5_laysBack_47 : decode cX5_laysBack 47 = .ok (.iaload, 1) := by decide +kernel
theorem dX5_laysBack_48 : decode cX5_laysBack 48 = .ok (.iastore, 1) := by decide +kernel
theorem dX5_laysBack_49 : decode cX5_laysBack 49 = .ok (.aload_n 0, 1) := by decide +kernel
theorem dX5_laysBack_50 : decode cX5_laysBack 50 = .ok (.getfield 29, 3) := by decide +kernel
theorem dX5_laysBack_53 : decode cX5_laysBack 53 = .ok (.iload_n 1, 1) := by decide +kernel
theorem dX5_laysBack_54 : decode cX5_laysBack 54 = .ok (.aload_n 0, 1) := by decide +kernel
theorem dX5_laysBack_55 : decode cX5_laysBack 55 = .ok (.getfield 35, 3) := by decide +kernel
theorem dX5_laysBack_58 : decode cX5_laysBack 58 = .ok (.bipush 30, 2) := by decide +kernel
theorem dX5_laysBack_60 : decode cX5_laysBack 60 = .ok (.iload_n 1, 1) := by decide +kernel
theorem dX5_laysBack_61 : decode cX5_laysBack 61 = .ok (.iadd, 1) := by decide +kernel
theorem dX5_laysBack_62 : decode cX5_laysBack 62 = .ok (.iaload, 1) := by decide +kernel
theorem dX5_laysBack_63 : decode cX5_laysBack 63 = .ok (.iastore, 1) := by decide +kernel
theorem dX5_laysBack_64 : decode cX5_laysBack 64 = .ok (.iinc 1 1, 3) := by decide +kernel
theorem dX5_laysBack_67 : decode cX5_laysBack 67 = .ok (.goto (-39), 3) := by decide +kernel
theorem dX5_laysBack_70 : decode cX5_laysBack 70 = .ok (.aload_n 0, 1) := by decide +kernel
theorem dX5_laysBack_71 : decode cX5_laysBack 71 = .ok (.aload_n 0, 1) := by decide +kernel
theorem dX5_laysBack_72 : decode cX5_laysBack 72 = .ok (.getfield 35, 3) := by decide +kernel
theorem dX5_laysBack_75 : decode cX5_laysBack 75 = .ok (.bipush 40, 2) := by decide +kernel
theorem dX5_laysBack_77 : decode cX5_laysBack 77 = .ok (.iaload, 1) := by decide +kernel
theorem dX5_laysBack_78 : decode cX5_laysBack 78 = .ok (.putfield 107, 3) := by decide +kernel
theorem dX5_laysBack_81 : decode cX5_laysBack 81 = .ok (.aload_n 0, 1) := by decide +kernel
theorem dX5_laysBack_82 : decode cX5_laysBack 82 = .ok (.aload_n 0, 1) := by decide +kernel
theorem dX5_laysBack_83 : decode cX5_laysBack 83 = .ok (.getfield 35, 3) := by decide +kernel
theorem dX5_laysBack_86 : decode cX5_laysBack 86 = .ok (.bipush 41, 2) := by decide +kernel
theorem dX5_laysBack_88 : decode cX5_laysBack 88 = .ok (.iaload, 1) := by decide +kernel
theorem dX5_laysBack_89 : decode cX5_laysBack 89 = .ok (.putfield 23, 3) := by decide +kernel
theorem dX5_laysBack_92 : decode cX5_laysBack 92 = .ok (.aload_n 0, 1) := by decide +kernel
theorem dX5_laysBack_93 : decode cX5_laysBack 93 = .ok (.aload_n 0, 1) := by decide +kernel
theorem dX5_laysBack_94 : decode cX5_laysBack 94 = .ok (.getfield 35, 3) := by decide +kernel
theorem dX5_laysBack_97 : decode cX5_laysBack 97 = .ok (.bipush 42, 2) := by decide +kernel
theorem dX5_laysBack_99 : decode cX5_laysBack 99 = .ok (.iaload, 1) := by decide +kernel
theorem dX5_laysBack_100 : decode cX5_laysBack 100 = .ok (.putfield 110, 3) := by decide +kernel
theorem dX5_laysBack_103 : decode cX5_laysBack 103 = .ok (.return_, 1) := by decide +kernel
theorem dX5_sails_0 : decode cX5_sails 0 = .ok (.iconst 0, 1) := by decide +kernel
theorem dX5_sails_1 : decode cX5_sails 1 = .ok (.istore_n 2, 1) := by decide +kernel
theorem dX5_sails_2 : decode cX5_sails 2 = .ok (.iload_n 2, 1) := by decide +kernel
theorem dX5_sails_3 : decode cX5_sails 3 = .ok (.iload_n 1, 1) := by decide +kernel
theorem dX5_sails_4 : decode cX5_sails 4 = .ok (.if_icmp .ge 13, 3) := by decide +kernel
theorem dX5_sails_7 : decode cX5_sails 7 = .ok (.aload_n 0, 1) := by decide +kernel
theorem dX5_sails_8 : decode cX5_sails 8 = .ok (.invokevirtual 285, 3) := by decide +kernel
theorem dX5_sails_11 : decode cX5_sails 11 = .ok (.iinc 2 1, 3) := by decide +kernel
theorem dX5_sails_14 : decode cX5_sails 14 = .ok (.goto (-12), 3) := by decide +kernel
theorem dX5_sails_17 : decode cX5_sails 17 = .ok (.return_, 1) := by decide +kernel
theorem dX5_waterBehind_0 : decode cX5_waterBehind 0 = .ok (.aload_n 0, 1) := by decide +kernel
theorem dX5_waterBehind_1 : decode cX5_waterBehind 1 = .ok (.invokevirtual 288, 3) := by decide +kernel
theorem dX5_waterBehind_4 : decode cX5_waterBehind 4 = .ok (.aload_n 0, 1) := by decide +kernel
theorem dX5_waterBehind_5 : decode cX5_waterBehind 5 = .ok (.iload_n 1, 1) := by decide +kernel
theorem dX5_waterBehind_6 : decode cX5_waterBehind 6 = .ok (.invokevirtual 291, 3) := by decide +kernel
theorem dX5_waterBehind_9 : decode cX5_waterBehind 9 = .ok (.aload_n 0, 1) := by decide +kernel
theorem dX5_waterBehind_10 : decode cX5_waterBehind 10 = .ok (.getfield 110, 3) := by decide +kernel
theorem dX5_waterBehind_13 : decode cX5_waterBehind 13 = .ok (.istore_n 2, 1) := by decide +kernel
theorem dX5_waterBehind_14 : decode cX5_waterBehind 14 = .ok (.aload_n 0, 1) := by decide +kernel
theorem dX5_waterBehind_15 : decode cX5_waterBehind 15 = .ok (.invokevirtual 294, 3) := by decide +kernel
theorem dX5_waterBehind_18 : decode cX5_waterBehind 18 = .ok (.iload_n 2, 1) := by decide +kernel
theorem dX5_waterBehind_19 : decode cX5_waterBehind 19 = .ok (.ireturn, 1) := by decide +kernel
theorem dX5_run_0 : decode cX5_run 0 = .ok (.iload_n 1, 1) := by decide +kernel
theorem dX5_run_1 : decode cX5_run 1 = .ok (.i2l, 1) := by decide +kernel
theorem dX5_run_2 : decode cX5_run 2 = .ok (.lconst 0, 1) := by decide +kernel
theorem dX5_run_3 : decode cX5_run 3 = .ok (.ldc2_w 297, 3) := by decide +kernel
theorem dX5_run_6 : decode cX5_run 6 = .ok (.invokestatic 76, 3) := by decide +kernel
theorem dX5_run_9 : decode cX5_run 9 = .ok (.ifCond .eq 29, 3) := by decide +kernel
theorem dX5_run_12 : decode cX5_run 12 = .ok (.iload_n 2, 1) := by decide +kernel
theorem dX5_run_13 : decode cX5_run 13 = .ok (.i2l, 1) := by decide +kernel
theorem dX5_run_14 : decode cX5_run 14 = .ok (.lconst 0, 1) := by decide +kernel
theorem dX5_run_15 : decode cX5_run 15 = .ok (.ldc2_w 299, 3) := by decide +kernel
theorem dX5_run_18 : decode cX5_run 18 = .ok (.invokestatic 76, 3) := by decide +kernel
theorem dX5_run_21 : decode cX5_run 21 = .ok (.ifCond .ne 20, 3) := by decide +kernel
theorem dX5_run_24 : decode cX5_run 24 = .ok (.iload_n 2, 1) := by decide +kernel
theorem dX5_run_25 : decode cX5_run 25 = .ok (.i2l, 1) := by decide +kernel
theorem dX5_run_26 : decode cX5_run 26 = .ok (.ldc2_w 167, 3) := by decide +kernel
theorem dX5_run_29 : decode cX5_run 29 = .ok (.ldc2_w 301, 3) := by decide +kernel
theorem dX5_run_32 : decode cX5_run 32 = .ok (.invokestatic 76, 3) := by decide +kernel
theorem dX5_run_35 : decode cX5_run 35 = .ok (.ifCond .ne 6, 3) := by decide +kernel
theorem dX5_run_38 : decode cX5_run 38 = .ok (.bipush (-2), 2) := by decide +kernel
theorem dX5_run_40 : decode cX5_run 40 = .ok (.ireturn, 1) := by decide +kernel
theorem dX5_run_41 : decode cX5_run 41 = .ok (.aload_n 0, 1) := by decide +kernel
theorem dX5_run_42 : decode cX5_run 42 = .ok (.invokevirtual 288, 3) := by decide +kernel
theorem dX5_run_45 : decode cX5_run 45 = .ok (.aload_n 0, 1) := by decide +kernel
theorem dX5_run_46 : decode cX5_run 46 = .ok (.iload_n 1, 1) := by decide +kernel
theorem dX5_run_47 : decode cX5_run 47 = .ok (.invokevirtual 291, 3) := by decide +kernel
theorem dX5_run_50 : decode cX5_run 50 = .ok (.iload_n 2, 1) := by decide +kernel
theorem dX5_run_51 : decode cX5_run 51 = .ok (.ifCond .ne 10, 3) := by decide +kernel
theorem dX5_run_54 : decode cX5_run 54 = .ok (.aload_n 0, 1) := by decide +kernel
theorem dX5_run_55 : decode cX5_run 55 = .ok (.getfield 110, 3) := by decide +kernel
theorem dX5_run_58 : decode cX5_run 58 = .ok (.goto 37, 3) := by decide +kernel
theorem dX5_run_61 : decode cX5_run 61 = .ok (.iload_n 2, 1) := by decide +kernel
theorem dX5_run_62 : decode cX5_run 62 = .ok (.iconst 1, 1) := by decide +kernel
theorem dX5_run_63 : decode cX5_run 63 = .ok (.if_icmp .ne 11, 3) := by decide +kernel
theorem dX5_run_66 : decode cX5_run 66 = .ok (.aload_n 0, 1) := by decide +kernel
theorem dX5_run_67 : decode cX5_run 67 = .ok (.iconst 2, 1) := by decide +kernel
theorem dX5_run_68 : decode cX5_run 68 = .ok (.invokevirtual 263, 3) := by decide +kernel
theorem dX5_run_71 : decode cX5_run 71 = .ok (.goto 24, 3) := by decide +kernel
theorem dX5_run_74 : decode cX5_run 74 = .ok (.iload_n 2, 1) := by decide +kernel
theorem dX5_run_75 : decode cX5_run 75 = .ok (.iconst 2, 1) := by decide +kernel
theorem dX5_run_76 : decode cX5_run 76 = .ok (.if_icmp .ne 10, 3) := by decide +kernel
theorem dX5_run_79 : decode cX5_run 79 = .ok (.aload_n 0, 1) := by decide +kernel
theorem dX5_run_80 : decode cX5_run 80 = .ok (.invokevirtual 278, 3) := by decide +kernel
theorem dX5_run_83 : decode cX5_run 83 = .ok (.goto 12, 3) := by decide +kernel
theorem dX5_run_86 : decode cX5_run 86 = .ok (.aload_n 0, 1) := by decide +kernel
theorem dX5_run_87 : decode cX5_run 87 = .ok (.getfield 29, 3) := by decide +kernel
theorem dX5_run_90 : decode cX5_run 90 = .ok (.iload_n 2, 1) := by decide +kernel
theorem dX5_run_91 : decode cX5_run 91 = .ok (.bipush 10, 2) := by decide +kernel
theorem dX5_run_93 : decode cX5_run 93 = .ok (.isub, 1) := by decide +kernel
theorem dX5_run_94 : decode cX5_run 94 = .ok (.iaload, 1) := by decide +kernel
theorem dX5_run_95 : decode cX5_run 95 = .ok (.istore_n 3, 1) := by decide +kernel
theorem dX5_run_96 : decode cX5_run 96 = .ok (.aload_n 0, 1) := by decide +kernel
theorem dX5_run_97 : decode cX5_run 97 = .ok (.invokevirtual 294, 3) := by decide +kernel
theorem dX5_run_100 : decode cX5_run 100 = .ok (.iload_n 3, 1) := by decide +kernel
theorem dX5_run_101 : decode cX5_run 101 = .ok (.ireturn, 1) := by decide +kernel
theorem dX5_down_0 : decode cX5_down 0 = .ok (.aload_n 0, 1) := by decide +kernel
theorem dX5_down_1 : decode cX5_down 1 = .ok (.invokevirtual 288, 3) := by decide +kernel
theorem dX5_down_4 : decode cX5_down 4 = .ok (.iconst 0, 1) := by decide +kernel
theorem dX5_down_5 : decode cX5_down 5 = .ok (.istore_n 1, 1) := by decide +kernel
theorem dX5_down_6 : decode cX5_down 6 = .ok (.iload_n 1, 1) := by decide +kernel
theorem dX5_down_7 : decode cX5_down 7 = .ok (.bipush 60, 2) := by decide +kernel
theorem dX5_down_9 : decode cX5_down 9 = .ok (.if_icmp .gt 22, 3) := by decide +kernel
theorem dX5_down_12 : decode cX5_down 12 = .ok (.aload_n 0, 1) := by decide +kernel
theorem dX5_down_13 : decode cX5_down 13 = .ok (.getfield 110, 3) := by decide +kernel
theorem dX5_down_16 : decode cX5_down 16 = .ok (.bipush 100, 2) := by decide +kernel
theorem dX5_down_18 : decode cX5_down 18 = .ok (.if_icmp .ge 13, 3) := by decide +kernel
theorem dX5_down_21 : decode cX5_down 21 = .ok (.aload_n 0, 1) := by decide +kernel
theorem dX5_down_22 : decode cX5_down 22 = .ok (.invokevirtual 285, 3) := by decide +kernel
theorem dX5_down_25 : decode cX5_down 25 = .ok (.iinc 1 1, 3) := by decide +kernel
theorem dX5_down_28 : decode cX5_down 28 = .ok (.goto (-22), 3) := by decide +kernel
theorem dX5_down_31 : decode cX5_down 31 = .ok (.aload_n 0, 1) := by decide +kernel
theorem dX5_down_32 : decode cX5_down 32 = .ok (.invokevirtual 294, 3) := by decide +kernel
theorem dX5_down_35 : decode cX5_down 35 = .ok (.iload_n 1, 1) := by decide +kernel
theorem dX5_down_36 : decode cX5_down 36 = .ok (.bipush 60, 2) := by decide +kernel
theorem dX5_down_38 : decode cX5_down 38 = .ok (.if_icmp .le 7, 3) := by decide +kernel
theorem dX5_down_41 : decode cX5_down 41 = .ok (.iconst (-1), 1) := by decide +kernel
theorem dX5_down_42 : decode cX5_down 42 = .ok (.goto 4, 3) := by decide +kernel
theorem dX5_down_45 : decode cX5_down 45 = .ok (.iload_n 1, 1) := by decide +kernel
theorem dX5_down_46 : decode cX5_down 46 = .ok (.ireturn, 1) := by decide +kernel
theorem dX5_tries_0 : decode cX5_tries 0 = .ok (.iload_n 1, 1) := by decide +kernel
theorem dX5_tries_1 : decode cX5_tries 1 = .ok (.aload_n 0, 1) := by decide +kernel
theorem dX5_tries_2 : decode cX5_tries 2 = .ok (.getfield 303, 3) := by decide +kernel
theorem dX5_tries_5 : decode cX5_tries 5 = .ok (.if_icmp .ne 47, 3) := by decide +kernel
theorem dX5_tries_8 : decode cX5_tries 8 = .ok (.aload_n 0, 1) := by decide +kernel
theorem dX5_tries_9 : decode cX5_tries 9 = .ok (.invokevirtual 288, 3) := by decide +kernel
theorem dX5_tries_12 : decode cX5_tries 12 = .ok (.aload_n 0, 1) := by decide +kernel
theorem dX5_tries_13 : decode cX5_tries 13 = .ok (.invokevirtual 275, 3) := by decide +kernel
theorem dX5_tries_16 : decode cX5_tries 16 = .ok (.aload_n 0, 1) := by decide +kernel
theorem dX5_tries_17 : decode cX5_tries 17 = .ok (.iload_n 3, 1) := by decide +kernel
theorem dX5_tries_18 : decode cX5_tries 18 = .ok (.invokevirtual 291, 3) := by decide +kernel
theorem dX5_tries_21 : decode cX5_tries 21 = .ok (.aload_n 0, 1) := by decide +kernel
theorem dX5_tries_22 : decode cX5_tries 22 = .ok (.getfield 110, 3) := by decide +kernel
theorem dX5_tries_25 : decode cX5_tries 25 = .ok (.istore 4, 2) := by decide +kernel
theorem dX5_tries_27 : decode cX5_tries 27 = .ok (.aload_n 0, 1) := by decide +kernel
theorem dX5_tries_28 : decode cX5_tries 28 = .ok (.invokevirtual 294, 3) := by decide +kernel
theorem dX5_tries_31 : decode cX5_tries 31 = .ok (.iload 4, 2) := by decide +kernel
theorem dX5_tries_33 : decode cX5_tries 33 = .ok (.aload_n 0, 1) := by decide +kernel
theorem dX5_tries_34 : decode cX5_tries 34 = .ok (.getfield 306, 3) := by decide +kernel
theorem dX5_tries_37 : decode cX5_tries 37 = .ok (.if_icmp .ge 14, 3) := by decide +kernel
theorem dX5_tries_40 : decode cX5_tries 40 = .ok (.aload_n 0, 1) := by decide +kernel
theorem dX5_tries_41 : decode cX5_tries 41 = .ok (.iload_n 2, 1) := by decide +kernel
theorem dX5_tries_42 : decode cX5_tries 42 = .ok (.putfield 309, 3) := by decide +kernel
theorem dX5_tries_45 : decode cX5_tries 45 = .ok (.aload_n 0, 1) := by decide +kernel
theorem dX5_tries_46 : decode cX5_tries 46 = .ok (.iload 4, 2) := by decide +kernel
theorem dX5_tries_48 : decode cX5_tries 48 = .ok (.putfield 306, 3) := by decide +kernel
theorem dX5_tries_51 : decode cX5_tries 51 = .ok (.return_, 1) := by decide +kernel
theorem dX5_tries_52 : decode cX5_tries 52 = .ok (.aload_n 0, 1) := by decide +kernel
theorem dX5_tries_53 : decode cX5_tries 53 = .ok (.getfield 29, 3) := by decide +kernel
theorem dX5_tries_56 : decode cX5_tries 56 = .ok (.aload_n 0, 1) := by decide +kernel
theorem dX5_tries_57 : decode cX5_tries 57 = .ok (.getfield 38, 3) := by decide +kernel
theorem dX5_tries_60 : decode cX5_tries 60 = .ok (.iload_n 1, 1) := by decide +kernel
theorem dX5_tries_61 : decode cX5_tries 61 = .ok (.iaload, 1) := by decide +kernel
theorem dX5_tries_62 : decode cX5_tries 62 = .ok (.iaload, 1) := by decide +kernel
theorem dX5_tries_63 : decode cX5_tries 63 = .ok (.istore 4, 2) := by decide +kernel
theorem dX5_tries_65 : decode cX5_tries 65 = .ok (.iconst 0, 1) := by decide +kernel
theorem dX5_tries_66 : decode cX5_tries 66 = .ok (.istore 5, 2) := by decide +kernel
theorem dX5_tries_68 : decode cX5_tries 68 = .ok (.iload 5, 2) := by decide +kernel
theorem dX5_tries_70 : decode cX5_tries 70 = .ok (.aload_n 0, 1) := by decide +kernel
theorem dX5_tries_71 : decode cX5_tries 71 = .ok (.getfield 73, 3) := by decide +kernel
theorem dX5_tries_74 : decode cX5_tries 74 = .ok (.if_icmp .ge 74, 3) := by decide +kernel
theorem dX5_tries_77 : decode cX5_tries 77 = .ok (.aload_n 0, 1) := by decide +kernel
theorem dX5_tries_78 : decode cX5_tries 78 = .ok (.iload 5, 2) := by decide +kernel
theorem dX5_tries_80 : decode cX5_tries 80 = .ok (.iconst 0, 1) := by decide +kernel
theorem dX5_tries_81 : decode cX5_tries 81 = .ok (.invokevirtual 129, 3) := by decide +kernel
theorem dX5_tries_84 : decode cX5_tries 84 = .ok (.ifCond .eq 58, 3) := by decide +kernel
theorem dX5_tries_87 : decode cX5_tries 87 = .ok (.aload_n 0, 1) := by decide +kernel
theorem dX5_tries_88 : decode cX5_tries 88 = .ok (.iload 5, 2) := by decide +kernel
theorem dX5_tries_90 : decode cX5_tries 90 = .ok (.aload_n 0, 1) := by decide +kernel
theorem dX5_tries_91 : decode cX5_tries 91 = .ok (.getfield 38, 3) := by decide +kernel
theorem dX5_tries_94 : decode cX5_tries 94 = .ok (.iload_n 1, 1) := by decide +kernel
theorem dX5_tries_95 : decode cX5_tries 95 = .ok (.iaload, 1) := by decide +kernel
theorem dX5_tries_96 : decode cX5_tries 96 = .ok (.invokevirtual 272, 3) := by decide +kernel
theorem dX5_tries_99 : decode cX5_tries 99 = .ok (.pop, 1) := by decide +kernel
theorem dX5_tries_100 : decode cX5_tries 100 = .ok (.aload_n 0, 1) := by decide +kernel
theorem dX5_tries_101 : decode cX5_tries 101 = .ok (.iload_n 1, 1) := by decide +kernel
theorem dX5_tries_102 : decode cX5_tries 102 = .ok (.iconst 1, 1) := by decide +kernel
theorem dX5_tries_103 : decode cX5_tries 103 = .ok (.iadd, 1) := by decide +kernel
theorem dX5_tries_104 : decode cX5_tries 104 = .ok (.bipush 6, 2) := by decide +kernel
theorem dX5_tries_106 : decode cX5_tries 106 = .ok (.iload_n 2, 1) := by decide +kernel
theorem dX5_tries_107 : decode cX5_tries 107 = .ok (.imul, 1) := by decide +kernel
theorem dX5_tries_108 : decode cX5_tries 108 = .ok (.iload 5, 2) := by decide +kernel
theorem dX5_tries_110 : decode cX5_tries 110 = .ok (.iadd, 1) := by decide +kernel
theorem dX5_tries_111 : decode cX5_tries 111 = .ok (.iconst 1, 1) := by decide +kernel
theorem dX5_tries_112 : decode cX5_tries 112 = .ok (.iadd, 1) := by decide +kernel
theorem dX5_tries_113 : decode cX5_tries 113 = .ok (.iload_n 3, 1) := by decide +kernel
theorem dX5_tries_114 : decode cX5_tries 114 = .ok (.invokevirtual 312, 3) := by decide +kernel
theorem dX5_tries_117 : decode cX5_tries 117 = .ok (.aload_n 0, 1) := by decide +kernel
theorem dX5_tries_118 : decode cX5_tries 118 = .ok (.getfield 26, 3) := by decide +kernel
theorem dX5_tries_121 : decode cX5_tries 121 = .ok (.aload_n 0, 1) := by decide +kernel
theorem dX5_tries_122 : decode cX5_tries 122 = .ok (.getfield 38, 3) := by decide +kernel
theorem dX5_tries_125 : decode cX5_tries 125 = .ok (.iload_n 1, 1) := by decide +kernel
theorem dX5_tries_126 : decode cX5_tries 126 = .ok (.iaload, 1) := by decide +kernel
theorem dX5_tries_127 : decode cX5_tries 127 = .ok (.iconst (-1), 1) := by decide +kernel
theorem dX5_tries_128 : decode cX5_tries 128 = .ok (.iastore, 1) := by decide +kernel
theorem dX5_tries_129 : decode cX5_tries 129 = .ok (.aload_n 0, 1) := by decide +kernel
theorem dX5_tries_130 : decode cX5_tries 130 = .ok (.getfield 29, 3) := by decide +kernel
theorem dX5_tries_133 : decode cX5_tries 133 = .ok (.aload_n 0, 1) := by decide +kernel
theorem dX5_tries_134 : decode cX5_tries 134 = .ok (.getfield 38, 3) := by decide +kernel
theorem dX5_tries_137 : decode cX5_tries 137 = .ok (.iload_n 1, 1) := by decide +kernel
theorem dX5_tries_138 : decode cX5_tries 138 = .ok (.iaload, 1) := by decide +kernel
theorem dX5_tries_139 : decode cX5_tries 139 = .ok (.iload 4, 2) := by decide +kernel
theorem dX5_tries_141 : decode cX5_tries 141 = .ok (.iastore, 1) := by decide +kernel
theorem dX5_tries_142 : decode cX5_tries 142 = .ok (.iinc 5 1, 3) := by decide +kernel
theorem dX5_tries_145 : decode cX5_tries 145 = .ok (.goto (-77), 3) := by decide +kernel
theorem dX5_tries_148 : decode cX5_tries 148 = .ok (.return_, 1) := by decide +kernel
theorem dX5_yard_0 : decode cX5_yard 0 = .ok (.iload_n 1, 1) := by decide +kernel
theorem dX5_yard_1 : decode cX5_yard 1 = .ok (.i2l, 1) := by decide +kernel
theorem dX5_yard_2 : decode cX5_yard 2 = .ok (.lconst 0, 1) := by decide +kernel
theorem dX5_yard_3 : decode cX5_yard 3 = .ok (.ldc2_w 315, 3) := by decide +kernel
theorem dX5_yard_6 : decode cX5_yard 6 = .ok (.invokestatic 76, 3) := by decide +kernel
theorem dX5_yard_9 : decode cX5_yard 9 = .ok (.ifCond .eq 13, 3) := by decide +kernel
theorem dX5_yard_12 : decode cX5_yard 12 = .ok (.iload_n 2, 1) := by decide +kernel
theorem dX5_yard_13 : decode cX5_yard 13 = .ok (.i2l, 1) := by decide +kernel
theorem dX5_yard_14 : decode cX5_yard 14 = .ok (.lconst 0, 1) := by decide +kernel
theorem dX5_yard_15 : decode cX5_yard 15 = .ok (.lconst 1, 1) := by decide +kernel
theorem dX5_yard_16 : decode cX5_yard 16 = .ok (.invokestatic 76, 3) := by decide +kernel
theorem dX5_yard_19 : decode cX5_yard 19 = .ok (.ifCond .ne 6, 3) := by decide +kernel
theorem dX5_yard_22 : decode cX5_yard 22 = .ok (.bipush (-2), 2) := by decide +kernel
theorem dX5_yard_24 : decode cX5_yard 24 = .ok (.ireturn, 1) := by decide +kernel
theorem dX5_yard_25 : decode cX5_yard 25 = .ok (.aload_n 0, 1) := by decide +kernel
theorem dX5_yard_26 : decode cX5_yard 26 = .ok (.iconst 0, 1) := by decide +kernel
theorem dX5_yard_27 : decode cX5_yard 27 = .ok (.putfield 303, 3) := by decide +kernel
theorem dX5_yard_30 : decode cX5_yard 30 = .ok (.iconst 0, 1) := by decide +kernel
theorem dX5_yard_31 : decode cX5_yard 31 = .ok (.istore_n 3, 1) := by decide +kernel
theorem dX5_yard_32 : decode cX5_yard 32 = .ok (.iload_n 3, 1) := by decide +kernel
theorem dX5_yard_33 : decode cX5_yard 33 = .ok (.bipush 10, 2) := by decide +kernel
theorem dX5_yard_35 : decode cX5_yard 35 = .ok (.if_icmp .ge 55, 3) := by decide +kernel
theorem dX5_yard_38 : decode cX5_yard 38 = .ok (.aload_n 0, 1) := by decide +kernel
theorem dX5_yard_39 : decode cX5_yard 39 = .ok (.getfield 26, 3) := by decide +kernel
theorem dX5_yard_42 : decode cX5_yard 42 = .ok (.iload_n 3, 1) := by decide +kernel
theorem dX5_yard_43 : decode cX5_yard 43 = .ok (.iaload, 1) := by decide +kernel
theorem dX5_yard_44 : decode cX5_yard 44 = .ok (.iconst (-1), 1) := by decide +kernel
theorem dX5_yard_45 : decode cX5_yard 45 = .ok (.if_icmp .ne 39, 3) := by decide +kernel
theorem dX5_yard_48 : decode cX5_yard 48 = .ok (.aload_n 0, 1) := by decide +kernel
theorem dX5_yard_49 : decode cX5_yard 49 = .ok (.getfield 303, 3) := by decide +kernel
theorem dX5_yard_52 : decode cX5_yard 52 = .ok (.iconst 3, 1) := by decide +kernel
theorem dX5_yard_53 : decode cX5_yard 53 = .ok (.if_icmp .ge 31, 3) := by decide +kernel
theorem dX5_yard_56 : decode cX5_yard 56 = .ok (.aload_n 0, 1) := by decide +kernel
theorem dX5_yard_57 : decode cX5_yard 57 = .ok (.iconst 0, 1) := by decide +kernel
theorem dX5_yard_58 : decode cX5_yard 58 = .ok (.invokevirtual 263, 3) := by decide +kernel
theorem dX5_yard_61 : decode cX5_yard 61 = .ok (.ifCond .eq 23, 3) := by decide +kernel
theorem dX5_yard_64 : decode cX5_yard 64 = .ok (.aload_n 0, 1) := by decide +kernel
theorem dX5_yard_65 : decode cX5_yard 65 = .ok (.getfield 38, 3) := by decide +kernel
theorem dX5_yard_68 : decode cX5_yard 68 = .ok (.aload_n 0, 1) := by decide +kernel
theorem dX5_yard_69 : decode cX5_yard 69 = .ok (.getfield 303, 3) := by decide +kernel
theorem dX5_yard_72 : decode cX5_yard 72 = .ok (.iload_n 3, 1) := by decide +kernel
theorem dX5_yard_73 : decode cX5_yard 73 = .ok (.iastore, 1) := by decide +kernel
theorem dX5_yard_74 : decode cX5_yard 74 = .ok (.aload_n 0, 1) := by decide +kernel
theorem dX5_yard_75 : decode cX5_yard 75 = .ok (.dup, 1) := by decide +kernel
theorem dX5_yard_76 : decode cX5_yard 76 = .ok (.getfield 303, 3) := by decide +kernel
theorem dX5_yard_79 : decode cX5_yard 79 = .ok (.iconst 1, 1) := by decide +kernel
theorem dX5_yard_80 : decode cX5_yard 80 = .ok (.iadd, 1) := by decide +kernel
theorem dX5_yard_81 : decode cX5_yard 81 = .ok (.putfield 303, 3) := by decide +kernel
theorem dX5_yard_84 : decode cX5_yard 84 = .ok (.iinc 3 1, 3) := by decide +kernel
theorem dX5_yard_87 : decode cX5_yard 87 = .ok (.goto (-55), 3) := by decide +kernel
theorem dX5_yard_90 : decode cX5_yard 90 = .ok (.aload_n 0, 1) := by decide +kernel
theorem dX5_yard_91 : decode cX5_yard 91 = .ok (.iconst 0, 1) := by decide +kernel
theorem dX5_yard_92 : decode cX5_yard 92 = .ok (.putfield 309, 3) := by decide +kernel
theorem dX5_yard_95 : decode cX5_yard 95 = .ok (.aload_n 0, 1) := by decide +kernel
theorem dX5_yard_96 : decode cX5_yard 96 = .ok (.bipush 101, 2) := by decide +kernel
theorem dX5_yard_98 : decode cX5_yard 98 = .ok (.putfield 306, 3) := by decide +kernel
theorem dX5_yard_101 : decode cX5_yard 101 = .ok (.aload_n 0, 1) := by decide +kernel
theorem dX5_yard_102 : decode cX5_yard 102 = .ok (.iconst 0, 1) := by decide +kernel
theorem dX5_yard_103 : decode cX5_yard 103 = .ok (.iconst 0, 1) := by decide +kernel
theorem dX5_yard_104 : decode cX5_yard 104 = .ok (.iload_n 1, 1) := by decide +kernel
theorem dX5_yard_105 : decode cX5_yard 105 = .ok (.invokevirtual 312, 3) := by decide +kernel
theorem dX5_yard_108 : decode cX5_yard 108 = .ok (.iload_n 2, 1) := by decide +kernel
theorem dX5_yard_109 : decode cX5_yard 109 = .ok (.ifCond .ne 10, 3) := by decide +kernel
theorem dX5_yard_112 : decode cX5_yard 112 = .ok (.aload_n 0, 1) := by decide +kernel
theorem dX5_yard_113 : decode cX5_yard 113 = .ok (.getfield 309, 3) := by decide +kernel
theorem dX5_yard_116 : decode cX5_yard 116 = .ok (.goto 7, 3) := by decide +kernel
theorem dX5_yard_119 : decode cX5_yard 119 = .ok (.aload_n 0, 1) := by decide +kernel
theorem dX5_yard_120 : decode cX5_yard 120 = .ok (.getfield 306, 3) := by decide +kernel
theorem dX5_yard_123 : decode cX5_yard 123 = .ok (.ireturn, 1) := by decide +kernel
theorem dX5_stands_0 : decode cX5_stands 0 = .ok (.iload_n 1, 1) := by decide +kernel
theorem dX5_stands_1 : decode cX5_stands 1 = .ok (.i2l, 1) := by decide +kernel
theorem dX5_stands_2 : decode cX5_stands 2 = .ok (.lconst 1, 1) := by decide +kernel
theorem dX5_stands_3 : decode cX5_stands 3 = .ok (.ldc2_w 297, 3) := by decide +kernel
theorem dX5_stands_6 : decode cX5_stands 6 = .ok (.invokestatic 76, 3) := by decide +kernel
theorem dX5_stands_9 : decode cX5_stands 9 = .ok (.ifCond .ne 6, 3) := by decide +kernel
theorem dX5_stands_12 : decode cX5_stands 12 = .ok (.bipush (-2), 2) := by decide +kernel
theorem dX5_stands_14 : decode cX5_stands 14 = .ok (.ireturn, 1) := by decide +kernel
theorem dX5_stands_15 : decode cX5_stands 15 = .ok (.aload_n 0, 1) := by decide +kernel
theorem dX5_stands_16 : decode cX5_stands 16 = .ok (.getfield 23, 3) := by decide +kernel
theorem dX5_stands_19 : decode cX5_stands 19 = .ok (.istore_n 2, 1) := by decide +kernel
theorem dX5_stands_20 : decode cX5_stands 20 = .ok (.iconst (-1), 1) := by decide +kernel
theorem dX5_stands_21 : decode cX5_stands 21 = .ok (.istore_n 3, 1) := by decide +kernel
theorem dX5_stands_22 : decode cX5_stands 22 = .ok (.bipush 99, 2) := by decide +kernel
theorem dX5_stands_24 : decode cX5_stands 24 = .ok (.istore 4, 2) := by decide +kernel
theorem dX5_stands_26 : decode cX5_stands 26 = .ok (.iload 4, 2) := by decide +kernel
theorem dX5_stands_28 : decode cX5_stands 28 = .ok (.ifCond .lt 37, 3) := by decide +kernel
theorem dX5_stands_31 : decode cX5_stands 31 = .ok (.iload_n 3, 1) := by decide +kernel
theorem dX5_stands_32 : decode cX5_stands 32 = .ok (.iconst (-1), 1) := by decide +kernel
theorem dX5_stands_33 : decode cX5_stands 33 = .ok (.if_icmp .ne 32, 3) := by decide +kernel
theorem dX5_stands_36 : decode cX5_stands 36 = .ok (.aload_n 0, 1) := by decide +kernel
theorem dX5_stands_37 : decode cX5_stands 37 = .ok (.iload 4, 2) := by decide +kernel
theorem dX5_stands_39 : decode cX5_stands 39 = .ok (.putfield 23, 3) := by decide +kernel
theorem dX5_stands_42 : decode cX5_stands 42 = .ok (.aload_n 0, 1) := by decide +kernel
theorem dX5_stands_43 : decode cX5_stands 43 = .ok (.iload_n 1, 1) := by decide +kernel
theorem dX5_stands_44 : decode cX5_stands 44 = .ok (.invokevirtual 317, 3) := by decide +kernel
theorem dX5_stands_47 : decode cX5_stands 47 = .ok (.bipush 100, 2) := by decide +kernel
theorem dX5_stands_49 : decode cX5_stands 49 = .ok (.if_icmp .ge 8, 3) := by decide +kernel
theorem dX5_stands_52 : decode cX5_stands 52 = .ok (.iload 4, 2) := by decide +kernel
theorem dX5_stands_54 : decode cX5_stands 54 = .ok (.goto 4, 3) := by decide +kernel
theorem dX5_stands_57 : decode cX5_stands 57 = .ok (.iconst (-1), 1) := by decide +kernel
theorem dX5_stands_58 : decode cX5_stands 58 = .ok (.istore_n 3, 1) := by decide +kernel
theorem dX5_stands_59 : decode cX5_stands 59 = .ok (.iinc 4 (-1), 3) := by decide +kernel
theorem dX5_stands_62 : decode cX5_stands 62 = .ok (.goto (-36), 3) := by decide +kernel
theorem dX5_stands_65 : decode cX5_stands 65 = .ok (.aload_n 0, 1) := by decide +kernel
theorem dX5_stands_66 : decode cX5_stands 66 = .ok (.iload_n 2, 1) := by decide +kernel
theorem dX5_stands_67 : decode cX5_stands 67 = .ok (.putfield 23, 3) := by decide +kernel
theorem dX5_stands_70 : decode cX5_stands 70 = .ok (.iload_n 3, 1) := by decide +kernel
theorem dX5_stands_71 : decode cX5_stands 71 = .ok (.ireturn, 1) := by decide +kernel
theorem dX5_goers_0 : decode cX5_goers 0 = .ok (.iconst 1, 1) := by decide +kernel
theorem dX5_goers_1 : decode cX5_goers 1 = .ok (.aload_n 0, 1) := by decide +kernel
theorem dX5_goers_2 : decode cX5_goers 2 = .ok (.getfield 73, 3) := by decide +kernel
theorem dX5_goers_5 : decode cX5_goers 5 = .ok (.ishl, 1) := by decide +kernel
theorem dX5_goers_6 : decode cX5_goers 6 = .ok (.iconst 1, 1) := by decide +kernel
theorem dX5_goers_7 : decode cX5_goers 7 = .ok (.isub, 1) := by decide +kernel
theorem dX5_goers_8 : decode cX5_goers 8 = .ok (.aload_n 0, 1) := by decide +kernel
theorem dX5_goers_9 : decode cX5_goers 9 = .ok (.iconst 2, 1) := by decide +kernel
theorem dX5_goers_10 : decode cX5_goers 10 = .ok (.invokevirtual 263, 3) := by decide +kernel
theorem dX5_goers_13 : decode cX5_goers 13 = .ok (.iconst (-1), 1) := by decide +kernel
theorem dX5_goers_14 : decode cX5_goers 14 = .ok (.ixor, 1) := by decide +kernel
theorem dX5_goers_15 : decode cX5_goers 15 = .ok (.iand, 1) := by decide +kernel
theorem dX5_goers_16 : decode cX5_goers 16 = .ok (.istore_n 2, 1) := by decide +kernel
theorem dX5_goers_17 : decode cX5_goers 17 = .ok (.aload_n 0, 1) := by decide +kernel
theorem dX5_goers_18 : decode cX5_goers 18 = .ok (.iconst 1, 1) := by decide +kernel
theorem dX5_goers_19 : decode cX5_goers 19 = .ok (.invokevirtual 263, 3) := by decide +kernel
theorem dX5_goers_22 : decode cX5_goers 22 = .ok (.istore_n 3, 1) := by decide +kernel
theorem dX5_goers_23 : decode cX5_goers 23 = .ok (.iconst (-1), 1) := by decide +kernel
theorem dX5_goers_24 : decode cX5_goers 24 = .ok (.istore 4, 2) := by decide +kernel
theorem dX5_goers_26 : decode cX5_goers 26 = .ok (.iconst 0, 1) := by decide +kernel
theorem dX5_goers_27 : decode cX5_goers 27 = .ok (.istore 5, 2) := by decide +kernel
theorem dX5_goers_29 : decode cX5_goers 29 = .ok (.iload 5, 2) := by decide +kernel
theorem dX5_goers_31 : decode cX5_goers 31 = .ok (.iconst 1, 1) := by decide +kernel
theorem dX5_goers_32 : decode cX5_goers 32 = .ok (.aload_n 0, 1) := by decide +kernel
theorem dX5_goers_33 : decode cX5_goers 33 = .ok (.getfield 73, 3) := by decide +kernel
theorem dX5_goers_36 : decode cX5_goers 36 = .ok (.ishl, 1) := by decide +kernel
theorem dX5_goers_37 : decode cX5_goers 37 = .ok (.if_icmp .ge 63, 3) := by decide +kernel
theorem dX5_goers_40 : decode cX5_goers 40 = .ok (.iload 5, 2) := by decide +kernel
theorem dX5_goers_42 : decode cX5_goers 42 = .ok (.iload_n 2, 1) := by decide +kernel
theorem dX5_goers_43 : decode cX5_goers 43 = .ok (.iconst (-1), 1) := by decide +kernel
theorem dX5_goers_44 : decode cX5_goers 44 = .ok (.ixor, 1) := by decide +kernel
theorem dX5_goers_45 : decode cX5_goers 45 = .ok (.iand, 1) := by decide +kernel
theorem dX5_goers_46 : decode cX5_goers 46 = .ok (.ifCond .ne 48, 3) := by decide +kernel
theorem dX5_goers_49 : decode cX5_goers 49 = .ok (.iload 4, 2) := by decide +kernel
theorem dX5_goers_51 : decode cX5_goers 51 = .ok (.iconst (-1), 1) := by decide +kernel
theorem dX5_goers_52 : decode cX5_goers 52 = .ok (.if_icmp .eq 16, 3) := by decide +kernel
theorem dX5_goers_55 : decode cX5_goers 55 = .ok (.iload 5, 2) := by decide +kernel
theorem dX5_goers_57 : decode cX5_goers 57 = .ok (.invokestatic 260, 3) := by decide +kernel
theorem dX5_goers_60 : decode cX5_goers 60 = .ok (.iload 4, 2) := by decide +kernel
theorem dX5_goers_62 : decode cX5_goers 62 = .ok (.invokestatic 260, 3) := by decide +kernel
theorem dX5_goers_65 : decode cX5_goers 65 = .ok (.if_icmp .ge 29, 3) := by decide +kernel
theorem dX5_goers_68 : decode cX5_goers 68 = .ok (.aload_n 0, 1) := by decide +kernel
theorem dX5_goers_69 : decode cX5_goers 69 = .ok (.iload 5, 2) := by decide +kernel
theorem dX5_goers_71 : decode cX5_goers 71 = .ok (.iload_n 2, 1) := by decide +kernel
theorem dX5_goers_72 : decode cX5_goers 72 = .ok (.invokevirtual 320, 3) := by decide +kernel
theorem dX5_goers_75 : decode cX5_goers 75 = .ok (.aload_n 0, 1) := by decide +kernel
theorem dX5_goers_76 : decode cX5_goers 76 = .ok (.iload_n 1, 1) := by decide +kernel
theorem dX5_goers_77 : decode cX5_goers 77 = .ok (.invokevirtual 317, 3) := by decide +kernel
theorem dX5_goers_80 : decode cX5_goers 80 = .ok (.bipush 100, 2) := by decide +kernel
theorem dX5_goers_82 : decode cX5_goers 82 = .ok (.if_icmp .ge 8, 3) := by decide +kernel
theorem dX5_goers_85 : decode cX5_goers 85 = .ok (.iload 5, 2) := by decide +kernel
theorem dX5_goers_87 : decode cX5_goers 87 = .ok (.goto 5, 3) := by decide +kernel
theorem dX5_goers_90 : decode cX5_goers 90 = .ok (.iload 4, 2) := by decide +kernel
theorem dX5_goers_92 : decode cX5_goers 92 = .ok (.istore 4, 2) := by decide +kernel
theorem dX5_goers_94 : decode cX5_goers 94 = .ok (.iinc 5 1, 3) := by decide +kernel
theorem dX5_goers_97 : decode cX5_goers 97 = .ok (.goto (-68), 3) := by decide +kernel
theorem dX5_goers_100 : decode cX5_goers 100 = .ok (.aload_n 0, 1) := by decide +kernel
theorem dX5_goers_101 : decode cX5_goers 101 = .ok (.iload_n 3, 1) := by decide +kernel
theorem dX5_goers_102 : decode cX5_goers 102 = .ok (.iload_n 2, 1) := by decide +kernel
theorem dX5_goers_103 : decode cX5_goers 103 = .ok (.invokevirtual 320, 3) := by decide +kernel
theorem dX5_goers_106 : decode cX5_goers 106 = .ok (.iload 4, 2) := by decide +kernel
theorem dX5_goers_108 : decode cX5_goers 108 = .ok (.ireturn, 1) := by decide +kernel
theorem dX5_placed_0 : decode cX5_placed 0 = .ok (.iconst 0, 1) := by decide +kernel
theorem dX5_placed_1 : decode cX5_placed 1 = .ok (.istore_n 3, 1) := by decide +kernel
theorem dX5_placed_2 : decode cX5_placed 2 = .ok (.iload_n 3, 1) := by decide +kernel
theorem dX5_placed_3 : decode cX5_placed 3 = .ok (.aload_n 0, 1) := by decide +kernel
theorem dX5_placed_4 : decode cX5_placed 4 = .ok (.getfield 73, 3) := by decide +kernel
theorem dX5_placed_7 : decode cX5_placed 7 = .ok (.if_icmp .ge 37, 3) := by decide +kernel
theorem dX5_placed_10 : decode cX5_placed 10 = .ok (.aload_n 0, 1) := by decide +kernel
theorem dX5_placed_11 : decode cX5_placed 11 = .ok (.getfield 32, 3) := by decide +kernel
theorem dX5_placed_14 : decode cX5_placed 14 = .ok (.iconst 4, 1) := by decide +kernel
theorem dX5_placed_15 : decode cX5_placed 15 = .ok (.iload_n 3, 1) := by decide +kernel
theorem dX5_placed_16 : decode cX5_placed 16 = .ok (.imul, 1) := by decide +kernel
theorem dX5_placed_17 : decode cX5_placed 17 = .ok (.iconst 3, 1) := by decide +kernel
theorem dX5_placed_18 : decode cX5_placed 18 = .ok (.iadd, 1) := by decide +kernel
theorem dX5_placed_19 : decode cX5_placed 19 = .ok (.iload_n 2, 1) := by decide +kernel
theorem dX5_placed_20 : decode cX5_placed 20 = .ok (.iload_n 3, 1) := by decide +kernel
theorem dX5_placed_21 : decode cX5_placed 21 = .ok (.ishr, 1) := by decide +kernel
theorem dX5_placed_22 : decode cX5_placed 22 = .ok (.iconst 1, 1) := by decide +kernel
theorem dX5_placed_23 : decode cX5_placed 23 = .ok (.iand, 1) := by decide +kernel
theorem dX5_placed_24 : decode cX5_placed 24 = .ok (.iconst 1, 1) := by decide +kernel
theorem dX5_placed_25 : decode cX5_placed 25 = .ok (.if_icmp .ne 11, 3) := by decide +kernel
theorem dX5_placed_28 : decode cX5_placed 28 = .ok (.iload_n 1, 1) := by decide +kernel
theorem dX5_placed_29 : decode cX5_placed 29 = .ok (.iload_n 3, 1) := by decide +kernel
theorem dX5_placed_30 : decode cX5_placed 30 = .ok (.ishr, 1) := by decide +kernel
theorem dX5_placed_31 : decode cX5_placed 31 = .ok (.iconst 1, 1) := by decide +kernel
theorem dX5_placed_32 : decode cX5_placed 32 = .ok (.iand, 1) := by decide +kernel
theorem dX5_placed_33 : decode cX5_placed 33 = .ok (.goto 4, 3) := by decide +kernel
theorem dX5_placed_36 : decode cX5_placed 36 = .ok (.iconst 2, 1) := by decide +kernel
theorem dX5_placed_37 : decode cX5_placed 37 = .ok (.iastore, 1) := by decide +kernel
theorem dX5_placed_38 : decode cX5_placed 38 = .ok (.iinc 3 1, 3) := by decide +kernel
theorem dX5_placed_41 : decode cX5_placed 41 = .ok (.goto (-39), 3) := by decide +kernel
theorem dX5_placed_44 : decode cX5_placed 44 = .ok (.return_, 1) := by decide +kernel
theorem dX5_go_0 : decode cX5_go 0 = .ok (.iload_n 1, 1) := by decide +kernel
theorem dX5_go_1 : decode cX5_go 1 = .ok (.i2l, 1) := by decide +kernel
theorem dX5_go_2 : decode cX5_go 2 = .ok (.lconst 0, 1) := by decide +kernel
theorem dX5_go_3 : decode cX5_go 3 = .ok (.ldc2_w 297, 3) := by decide +kernel
theorem dX5_go_6 : decode cX5_go 6 = .ok (.invokestatic 76, 3) := by decide +kernel
theorem dX5_go_9 : decode cX5_go 9 = .ok (.ifCond .eq 13, 3) := by decide +kernel
theorem dX5_go_12 : decode cX5_go 12 = .ok (.iload_n 2, 1) := by decide +kernel
theorem dX5_go_13 : decode cX5_go 13 = .ok (.i2l, 1) := by decide +kernel
theorem dX5_go_14 : decode cX5_go 14 = .ok (.lconst 0, 1) := by decide +kernel
theorem dX5_go_15 : decode cX5_go 15 = .ok (.lconst 1, 1) := by decide +kernel
theorem dX5_go_16 : decode cX5_go 16 = .ok (.invokestatic 76, 3) := by decide +kernel
theorem dX5_go_19 : decode cX5_go 19 = .ok (.ifCond .ne 6, 3) := by decide +kernel
theorem dX5_go_22 : decode cX5_go 22 = .ok (.bipush (-2), 2) := by decide +kernel
theorem dX5_go_24 : decode cX5_go 24 = .ok (.ireturn, 1) := by decide +kernel
theorem dX5_go_25 : decode cX5_go 25 = .ok (.aload_n 0, 1) := by decide +kernel
theorem dX5_go_26 : decode cX5_go 26 = .ok (.iload_n 1, 1) := by decide +kernel
theorem dX5_go_27 : decode cX5_go 27 = .ok (.invokevirtual 324, 3) := by decide +kernel
theorem dX5_go_30 : decode cX5_go 30 = .ok (.istore_n 3, 1) := by decide +kernel
theorem dX5_go_31 : decode cX5_go 31 = .ok (.iload_n 2, 1) := by decide +kernel
theorem dX5_go_32 : decode cX5_go 32 = .ok (.ifCond .eq 8, 3) := by decide +kernel
theorem dX5_go_35 : decode cX5_go 35 = .ok (.iload_n 3, 1) := by decide +kernel
theorem dX5_go_36 : decode cX5_go 36 = .ok (.iconst (-1), 1) := by decide +kernel
theorem dX5_go_37 : decode cX5_go 37 = .ok (.if_icmp .ne 7, 3) := by decide +kernel
theorem dX5_go_40 : decode cX5_go 40 = .ok (.iload_n 3, 1) := by decide +kernel
theorem dX5_go_41 : decode cX5_go 41 = .ok (.goto 7, 3) := by decide +kernel
theorem dX5_go_44 : decode cX5_go 44 = .ok (.iload_n 3, 1) := by decide +kernel
theorem dX5_go_45 : decode cX5_go 45 = .ok (.invokestatic 260, 3) := by decide +kernel
theorem dX5_go_48 : decode cX5_go 48 = .ok (.ireturn, 1) := by decide +kernel
theorem dX5_worst_0 : decode cX5_worst 0 = .ok (.iconst (-1), 1) := by decide +kernel
theorem dX5_worst_1 : decode cX5_worst 1 = .ok (.istore_n 1, 1) := by decide +kernel
theorem dX5_worst_2 : decode cX5_worst 2 = .ok (.iconst 0, 1) := by decide +kernel
theorem dX5_worst_3 : decode cX5_worst 3 = .ok (.istore_n 2, 1) := by decide +kernel
theorem dX5_worst_4 : decode cX5_worst 4 = .ok (.iconst 0, 1) := by decide +kernel
theorem dX5_worst_5 : decode cX5_worst 5 = .ok (.istore_n 3, 1) := by decide +kernel
theorem dX5_worst_6 : decode cX5_worst 6 = .ok (.iload_n 3, 1) := by decide +kernel
theorem dX5_worst_7 : decode cX5_worst 7 = .ok (.bipush 10, 2) := by decide +kernel
theorem dX5_worst_9 : decode cX5_worst 9 = .ok (.if_icmp .ge 26, 3) := by decide +kernel
theorem dX5_worst_12 : decode cX5_worst 12 = .ok (.aload_n 0, 1) := by decide +kernel
theorem dX5_worst_13 : decode cX5_worst 13 = .ok (.iload_n 3, 1) := by decide +kernel
theorem dX5_worst_14 : decode cX5_worst 14 = .ok (.invokevirtual 126, 3) := by decide +kernel
theorem dX5_worst_17 : decode cX5_worst 17 = .ok (.iload_n 2, 1) := by decide +kernel
theorem dX5_worst_18 : decode cX5_worst 18 = .ok (.if_icmp .le 11, 3) := by decide +kernel
theorem dX5_worst_21 : decode cX5_worst 21 = .ok (.iload_n 3, 1) := by decide +kernel
theorem dX5_worst_22 : decode cX5_worst 22 = .ok (.istore_n 1, 1) := by decide +kernel
theorem dX5_worst_23 : decode cX5_worst 23 = .ok (.aload_n 0, 1) := by decide +kernel
theorem dX5_worst_24 : decode cX5_worst 24 = .ok (.iload_n 3, 1) := by decide +kernel
theorem dX5_worst_25 : decode cX5_worst 25 = .ok (.invokevirtual 126, 3) := by decide +kernel
theorem dX5_worst_28 : decode cX5_worst 28 = .ok (.istore_n 2, 1) := by decide +kernel
theorem dX5_worst_29 : decode cX5_worst 29 = .ok (.iinc 3 1, 3) := by decide +kernel
theorem dX5_worst_32 : decode cX5_worst 32 = .ok (.goto (-26), 3) := by decide +kernel
theorem dX5_worst_35 : decode cX5_worst 35 = .ok (.iload_n 1, 1) := by decide +kernel
theorem dX5_worst_36 : decode cX5_worst 36 = .ok (.ireturn, 1) := by decide +kernel
theorem dX5_lowest_0 : decode cX5_lowest 0 = .ok (.lload_n 0, 1) := by decide +kernel
theorem dX5_lowest_1 : decode cX5_lowest 1 = .ok (.lstore 5, 2) := by decide +kernel
theorem dX5_lowest_3 : decode cX5_lowest 3 = .ok (.lload_n 2, 1) := by decide +kernel
theorem dX5_lowest_4 : decode cX5_lowest 4 = .ok (.lstore 7, 2) := by decide +kernel
theorem dX5_lowest_6 : decode cX5_lowest 6 = .ok (.lload 7, 2) := by decide +kernel
theorem dX5_lowest_8 : decode cX5_lowest 8 = .ok (.lconst 0, 1) := by decide +kernel
theorem dX5_lowest_9 : decode cX5_lowest 9 = .ok (.lcmp, 1) := by decide +kernel
theorem dX5_lowest_10 : decode cX5_lowest 10 = .ok (.ifCond .eq 21, 3) := by decide +kernel
theorem dX5_lowest_13 : decode cX5_lowest 13 = .ok (.lload 5, 2) := by decide +kernel
theorem dX5_lowest_15 : decode cX5_lowest 15 = .ok (.lload 7, 2) := by decide +kernel
theorem dX5_lowest_17 : decode cX5_lowest 17 = .ok (.lrem, 1) := by decide +kernel
theorem dX5_lowest_18 : decode cX5_lowest 18 = .ok (.lstore 9, 2) := by decide +kernel
theorem dX5_lowest_20 : decode cX5_lowest 20 = .ok (.lload 7, 2) := by decide +kernel
theorem dX5_lowest_22 : decode cX5_lowest 22 = .ok (.lstore 5, 2) := by decide +kernel
theorem dX5_lowest_24 : decode cX5_lowest 24 = .ok (.lload 9, 2) := by decide +kernel
theorem dX5_lowest_26 : decode cX5_lowest 26 = .ok (.lstore 7, 2) := by decide +kernel
theorem dX5_lowest_28 : decode cX5_lowest 28 = .ok (.goto (-22), 3) := by decide +kernel
theorem dX5_lowest_31 : decode cX5_lowest 31 = .ok (.iload 4, 2) := by decide +kernel
theorem dX5_lowest_33 : decode cX5_lowest 33 = .ok (.ifCond .ne 10, 3) := by decide +kernel
theorem dX5_lowest_36 : decode cX5_lowest 36 = .ok (.lload_n 0, 1) := by decide +kernel
theorem dX5_lowest_37 : decode cX5_lowest 37 = .ok (.lload 5, 2) := by decide +kernel
theorem dX5_lowest_39 : decode cX5_lowest 39 = .ok (.ldiv, 1) := by decide +kernel
theorem dX5_lowest_40 : decode cX5_lowest 40 = .ok (.goto 7, 3) := by decide +kernel
theorem dX5_lowest_43 : decode cX5_lowest 43 = .ok (.lload_n 2, 1) := by decide +kernel
theorem dX5_lowest_44 : decode cX5_lowest 44 = .ok (.lload 5, 2) := by decide +kernel
theorem dX5_lowest_46 : decode cX5_lowest 46 = .ok (.ldiv, 1) := by decide +kernel
theorem dX5_lowest_47 : decode cX5_lowest 47 = .ok (.lreturn, 1) := by decide +kernel
theorem dX5_mean_0 : decode cX5_mean 0 = .ok (.iconst 0, 1) := by decide +kernel
theorem dX5_mean_1 : decode cX5_mean 1 = .ok (.istore_n 2, 1) := by decide +kernel
theorem dX5_mean_2 : decode cX5_mean 2 = .ok (.iconst 0, 1) := by decide +kernel
theorem dX5_mean_3 : decode cX5_mean 3 = .ok (.istore_n 3, 1) := by decide +kernel
theorem dX5_mean_4 : decode cX5_mean 4 = .ok (.iload_n 3, 1) := by decide +kernel
theorem dX5_mean_5 : decode cX5_mean 5 = .ok (.bipush 10, 2) := by decide +kernel
theorem dX5_mean_7 : decode cX5_mean 7 = .ok (.if_icmp .ge 18, 3) := by decide +kernel
theorem dX5_mean_10 : decode cX5_mean 10 = .ok (.iload_n 2, 1) := by decide +kernel
theorem dX5_mean_11 : decode cX5_mean 11 = .ok (.aload_n 0, 1) := by decide +kernel
theorem dX5_mean_12 : decode cX5_mean 12 = .ok (.getfield 29, 3) := by decide +kernel
theorem dX5_mean_15 : decode cX5_mean 15 = .ok (.iload_n 3, 1) := by decide +kernel
theorem dX5_mean_16 : decode cX5_mean 16 = .ok (.iaload, 1) := by decide +kernel
theorem dX5_mean_17 : decode cX5_mean 17 = .ok (.iadd, 1) := by decide +kernel
theorem dX5_mean_18 : decode cX5_mean 18 = .ok (.istore_n 2, 1) := by decide +kernel
theorem dX5_mean_19 : decode cX5_mean 19 = .ok (.iinc 3 1, 3) := by decide +kernel
theorem dX5_mean_22 : decode cX5_mean 22 = .ok (.goto (-18), 3) := by decide +kernel
theorem dX5_mean_25 : decode cX5_mean 25 = .ok (.iload_n 1, 1) := by decide +kernel
theorem dX5_mean_26 : decode cX5_mean 26 = .ok (.i2l, 1) := by decide +kernel
theorem dX5_mean_27 : decode cX5_mean 27 = .ok (.lconst 0, 1) := by decide +kernel
theorem dX5_mean_28 : decode cX5_mean 28 = .ok (.lconst 1, 1) := by decide +kernel
theorem dX5_mean_29 : decode cX5_mean 29 = .ok (.invokestatic 76, 3) := by decide +kernel
theorem dX5_mean_32 : decode cX5_mean 32 = .ok (.ifCond .eq 15, 3) := by decide +kernel
theorem dX5_mean_35 : decode cX5_mean 35 = .ok (.iload_n 2, 1) := by decide +kernel
theorem dX5_mean_36 : decode cX5_mean 36 = .ok (.i2l, 1) := by decide +kernel
theorem dX5_mean_37 : decode cX5_mean 37 = .ok (.ldc2_w 167, 3) := by decide +kernel
theorem dX5_mean_40 : decode cX5_mean 40 = .ok (.iload_n 1, 1) := by decide +kernel
theorem dX5_mean_41 : decode cX5_mean 41 = .ok (.invokestatic 327, 3) := by decide +kernel
theorem dX5_mean_44 : decode cX5_mean 44 = .ok (.goto 6, 3) := by decide +kernel
theorem dX5_mean_47 : decode cX5_mean 47 = .ok (.ldc2_w 331, 3) := by decide +kernel
theorem dX5_mean_50 : decode cX5_mean 50 = .ok (.lreturn, 1) := by decide +kernel
theorem dX5_firstOther_0 : decode cX5_firstOther 0 = .ok (.aload_n 0, 1) := by decide +kernel
theorem dX5_firstOther_1 : decode cX5_firstOther 1 = .ok (.invokevirtual 288, 3) := by decide +kernel
theorem dX5_firstOther_4 : decode cX5_firstOther 4 = .ok (.iconst (-1), 1) := by decide +kernel
theorem dX5_firstOther_5 : decode cX5_firstOther 5 = .ok (.istore_n 2, 1) := by decide +kernel
theorem dX5_firstOther_6 : decode cX5_firstOther 6 = .ok (.iconst 0, 1) := by decide +kernel
theorem dX5_firstOther_7 : decode cX5_firstOther 7 = .ok (.istore_n 3, 1) := by decide +kernel
theorem dX5_firstOther_8 : decode cX5_firstOther 8 = .ok (.iload_n 3, 1) := by decide +kernel
theorem dX5_firstOther_9 : decode cX5_firstOther 9 = .ok (.aload_n 0, 1) := by decide +kernel
theorem dX5_firstOther_10 : decode cX5_firstOther 10 = .ok (.getfield 60, 3) := by decide +kernel
theorem dX5_firstOther_13 : decode cX5_firstOther 13 = .ok (.iload_n 1, 1) := by decide +kernel
theorem dX5_firstOther_14 : decode cX5_firstOther 14 = .ok (.iaload, 1) := by decide +kernel
theorem dX5_firstOther_15 : decode cX5_firstOther 15 = .ok (.if_icmp .ge 42, 3) := by decide +kernel
theorem dX5_firstOther_18 : decode cX5_firstOther 18 = .ok (.iload_n 2, 1) := by decide +kernel
theorem dX5_firstOther_19 : decode cX5_firstOther 19 = .ok (.iconst (-1), 1) := by decide +kernel
theorem dX5_firstOther_20 : decode cX5_firstOther 20 = .ok (.if_icmp .ne 37, 3) := by decide +kernel
theorem dX5_firstOther_23 : decode cX5_firstOther 23 = .ok (.aload_n 0, 1) := by decide +kernel
theorem dX5_firstOther_24 : decode cX5_firstOther 24 = .ok (.invokevirtual 285, 3) := by decide +kernel
theorem dX5_firstOther_27 : decode cX5_firstOther 27 = .ok (.aload_n 0, 1) := by decide +kernel
theorem dX5_firstOther_28 : decode cX5_firstOther 28 = .ok (.getfield 110, 3) := by decide +kernel
theorem dX5_firstOther_31 : decode cX5_firstOther 31 = .ok (.aload_n 0, 1) := by decide +kernel
theorem dX5_firstOther_32 : decode cX5_firstOther 32 = .ok (.getfield 63, 3) := by decide +kernel
theorem dX5_firstOther_35 : decode cX5_firstOther 35 = .ok (.bipush 40, 2) := by decide +kernel
theorem dX5_firstOther_37 : decode cX5_firstOther 37 = .ok (.iload_n 1, 1) := by decide +kernel
theorem dX5_firstOther_38 : decode cX5_firstOther 38 = .ok (.imul, 1) := by decide +kernel
theorem dX5_firstOther_39 : decode cX5_firstOther 39 = .ok (.iload_n 3, 1) := by decide +kernel
theorem dX5_firstOther_40 : decode cX5_firstOther 40 = .ok (.iadd, 1) := by decide +kernel
theorem dX5_firstOther_41 : decode cX5_firstOther 41 = .ok (.iaload, 1) := by decide +kernel
theorem dX5_firstOther_42 : decode cX5_firstOther 42 = .ok (.if_icmp .ne 7, 3) := by decide +kernel
theorem dX5_firstOther_45 : decode cX5_firstOther 45 = .ok (.iconst (-1), 1) := by decide +kernel
theorem dX5_firstOther_46 : decode cX5_firstOther 46 = .ok (.goto 4, 3) := by decide +kernel
theorem dX5_firstOther_49 : decode cX5_firstOther 49 = .ok (.iload_n 3, 1) := by decide +kernel
theorem dX5_firstOther_50 : decode cX5_firstOther 50 = .ok (.istore_n 2, 1) := by decide +kernel
theorem dX5_firstOther_51 : decode cX5_firstOther 51 = .ok (.iinc 3 1, 3) := by decide +kernel
theorem dX5_firstOther_54 : decode cX5_firstOther 54 = .ok (.goto (-46), 3) := by decide +kernel
theorem dX5_firstOther_57 : decode cX5_firstOther 57 = .ok (.aload_n 0, 1) := by decide +kernel
theorem dX5_firstOther_58 : decode cX5_firstOther 58 = .ok (.invokevirtual 294, 3) := by decide +kernel
theorem dX5_firstOther_61 : decode cX5_firstOther 61 = .ok (.iload_n 2, 1) := by decide +kernel
theorem dX5_firstOther_62 : decode cX5_firstOther 62 = .ok (.ireturn, 1) := by decide +kernel
theorem dX5_soundSet_0 : decode cX5_soundSet 0 = .ok (.iconst 0, 1) := by decide +kernel
theorem dX5_soundSet_1 : decode cX5_soundSet 1 = .ok (.istore_n 2, 1) := by decide +kernel
theorem dX5_soundSet_2 : decode cX5_soundSet 2 = .ok (.iconst 0, 1) := by decide +kernel
theorem dX5_soundSet_3 : decode cX5_soundSet 3 = .ok (.istore_n 3, 1) := by decide +kernel
theorem dX5_soundSet_4 : decode cX5_soundSet 4 = .ok (.iload_n 3, 1) := by decide +kernel
theorem dX5_soundSet_5 : decode cX5_soundSet 5 = .ok (.bipush 10, 2) := by decide +kernel
theorem dX5_soundSet_7 : decode cX5_soundSet 7 = .ok (.if_icmp .ge 52, 3) := by decide +kernel
theorem dX5_soundSet_10 : decode cX5_soundSet 10 = .ok (.aload_n 0, 1) := by decide +kernel
theorem dX5_soundSet_11 : decode cX5_soundSet 11 = .ok (.getfield 29, 3) := by decide +kernel
theorem dX5_soundSet_14 : decode cX5_soundSet 14 = .ok (.iload_n 3, 1) := by decide +kernel
theorem dX5_soundSet_15 : decode cX5_soundSet 15 = .ok (.iaload, 1) := by decide +kernel
theorem dX5_soundSet_16 : decode cX5_soundSet 16 = .ok (.istore 4, 2) := by decide +kernel
theorem dX5_soundSet_18 : decode cX5_soundSet 18 = .ok (.aload_n 0, 1) := by decide +kernel
theorem dX5_soundSet_19 : decode cX5_soundSet 19 = .ok (.getfield 29, 3) := by decide +kernel
theorem dX5_soundSet_22 : decode cX5_soundSet 22 = .ok (.iload_n 3, 1) := by decide +kernel
theorem dX5_soundSet_23 : decode cX5_soundSet 23 = .ok (.bipush 99, 2) := by decide +kernel
theorem dX5_soundSet_25 : decode cX5_soundSet 25 = .ok (.iastore, 1) := by decide +kernel
theorem dX5_soundSet_26 : decode cX5_soundSet 26 = .ok (.iload_n 2, 1) := by decide +kernel
theorem dX5_soundSet_27 : decode cX5_soundSet 27 = .ok (.aload_n 0, 1) := by decide +kernel
theorem dX5_soundSet_28 : decode cX5_soundSet 28 = .ok (.iload_n 1, 1) := by decide +kernel
theorem dX5_soundSet_29 : decode cX5_soundSet 29 = .ok (.invokevirtual 333, 3) := by decide +kernel
theorem dX5_soundSet_32 : decode cX5_soundSet 32 = .ok (.iconst (-1), 1) := by decide +kernel
theorem dX5_soundSet_33 : decode cX5_soundSet 33 = .ok (.if_icmp .ne 7, 3) := by decide +kernel
theorem dX5_soundSet_36 : decode cX5_soundSet 36 = .ok (.iconst 1, 1) := by decide +kernel
theorem dX5_soundSet_37 : decode cX5_soundSet 37 = .ok (.goto 4, 3) := by decide +kernel
theorem dX5_soundSet_40 : decode cX5_soundSet 40 = .ok (.iconst 0, 1) := by decide +kernel
theorem dX5_soundSet_41 : decode cX5_soundSet 41 = .ok (.iload_n 3, 1) := by decide +kernel
theorem dX5_soundSet_42 : decode cX5_soundSet 42 = .ok (.ishl, 1) := by decide +kernel
theorem dX5_soundSet_43 : decode cX5_soundSet 43 = .ok (.ior, 1) := by decide +kernel
theorem dX5_soundSet_44 : decode cX5_soundSet 44 = .ok (.istore_n 2, 1) := by decide +kernel
theorem dX5_soundSet_45 : decode cX5_soundSet 45 = .ok (.aload_n 0, 1) := by decide +kernel
theorem dX5_soundSet_46 : decode cX5_soundSet 46 = .ok (.getfield 29, 3) := by decide +kernel
theorem dX5_soundSet_49 : decode cX5_soundSet 49 = .ok (.iload_n 3, 1) := by decide +kernel
theorem dX5_soundSet_50 : decode cX5_soundSet 50 = .ok (.iload 4, 2) := by decide +kernel
theorem dX5_soundSet_52 : decode cX5_soundSet 52 = .ok (.iastore, 1) := by decide +kernel
theorem dX5_soundSet_53 : decode cX5_soundSet 53 = .ok (.iinc 3 1, 3) := by decide +kernel
theorem dX5_soundSet_56 : decode cX5_soundSet 56 = .ok (.goto (-52), 3) := by decide +kernel
theorem dX5_soundSet_59 : decode cX5_soundSet 59 = .ok (.iload_n 2, 1) := by decide +kernel
theorem dX5_soundSet_60 : decode cX5_soundSet 60 = .ok (.ireturn, 1) := by decide +kernel
theorem dX5_tells_0 : decode cX5_tells 0 = .ok (.iload_n 1, 1) := by decide +kernel
theorem dX5_tells_1 : decode cX5_tells 1 = .ok (.invokestatic 336, 3) := by decide +kernel
theorem dX5_tells_4 : decode cX5_tells 4 = .ok (.ifCond .eq 23, 3) := by decide +kernel
theorem dX5_tells_7 : decode cX5_tells 7 = .ok (.aload_n 0, 1) := by decide +kernel
theorem dX5_tells_8 : decode cX5_tells 8 = .ok (.iload_n 2, 1) := by decide +kernel
theorem dX5_tells_9 : decode cX5_tells 9 = .ok (.invokevirtual 86, 3) := by decide +kernel
theorem dX5_tells_12 : decode cX5_tells 12 = .ok (.ifCond .eq 15, 3) := by decide +kernel
theorem dX5_tells_15 : decode cX5_tells 15 = .ok (.iload_n 3, 1) := by decide +kernel
theorem dX5_tells_16 : decode cX5_tells 16 = .ok (.i2l, 1) := by decide +kernel
theorem dX5_tells_17 : decode cX5_tells 17 = .ok (.lconst 0, 1) := by decide +kernel
theorem dX5_tells_18 : decode cX5_tells 18 = .ok (.ldc2_w 339, 3) := by decide +kernel
theorem dX5_tells_21 : decode cX5_tells 21 = .ok (.invokestatic 76, 3) := by decide +kernel
theorem dX5_tells_24 : decode cX5_tells 24 = .ok (.ifCond .ne 6, 3) := by decide +kernel
theorem dX5_tells_27 : decode cX5_tells 27 = .ok (.bipush (-2), 2) := by decide +kernel
theorem dX5_tells_29 : decode cX5_tells 29 = .ok (.ireturn, 1) := by decide +kernel
theorem dX5_tells_30 : decode cX5_tells 30 = .ok (.aload_n 0, 1) := by decide +kernel
theorem dX5_tells_31 : decode cX5_tells 31 = .ok (.getfield 53, 3) := by decide +kernel
theorem dX5_tells_34 : decode cX5_tells 34 = .ok (.iload_n 1, 1) := by decide +kernel
theorem dX5_tells_35 : decode cX5_tells 35 = .ok (.baload, 1) := by decide +kernel
theorem dX5_tells_36 : decode cX5_tells 36 = .ok (.ifCond .ne 6, 3) := by decide +kernel
theorem dX5_tells_39 : decode cX5_tells 39 = .ok (.bipush (-11), 2) := by decide +kernel
theorem dX5_tells_41 : decode cX5_tells 41 = .ok (.ireturn, 1) := by decide +kernel
theorem dX5_tells_42 : decode cX5_tells 42 = .ok (.aload_n 0, 1) := by decide +kernel
theorem dX5_tells_43 : decode cX5_tells 43 = .ok (.getfield 60, 3) := by decide +kernel
theorem dX5_tells_46 : decode cX5_tells 46 = .ok (.iload_n 1, 1) := by decide +kernel
theorem dX5_tells_47 : decode cX5_tells 47 = .ok (.iaload, 1) := by decide +kernel
theorem dX5_tells_48 : decode cX5_tells 48 = .ok (.bipush 20, 2) := by decide +kernel
theorem dX5_tells_50 : decode cX5_tells 50 = .ok (.if_icmp .le 6, 3) := by decide +kernel
theorem dX5_tells_53 : decode cX5_tells 53 = .ok (.bipush (-2), 2) := by decide +kernel
theorem dX5_tells_55 : decode cX5_tells 55 = .ok (.ireturn, 1) := by decide +kernel
theorem dX5_tells_56 : decode cX5_tells 56 = .ok (.iload_n 3, 1) := by decide +kernel
theorem dX5_tells_57 : decode cX5_tells 57 = .ok (.ifCond .eq 9, 3) := by decide +kernel
theorem dX5_tells_60 : decode cX5_tells 60 = .ok (.iload_n 3, 1) := by decide +kernel
theorem dX5_tells_61 : decode cX5_tells 61 = .ok (.bipush 8, 2) := by decide +kernel
theorem dX5_tells_63 : decode cX5_tells 63 = .ok (.if_icmp .ne 21, 3) := by decide +kernel
theorem dX5_tells_66 : decode cX5_tells 66 = .ok (.iload_n 3, 1) := by decide +kernel
theorem dX5_tells_67 : decode cX5_tells 67 = .ok (.ifCond .ne 11, 3) := by decide +kernel
theorem dX5_tells_70 : decode cX5_tells 70 = .ok (.aload_n 0, 1) := by decide +kernel
theorem dX5_tells_71 : decode cX5_tells 71 = .ok (.iload_n 1, 1) := by decide +kernel
theorem dX5_tells_72 : decode cX5_tells 72 = .ok (.invokevirtual 333, 3) := by decide +kernel
theorem dX5_tells_75 : decode cX5_tells 75 = .ok (.goto 8, 3) := by decide +kernel
theorem dX5_tells_78 : decode cX5_tells 78 = .ok (.aload_n 0, 1) := by decide +kernel
theorem dX5_tells_79 : decode cX5_tells 79 = .ok (.iload_n 1, 1) := by decide +kernel
theorem dX5_tells_80 : decode cX5_tells 80 = .ok (.invokevirtual 341, 3) := by decide +kernel
theorem dX5_tells_83 : decode cX5_tells 83 = .ok (.ireturn, 1) := by decide +kernel
theorem dX5_tells_84 : decode cX5_tells 84 = .ok (.iload_n 3, 1) := by decide +kernel
theorem dX5_tells_85 : decode cX5_tells 85 = .ok (.iconst 1, 1) := by decide +kernel
theorem dX5_tells_86 : decode cX5_tells 86 = .ok (.if_icmp .ne 8, 3) := by decide +kernel
theorem dX5_tells_89 : decode cX5_tells 89 = .ok (.bipush 6, 2) := by decide +kernel
theorem dX5_tells_91 : decode cX5_tells 91 = .ok (.goto 33, 3) := by decide +kernel
theorem dX5_tells_94 : decode cX5_tells 94 = .ok (.iload_n 3, 1) := by decide +kernel
theorem dX5_tells_95 : decode cX5_tells 95 = .ok (.iconst 2, 1) := by decide +kernel
theorem dX5_tells_96 : decode cX5_tells 96 = .ok (.if_icmp .ne 7, 3) := by decide +kernel
theorem dX5_tells_99 : decode cX5_tells 99 = .ok (.iconst 4, 1) := by decide +kernel
theorem dX5_tells_100 : decode cX5_tells 100 = .ok (.goto 24, 3) := by decide +kernel
theorem dX5_tells_103 : decode cX5_tells 103 = .ok (.iload_n 3, 1) := by decide +kernel
theorem dX5_tells_104 : decode cX5_tells 104 = .ok (.iconst 5, 1) := by decide +kernel
theorem dX5_tells_105 : decode cX5_tells 105 = .ok (.if_icmp .ge 7, 3) := by decide +kernel
theorem dX5_tells_108 : decode cX5_tells 108 = .ok (.iconst 5, 1) := by decide +kernel
theorem dX5_tells_109 : decode cX5_tells 109 = .ok (.goto 15, 3) := by decide +kernel
theorem dX5_tells_112 : decode cX5_tells 112 = .ok (.iload_n 3, 1) := by decide +kernel
theorem dX5_tells_113 : decode cX5_tells 113 = .ok (.bipush 7, 2) := by decide +kernel
theorem dX5_tells_115 : decode cX5_tells 115 = .ok (.if_icmp .ge 7, 3) := by decide +kernel
theorem dX5_tells_118 : decode cX5_tells 118 = .ok (.iconst 1, 1) := by decide +kernel
theorem dX5_tells_119 : decode cX5_tells 119 = .ok (.goto 5, 3) := by decide +kernel
theorem dX5_tells_122 : decode cX5_tells 122 = .ok (.bipush 7, 2) := by decide +kernel
theorem dX5_tells_124 : decode cX5_tells 124 = .ok (.istore 4, 2) := by decide +kernel
theorem dX5_tells_126 : decode cX5_tells 126 = .ok (.iload 4, 2) := by decide +kernel
theorem dX5_tells_128 : decode cX5_tells 128 = .ok (.bipush 7, 2) := by decide +kernel
theorem dX5_tells_130 : decode cX5_tells 130 = .ok (.if_icmp .ne 10, 3) := by decide +kernel
theorem dX5_tells_133 : decode cX5_tells 133 = .ok (.aload_n 0, 1) := by decide +kernel
theorem dX5_tells_134 : decode cX5_tells 134 = .ok (.getfield 113, 3) := by decide +kernel
theorem dX5_tells_137 : decode cX5_tells 137 = .ok (.goto 10, 3) := by decide +kernel
theorem dX5_tells_140 : decode cX5_tells 140 = .ok (.aload_n 0, 1) := by decide +kernel
theorem dX5_tells_141 : decode cX5_tells 141 = .ok (.iload_n 2, 1) := by decide +kernel
theorem dX5_tells_142 : decode cX5_tells 142 = .ok (.iload 4, 2) := by decide +kernel
theorem dX5_tells_144 : decode cX5_tells 144 = .ok (.invokevirtual 99, 3) := by decide +kernel
theorem dX5_tells_147 : decode cX5_tells 147 = .ok (.istore 5, 2) := by decide +kernel
theorem dX5_tells_149 : decode cX5_tells 149 = .ok (.iload 4, 2) := by decide +kernel
theorem dX5_tells_151 : decode cX5_tells 151 = .ok (.bipush 7, 2) := by decide +kernel
theorem dX5_tells_153 : decode cX5_tells 153 = .ok (.if_icmp .ne 12, 3) := by decide +kernel
theorem dX5_tells_156 : decode cX5_tells 156 = .ok (.aload_n 0, 1) := by decide +kernel
theorem dX5_tells_157 : decode cX5_tells 157 = .ok (.getfield 70, 3) := by decide +kernel
theorem dX5_tells_160 : decode cX5_tells 160 = .ok (.iconst 1, 1) := by decide +kernel
theorem dX5_tells_161 : decode cX5_tells 161 = .ok (.isub, 1) := by decide +kernel
theorem dX5_tells_162 : decode cX5_tells 162 = .ok (.goto 27, 3) := by decide +kernel
theorem dX5_tells_165 : decode cX5_tells 165 = .ok (.iload 4, 2) := by decide +kernel
theorem dX5_tells_167 : decode cX5_tells 167 = .ok (.bipush 6, 2) := by decide +kernel
theorem dX5_tells_169 : decode cX5_tells 169 = .ok (.if_icmp .ne 7, 3) := by decide +kernel
theorem dX5_tells_172 : decode cX5_tells 172 = .ok (.iconst 5, 1) := by decide +kernel
theorem dX5_tells_173 : decode cX5_tells 173 = .ok (.goto 16, 3) := by decide +kernel
theorem dX5_tells_176 : decode cX5_tells 176 = .ok (.iload 4, 2) := by decide +kernel
theorem dX5_tells_178 : decode cX5_tells 178 = .ok (.iconst 4, 1) := by decide +kernel
theorem dX5_tells_179 : decode cX5_tells 179 = .ok (.if_icmp .ne 8, 3) := by decide +kernel
theorem dX5_tells_182 : decode cX5_tells 182 = .ok (.bipush 9, 2) := by decide +kernel
theorem dX5_tells_184 : decode cX5_tells 184 = .ok (.goto 5, 3) := by decide +kernel
theorem dX5_tells_187 : decode cX5_tells 187 = .ok (.bipush 99, 2) := by decide +kernel
theorem dX5_tells_189 : decode cX5_tells 189 = .ok (.istore 6, 2) := by decide +kernel
theorem dX5_tells_191 : decode cX5_tells 191 = .ok (.iconst 0, 1) := by decide +kernel
theorem dX5_tells_192 : decode cX5_tells 192 = .ok (.istore 7, 2) := by decide +kernel
theorem dX5_tells_194 : decode cX5_tells 194 = .ok (.iconst 0, 1) := by decide +kernel
theorem dX5_tells_195 : decode cX5_tells 195 = .ok (.istore 8, 2) := by decide +kernel
theorem dX5_tells_197 : decode cX5_tells 197 = .ok (.iconst (-1), 1) := by decide +kernel
theorem dX5_tells_198 : decode cX5_tells 198 = .ok (.istore 9, 2) := by decide +kernel
theorem dX5_tells_200 : decode cX5_tells 200 = .ok (.iload 6, 2) := by decide +kernel
theorem dX5_tells_202 : decode cX5_tells 202 = .ok (.istore 10, 2) := by decide +kernel
theorem dX5_tells_204 : decode cX5_tells 204 = .ok (.iload 10, 2) := by decide +kernel
theorem dX5_tells_206 : decode cX5_tells 206 = .ok (.ifCond .lt 54, 3) := by decide +kernel
theorem dX5_tells_209 : decode cX5_tells 209 = .ok (.aload_n 0, 1) := by decide +kernel
theorem dX5_tells_210 : decode cX5_tells 210 = .ok (.iload 4, 2) := by decide +kernel
theorem dX5_tells_212 : decode cX5_tells 212 = .ok (.iload_n 2, 1) := by decide +kernel
theorem dX5_tells_213 : decode cX5_tells 213 = .ok (.iload 10, 2) := by decide +kernel
theorem dX5_tells_215 : decode cX5_tells 215 = .ok (.invokevirtual 103, 3) := by decide +kernel
theorem dX5_tells_218 : decode cX5_tells 218 = .ok (.aload_n 0, 1) := by decide +kernel
theorem dX5_tells_219 : decode cX5_tells 219 = .ok (.iload_n 1, 1) := by decide +kernel
theorem dX5_tells_220 : decode cX5_tells 220 = .ok (.invokevirtual 333, 3) := by decide +kernel
theorem dX5_tells_223 : decode cX5_tells 223 = .ok (.iconst (-1), 1) := by decide +kernel
theorem dX5_tells_224 : decode cX5_tells 224 = .ok (.if_icmp .ne 30, 3) := by decide +kernel
theorem dX5_tells_227 : decode cX5_tells 227 = .ok (.iload 7, 2) := by decide +kernel
theorem dX5_tells_229 : decode cX5_tells 229 = .ok (.iload 10, 2) := by decide +kernel
theorem dX5_tells_231 : decode cX5_tells 231 = .ok (.bipush 10, 2) := by decide +kernel
theorem dX5_tells_233 : decode cX5_tells 233 = .ok (.if_icmp .ge 10, 3) := by decide +kernel
theorem dX5_tells_236 : decode cX5_tells 236 = .ok (.iconst 1, 1) := by decide +kernel
theorem dX5_tells_237 : decode cX5_tells 237 = .ok (.iload 10, 2) := by decide +kernel
theorem dX5_tells_239 : decode cX5_tells 239 = .ok (.ishl, 1) := by decide +kernel
theorem dX5_tells_240 : decode cX5_tells 240 = .ok (.goto 4, 3) := by decide +kernel
theorem dX5_tells_243 : decode cX5_tells 243 = .ok (.iconst 0, 1) := by decide +kernel
theorem dX5_tells_244 : decode cX5_tells 244 = .ok (.ior, 1) := by decide +kernel
theorem dX5_tells_245 : decode cX5_tells 245 = .ok (.istore 7, 2) := by decide +kernel
theorem dX5_tells_247 : decode cX5_tells 247 = .ok (.iinc 8 1, 3) := by decide +kernel
theorem dX5_tells_250 : decode cX5_tells 250 = .ok (.iload 10, 2) := by decide +kernel
theorem dX5_tells_252 : decode cX5_tells 252 = .ok (.istore 9, 2) := by decide +kernel
theorem dX5_tells_254 : decode cX5_tells 254 = .ok (.iinc 10 (-1), 3) := by decide +kernel
theorem dX5_tells_257 : decode cX5_tells 257 = .ok (.goto (-53), 3) := by decide +kernel
theorem dX5_tells_260 : decode cX5_tells 260 = .ok (.aload_n 0, 1) := by decide +kernel
theorem dX5_tells_261 : decode cX5_tells 261 = .ok (.iload 4, 2) := by decide +kernel
theorem dX5_tells_263 : decode cX5_tells 263 = .ok (.iload_n 2, 1) := by decide +kernel
theorem dX5_tells_264 : decode cX5_tells 264 = .ok (.iload 5, 2) := by decide +kernel
theorem dX5_tells_266 : decode cX5_tells 266 = .ok (.invokevirtual 103, 3) := by decide +kernel
theorem dX5_tells_269 : decode cX5_tells 269 = .ok (.iload_n 3, 1) := by decide +kernel
theorem dX5_tells_270 : decode cX5_tells 270 = .ok (.iconst 3, 1) := by decide +kernel
theorem dX5_tells_271 : decode cX5_tells 271 = .ok (.if_icmp .eq 8, 3) := by decide +kernel
theorem dX5_tells_274 : decode cX5_tells 274 = .ok (.iload_n 3, 1) := by decide +kernel
theorem dX5_tells_275 : decode cX5_tells 275 = .ok (.iconst 5, 1) := by decide +kernel
theorem dX5_tells_276 : decode cX5_tells 276 = .ok (.if_icmp .ne 8, 3) := by decide +kernel
theorem dX5_tells_279 : decode cX5_tells 279 = .ok (.iload 8, 2) := by decide +kernel
theorem dX5_tells_281 : decode cX5_tells 281 = .ok (.goto 21, 3) := by decide +kernel
theorem dX5_tells_284 : decode cX5_tells 284 = .ok (.iload_n 3, 1) := by decide +kernel
theorem dX5_tells_285 : decode cX5_tells 285 = .ok (.iconst 4, 1) := by decide +kernel
theorem dX5_tells_286 : decode cX5_tells 286 = .ok (.if_icmp .eq 9, 3) := by decide +kernel
theorem dX5_tells_289 : decode cX5_tells 289 = .ok (.iload_n 3, 1) := by decide +kernel
theorem dX5_tells_290 : decode cX5_tells 290 = .ok (.bipush 6, 2) := by decide +kernel
theorem dX5_tells_292 : decode cX5_tells 292 = .ok (.if_icmp .ne 8, 3) := by decide +kernel
theorem dX5_tells_295 : decode cX5_tells 295 = .ok (.iload 9, 2) := by decide +kernel
theorem dX5_tells_297 : decode cX5_tells 297 = .ok (.goto 5, 3) := by decide +kernel
theorem dX5_tells_300 : decode cX5_tells 300 = .ok (.iload 7, 2) := by decide +kernel
theorem dX5_tells_302 : decode cX5_tells 302 = .ok (.ireturn, 1) := by decide +kernel
theorem dX5_film_0 : decode cX5_film 0 = .ok (.iload_n 1, 1) := by decide +kernel
theorem dX5_film_1 : decode cX5_film 1 = .ok (.invokestatic 336, 3) := by decide +kernel
theorem dX5_film_4 : decode cX5_film 4 = .ok (.ifCond .eq 15, 3) := by decide +kernel
theorem dX5_film_7 : decode cX5_film 7 = .ok (.iload_n 2, 1) := by decide +kernel
theorem dX5_film_8 : decode cX5_film 8 = .ok (.i2l, 1) := by decide +kernel
theorem dX5_film_9 : decode cX5_film 9 = .ok (.lconst 0, 1) := by decide +kernel
theorem dX5_film_10 : decode cX5_film 10 = .ok (.ldc2_w 315, 3) := by decide +kernel
theorem dX5_film_13 : decode cX5_film 13 = .ok (.invokestatic 76, 3) := by decide +kernel
theorem dX5_film_16 : decode cX5_film 16 = .ok (.ifCond .ne 6, 3) := by decide +kernel
theorem dX5_film_19 : decode cX5_film 19 = .ok (.bipush (-2), 2) := by decide +kernel
theorem dX5_film_21 : decode cX5_film 21 = .ok (.ireturn, 1) := by decide +kernel
theorem dX5_film_22 : decode cX5_film 22 = .ok (.aload_n 0, 1) := by decide +kernel
theorem dX5_film_23 : decode cX5_film 23 = .ok (.iload_n 1, 1) := by decide +kernel
theorem dX5_film_24 : decode cX5_film 24 = .ok (.iconst 0, 1) := by decide +kernel
theorem dX5_film_25 : decode cX5_film 25 = .ok (.iload_n 2, 1) := by decide +kernel
theorem dX5_film_26 : decode cX5_film 26 = .ok (.invokevirtual 344, 3) := by decide +kernel
theorem dX5_film_29 : decode cX5_film 29 = .ok (.pop, 1) := by decide +kernel
theorem dX5_film_30 : decode cX5_film 30 = .ok (.aload_n 0, 1) := by decide +kernel
theorem dX5_film_31 : decode cX5_film 31 = .ok (.invokevirtual 288, 3) := by decide +kernel
theorem dX5_film_34 : decode cX5_film 34 = .ok (.iconst 0, 1) := by decide +kernel
theorem dX5_film_35 : decode cX5_film 35 = .ok (.istore_n 3, 1) := by decide +kernel
theorem dX5_film_36 : decode cX5_film 36 = .ok (.iload_n 3, 1) := by decide +kernel
theorem dX5_film_37 : decode cX5_film 37 = .ok (.iload_n 2, 1) := by decide +kernel
theorem dX5_film_38 : decode cX5_film 38 = .ok (.if_icmp .ge 28, 3) := by decide +kernel
theorem dX5_film_41 : decode cX5_film 41 = .ok (.aload_n 0, 1) := by decide +kernel
theorem dX5_film_42 : decode cX5_film 42 = .ok (.invokevirtual 285, 3) := by decide +kernel
theorem dX5_film_45 : decode cX5_film 45 = .ok (.aload_n 0, 1) := by decide +kernel
theorem dX5_film_46 : decode cX5_film 46 = .ok (.getfield 63, 3) := by decide +kernel
theorem dX5_film_49 : decode cX5_film 49 = .ok (.bipush 40, 2) := by decide +kernel
theorem dX5_film_51 : decode cX5_film 51 = .ok (.iload_n 1, 1) := by decide +kernel
theorem dX5_film_52 : decode cX5_film 52 = .ok (.imul, 1) := by decide +kernel
theorem dX5_film_53 : decode cX5_film 53 = .ok (.iload_n 3, 1) := by decide +kernel
theorem dX5_film_54 : decode cX5_film 54 = .ok (.iadd, 1) := by decide +kernel
theorem dX5_film_55 : decode cX5_film 55 = .ok (.aload_n 0, 1) := by decide +kernel
theorem dX5_film_56 : decode cX5_film 56 = .ok (.getfield 110, 3) := by decide +kernel
theorem dX5_film_59 : decode cX5_film 59 = .ok (.iastore, 1) := by decide +kernel
theorem dX5_film_60 : decode cX5_film 60 = .ok (.iinc 3 1, 3) := by decide +kernel
theorem dX5_film_63 : decode cX5_film 63 = .ok (.goto (-27), 3) := by decide +kernel
theorem dX5_film_66 : decode cX5_film 66 = .ok (.aload_n 0, 1) := by decide +kernel
theorem dX5_film_67 : decode cX5_film 67 = .ok (.invokevirtual 294, 3) := by decide +kernel
theorem dX5_film_70 : decode cX5_film 70 = .ok (.iload_n 2, 1) := by decide +kernel
theorem dX5_film_71 : decode cX5_film 71 = .ok (.ireturn, 1) := by decide +kernel
theorem dX5_waterDrawn_0 : decode cX5_waterDrawn 0 = .ok (.aload_n 0, 1) := by decide +kernel
theorem dX5_waterDrawn_1 : decode cX5_waterDrawn 1 = .ok (.invokevirtual 288, 3) := by decide +kernel
theorem dX5_waterDrawn_4 : decode cX5_waterDrawn 4 = .ok (.iload_n 1, 1) := by decide +kernel
theorem dX5_waterDrawn_5 : decode cX5_waterDrawn 5 = .ok (.istore_n 3, 1) := by decide +kernel
theorem dX5_waterDrawn_6 : decode cX5_waterDrawn 6 = .ok (.iconst 0, 1) := by decide +kernel
theorem dX5_waterDrawn_7 : decode cX5_waterDrawn 7 = .ok (.istore 4, 2) := by decide +kernel
theorem dX5_waterDrawn_9 : decode cX5_waterDrawn 9 = .ok (.iload 4, 2) := by decide +kernel
theorem dX5_waterDrawn_11 : decode cX5_waterDrawn 11 = .ok (.iload_n 2, 1) := by decide +kernel
theorem dX5_waterDrawn_12 : decode cX5_waterDrawn 12 = .ok (.if_icmp .ge 34, 3) := by decide +kernel
theorem dX5_waterDrawn_15 : decode cX5_waterDrawn 15 = .ok (.iload_n 3, 1) := by decide +kernel
theorem dX5_waterDrawn_16 : decode cX5_waterDrawn 16 = .ok (.ldc_w 347, 3) := by decide +kernel
theorem dX5_waterDrawn_19 : decode cX5_waterDrawn 19 = .ok (.imul, 1) := by decide +kernel
theorem dX5_waterDrawn_20 : decode cX5_waterDrawn 20 = .ok (.sipush 12345, 3) := by decide +kernel
theorem dX5_waterDrawn_23 : decode cX5_waterDrawn 23 = .ok (.iadd, 1) := by decide +kernel
theorem dX5_waterDrawn_24 : decode cX5_waterDrawn 24 = .ok (.istore_n 3, 1) := by decide +kernel
theorem dX5_waterDrawn_25 : decode cX5_waterDrawn 25 = .ok (.aload_n 0, 1) := by decide +kernel
theorem dX5_waterDrawn_26 : decode cX5_waterDrawn 26 = .ok (.iload_n 3, 1) := by decide +kernel
theorem dX5_waterDrawn_27 : decode cX5_waterDrawn 27 = .ok (.bipush 9, 2) := by decide +kernel
theorem dX5_waterDrawn_29 : decode cX5_waterDrawn 29 = .ok (.iushr, 1) := by decide +kernel
theorem dX5_waterDrawn_30 : decode cX5_waterDrawn 30 = .ok (.bipush 100, 2) := by decide +kernel
theorem dX5_waterDrawn_32 : decode cX5_waterDrawn 32 = .ok (.irem, 1) := by decide +kernel
theorem dX5_waterDrawn_33 : decode cX5_waterDrawn 33 = .ok (.putfield 23, 3) := by decide +kernel
theorem dX5_waterDrawn_36 : decode cX5_waterDrawn 36 = .ok (.aload_n 0, 1) := by decide +kernel
theorem dX5_waterDrawn_37 : decode cX5_waterDrawn 37 = .ok (.invokevirtual 285, 3) := by decide +kernel
theorem dX5_waterDrawn_40 : decode cX5_waterDrawn 40 = .ok (.iinc 4 1, 3) := by decide +kernel
theorem dX5_waterDrawn_43 : decode cX5_waterDrawn 43 = .ok (.goto (-34), 3) := by decide +kernel
theorem dX5_waterDrawn_46 : decode cX5_waterDrawn 46 = .ok (.aload_n 0, 1) := by decide +kernel
theorem dX5_waterDrawn_47 : decode cX5_waterDrawn 47 = .ok (.getfield 110, 3) := by decide +kernel
theorem dX5_waterDrawn_50 : decode cX5_waterDrawn 50 = .ok (.istore 4, 2) := by decide +kernel
theorem dX5_waterDrawn_52 : decode cX5_waterDrawn 52 = .ok (.aload_n 0, 1) := by decide +kernel
theorem dX5_waterDrawn_53 : decode cX5_waterDrawn 53 = .ok (.invokevirtual 294, 3) := by decide +kernel
theorem dX5_waterDrawn_56 : decode cX5_waterDrawn 56 = .ok (.iload 4, 2) := by decide +kernel
theorem dX5_waterDrawn_58 : decode cX5_waterDrawn 58 = .ok (.ireturn, 1) := by decide +kernel
theorem dX5_drawn_0 : decode cX5_drawn 0 = .ok (.iload_n 2, 1) := by decide +kernel
theorem dX5_drawn_1 : decode cX5_drawn 1 = .ok (.i2l, 1) := by decide +kernel
theorem dX5_drawn_2 : decode cX5_drawn 2 = .ok (.lconst 0, 1) := by decide +kernel
theorem dX5_drawn_3 : decode cX5_drawn 3 = .ok (.ldc2_w 297, 3) := by decide +kernel
theorem dX5_drawn_6 : decode cX5_drawn 6 = .ok (.invokestatic 76, 3) := by decide +kernel
theorem dX5_drawn_9 : decode cX5_drawn 9 = .ok (.ifCond .eq 12, 3) := by decide +kernel
theorem dX5_drawn_12 : decode cX5_drawn 12 = .ok (.aload_n 0, 1) := by decide +kernel
theorem dX5_drawn_13 : decode cX5_drawn 13 = .ok (.iload_n 1, 1) := by decide +kernel
theorem dX5_drawn_14 : decode cX5_drawn 14 = .ok (.iload_n 2, 1) := by decide +kernel
theorem dX5_drawn_15 : decode cX5_drawn 15 = .ok (.invokevirtual 348, 3) := by decide +kernel
theorem dX5_drawn_18 : decode cX5_drawn 18 = .ok (.goto 5, 3) := by decide +kernel
theorem dX5_drawn_21 : decode cX5_drawn 21 = .ok (.bipush (-2), 2) := by decide +kernel
theorem dX5_drawn_23 : decode cX5_drawn 23 = .ok (.ireturn, 1) := by decide +kernel
theorem dX5_chance_0 : decode cX5_chance 0 = .ok (.iload_n 2, 1) := by decide +kernel
theorem dX5_chance_1 : decode cX5_chance 1 = .ok (.i2l, 1) := by decide +kernel
theorem dX5_chance_2 : decode cX5_chance 2 = .ok (.lconst 1, 1) := by decide +kernel
theorem dX5_chance_3 : decode cX5_chance 3 = .ok (.ldc2_w 315, 3) := by decide +kernel
theorem dX5_chance_6 : decode cX5_chance 6 = .ok (.invokestatic 76, 3) := by decide +kernel
theorem dX5_chance_9 : decode cX5_chance 9 = .ok (.ifCond .eq 13, 3) := by decide +kernel
theorem dX5_chance_12 : decode cX5_chance 12 = .ok (.iload_n 3, 1) := by decide +kernel
theorem dX5_chance_13 : decode cX5_chance 13 = .ok (.i2l, 1) := by decide +kernel
theorem dX5_chance_14 : decode cX5_chance 14 = .ok (.lconst 0, 1) := by decide +kernel
theorem dX5_chance_15 : decode cX5_chance 15 = .ok (.lconst 1, 1) := by decide +kernel
theorem dX5_chance_16 : decode cX5_chance 16 = .ok (.invokestatic 76, 3) := by decide +kernel
theorem dX5_chance_19 : decode cX5_chance 19 = .ok (.ifCond .ne 7, 3) := by decide +kernel
theorem dX5_chance_22 : decode cX5_chance 22 = .ok (.ldc2_w 331, 3) := by decide +kernel
theorem dX5_chance_25 : decode cX5_chance 25 = .ok (.lreturn, 1) := by decide +kernel
theorem dX5_chance_26 : decode cX5_chance 26 = .ok (.lconst 0, 1) := by decide +kernel
theorem dX5_chance_27 : decode cX5_chance 27 = .ok (.lstore 4, 2) := by decide +kernel
theorem dX5_chance_29 : decode cX5_chance 29 = .ok (.iconst 0, 1) := by decide +kernel
theorem dX5_chance_30 : decode cX5_chance 30 = .ok (.istore 6, 2) := by decide +kernel
theorem dX5_chance_32 : decode cX5_chance 32 = .ok (.iload 6, 2) := by decide +kernel
theorem dX5_chance_34 : decode cX5_chance 34 = .ok (.iload_n 2, 1) := by decide +kernel
theorem dX5_chance_35 : decode cX5_chance 35 = .ok (.if_icmp .ge 34, 3) := by decide +kernel
theorem dX5_chance_38 : decode cX5_chance 38 = .ok (.lload 4, 2) := by decide +kernel
theorem dX5_chance_40 : decode cX5_chance 40 = .ok (.aload_n 0, 1) := by decide +kernel
theorem dX5_chance_41 : decode cX5_chance 41 = .ok (.iload_n 1, 1) := by decide +kernel
theorem dX5_chance_42 : decode cX5_chance 42 = .ok (.iload 6, 2) := by decide +kernel
theorem dX5_chance_44 : decode cX5_chance 44 = .ok (.iadd, 1) := by decide +kernel
theorem dX5_chance_45 : decode cX5_chance 45 = .ok (.bipush 10, 2) := by decide +kernel
theorem dX5_chance_47 : decode cX5_chance 47 = .ok (.invokevirtual 348, 3) := by decide +kernel
theorem dX5_chance_50 : decode cX5_chance 50 = .ok (.bipush 100, 2) := by decide +kernel
theorem dX5_chance_52 : decode cX5_chance 52 = .ok (.if_icmp .ne 7, 3) := by decide +kernel
theorem dX5_chance_55 : decode cX5_chance 55 = .ok (.lconst 1, 1) := by decide +kernel
theorem dX5_chance_56 : decode cX5_chance 56 = .ok (.goto 4, 3) := by decide +kernel
theorem dX5_chance_59 : decode cX5_chance 59 = .ok (.lconst 0, 1) := by decide +kernel
theorem dX5_chance_60 : decode cX5_chance 60 = .ok (.ladd, 1) := by decide +kernel
theorem dX5_chance_61 : decode cX5_chance 61 = .ok (.lstore 4, 2) := by decide +kernel
theorem dX5_chance_63 : decode cX5_chance 63 = .ok (.iinc 6 1, 3) := by decide +kernel
theorem dX5_chance_66 : decode cX5_chance 66 = .ok (.goto (-34), 3) := by decide +kernel
theorem dX5_chance_69 : decode cX5_chance 69 = .ok (.lload 4, 2) := by decide +kernel
theorem dX5_chance_71 : decode cX5_chance 71 = .ok (.iload_n 2, 1) := by decide +kernel
theorem dX5_chance_72 : decode cX5_chance 72 = .ok (.i2l, 1) := by decide +kernel
theorem dX5_chance_73 : decode cX5_chance 73 = .ok (.iload_n 3, 1) := by decide +kernel
theorem dX5_chance_74 : decode cX5_chance 74 = .ok (.invokestatic 327, 3) := by decide +kernel
theorem dX5_chance_77 : decode cX5_chance 77 = .ok (.lreturn, 1) := by decide +kernel
theorem dX5_image_0 : decode cX5_image 0 = .ok (.iconst 0, 1) := by decide +kernel
theorem dX5_image_1 : decode cX5_image 1 = .ok (.istore_n 1, 1) := by decide +kernel
theorem dX5_image_2 : decode cX5_image 2 = .ok (.iload_n 1, 1) := by decide +kernel
theorem dX5_image_3 : decode cX5_image 3 = .ok (.bipush 20, 2) := by decide +kernel
theorem dX5_image_5 : decode cX5_image 5 = .ok (.if_icmp .ge 21, 3) := by decide +kernel
theorem dX5_image_8 : decode cX5_image 8 = .ok (.aload_n 0, 1) := by decide +kernel
theorem dX5_image_9 : decode cX5_image 9 = .ok (.getfield 41, 3) := by decide +kernel
theorem dX5_image_12 : decode cX5_image 12 = .ok (.iload_n 1, 1) := by decide +kernel
theorem dX5_image_13 : decode cX5_image 13 = .ok (.aload_n 0, 1) := by decide +kernel
theorem dX5_image_14 : decode cX5_image 14 = .ok (.getfield 32, 3) := by decide +kernel
theorem dX5_image_17 : decode cX5_image 17 = .ok (.iload_n 1, 1) := by decide +kernel
theorem dX5_image_18 : decode cX5_image 18 = .ok (.iaload, 1) := by decide +kernel
theorem dX5_image_19 : decode cX5_image 19 = .ok (.iastore, 1) := by decide +kernel
theorem dX5_image_20 : decode cX5_image 20 = .ok (.iinc 1 1, 3) := by decide +kernel
theorem dX5_image_23 : decode cX5_image 23 = .ok (.goto (-21), 3) := by decide +kernel
theorem dX5_image_26 : decode cX5_image 26 = .ok (.iconst 0, 1) := by decide +kernel
theorem dX5_image_27 : decode cX5_image 27 = .ok (.istore_n 1, 1) := by decide +kernel
theorem dX5_image_28 : decode cX5_image 28 = .ok (.iload_n 1, 1) := by decide +kernel
theorem dX5_image_29 : decode cX5_image 29 = .ok (.bipush 10, 2) := by decide +kernel
theorem dX5_image_31 : decode cX5_image 31 = .ok (.if_icmp .ge 33, 3) := by decide +kernel
theorem dX5_image_34 : decode cX5_image 34 = .ok (.aload_n 0, 1) := by decide +kernel
theorem dX5_image_35 : decode cX5_image 35 = .ok (.getfield 44, 3) := by decide +kernel
theorem dX5_image_38 : decode cX5_image 38 = .ok (.iload_n 1, 1) := by decide +kernel
theorem dX5_image_39 : decode cX5_image 39 = .ok (.aload_n 0, 1) := by decide +kernel
theorem dX5_image_40 : decode cX5_image 40 = .ok (.getfield 26, 3) := by decide +kernel
theorem dX5_image_43 : decode cX5_image 43 = .ok (.iload_n 1, 1) := by decide +kernel
theorem dX5_image_44 : decode cX5_image 44 = .ok (.iaload, 1) := by decide +kernel
theorem dX5_image_45 : decode cX5_image 45 = .ok (.iastore, 1) := by decide +kernel
theorem dX5_image_46 : decode cX5_image 46 = .ok (.aload_n 0, 1) := by decide +kernel
theorem dX5_image_47 : decode cX5_image 47 = .ok (.getfield 47, 3) := by decide +kernel
theorem dX5_image_50 : decode cX5_image 50 = .ok (.iload_n 1, 1) := by decide +kernel
theorem dX5_image_51 : decode cX5_image 51 = .ok (.aload_n 0, 1) := by decide +kernel
theorem dX5_image_52 : decode cX5_image 52 = .ok (.getfield 29, 3) := by decide +kernel
theorem dX5_image_55 : decode cX5_image 55 = .ok (.iload_n 1, 1) := by decide +kernel
theorem dX5_image_56 : decode cX5_image 56 = .ok (.iaload, 1) := by decide +kernel
theorem dX5_image_57 : decode cX5_image 57 = .ok (.iastore, 1) := by decide +kernel
theorem dX5_image_58 : decode cX5_image 58 = .ok (.iinc 1 1, 3) := by decide +kernel
theorem dX5_image_61 : decode cX5_image 61 = .ok (.goto (-33), 3) := by decide +kernel
theorem dX5_image_64 : decode cX5_image 64 = .ok (.aload_n 0, 1) := by decide +kernel
theorem dX5_image_65 : decode cX5_image 65 = .ok (.aload_n 0, 1) := by decide +kernel
theorem dX5_image_66 : decode cX5_image 66 = .ok (.getfield 73, 3) := by decide +kernel
theorem dX5_image_69 : decode cX5_image 69 = .ok (.putfield 50, 3) := by decide +kernel
theorem dX5_image_72 : decode cX5_image 72 = .ok (.aload_n 0, 1) := by decide +kernel
theorem dX5_image_73 : decode cX5_image 73 = .ok (.aload_n 0, 1) := by decide +kernel
theorem dX5_image_74 : decode cX5_image 74 = .ok (.getfield 107, 3) := by decide +kernel
theorem dX5_image_77 : decode cX5_image 77 = .ok (.putfield 351, 3) := by decide +kernel
theorem dX5_image_80 : decode cX5_image 80 = .ok (.aload_n 0, 1) := by decide +kernel
theorem dX5_image_81 : decode cX5_image 81 = .ok (.aload_n 0, 1) := by decide +kernel
theorem dX5_image_82 : decode cX5_image 82 = .ok (.getfield 23, 3) := by decide +kernel
theorem dX5_image_85 : decode cX5_image 85 = .ok (.putfield 354, 3) := by decide +kernel
theorem dX5_image_88 : decode cX5_image 88 = .ok (.aload_n 0, 1) := by decide +kernel
theorem dX5_image_89 : decode cX5_image 89 = .ok (.aload_n 0, 1) := by decide +kernel
theorem dX5_image_90 : decode cX5_image 90 = .ok (.getfield 110, 3) := by decide +kernel
theorem dX5_image_93 : decode cX5_image 93 = .ok (.putfield 357, 3) := by decide +kernel
theorem dX5_image_96 : decode cX5_image 96 = .ok (.aload_n 0, 1) := by decide +kernel
theorem dX5_image_97 : decode cX5_image 97 = .ok (.aload_n 0, 1) := by decide +kernel
theorem dX5_image_98 : decode cX5_image 98 = .ok (.getfield 113, 3) := by decide +kernel
theorem dX5_image_101 : decode cX5_image 101 = .ok (.putfield 360, 3) := by decide +kernel
theorem dX5_image_104 : decode cX5_image 104 = .ok (.aload_n 0, 1) := by decide +kernel
theorem dX5_image_105 : decode cX5_image 105 = .ok (.getfield 73, 3) := by decide +kernel
theorem dX5_image_108 : decode cX5_image 108 = .ok (.ireturn, 1) := by decide +kernel
theorem dX5_back_0 : decode cX5_back 0 = .ok (.aload_n 0, 1) := by decide +kernel
theorem dX5_back_1 : decode cX5_back 1 = .ok (.getfield 50, 3) := by decide +kernel
theorem dX5_back_4 : decode cX5_back 4 = .ok (.iconst (-1), 1) := by decide +kernel
theorem dX5_back_5 : decode cX5_back 5 = .ok (.if_icmp .ne 6, 3) := by decide +kernel
theorem dX5_back_8 : decode cX5_back 8 = .ok (.bipush (-3), 2) := by decide +kernel
theorem dX5_back_10 : decode cX5_back 10 = .ok (.ireturn, 1) := by decide +kernel
theorem dX5_back_11 : decode cX5_back 11 = .ok (.iconst 0, 1) := by decide +kernel
theorem dX5_back_12 : decode cX5_back 12 = .ok (.istore_n 1, 1) := by decide +kernel
theorem dX5_back_13 : decode cX5_back 13 = .ok (.iload_n 1, 1) := by decide +kernel
theorem dX5_back_14 : decode cX5_back 14 = .ok (.bipush 20, 2) := by decide +kernel
theorem dX5_back_16 : decode cX5_back 16 = .ok (.if_icmp .ge 21, 3) := by decide +kernel
theorem dX5_back_19 : decode cX5_back 19 = .ok (.aload_n 0, 1) := by decide +kernel
theorem dX5_back_20 : decode cX5_back 20 = .ok (.getfield 32, 3) := by decide +kernel
theorem dX5_back_23 : decode cX5_back 23 = .ok (.iload_n 1, 1) := by decide +kernel
theorem dX5_back_24 : decode cX5_back 24 = .ok (.aload_n 0, 1) := by decide +kernel
theorem dX5_back_25 : decode cX5_back 25 = .ok (.getfield 41, 3) := by decide +kernel
theorem dX5_back_28 : decode cX5_back 28 = .ok (.iload_n 1, 1) := by decide +kernel
theorem dX5_back_29 : decode cX5_back 29 = .ok (.iaload, 1) := by decide +kernel
theorem dX5_back_30 : decode cX5_back 30 = .ok (.iastore, 1) := by decide +kernel
theorem dX5_back_31 : decode cX5_back 31 = .ok (.iinc 1 1, 3) := by decide +kernel
theorem dX5_back_34 : decode cX5_back 34 = .ok (.goto (-21), 3) := by decide +kernel
theorem dX5_back_37 : decode cX5_back 37 = .ok (.iconst 0, 1) := by decide +kernel
theorem dX5_back_38 : decode cX5_back 38 = .ok (.istore_n 1, 1) := by decide +kernel
theorem dX5_back_39 : decode cX5_back 39 = .ok (.iload_n 1, 1) := by decide +kernel
theorem dX5_back_40 : decode cX5_back 40 = .ok (.bipush 10, 2) := by decide +kernel
theorem dX5_back_42 : decode cX5_back 42 = .ok (.if_icmp .ge 33, 3) := by decide +kernel
theorem dX5_back_45 : decode cX5_back 45 = .ok (.aload_n 0, 1) := by decide +kernel
theorem dX5_back_46 : decode cX5_back 46 = .ok (.getfield 26, 3) := by decide +kernel
theorem dX5_back_49 : decode cX5_back 49 = .ok (.iload_n 1, 1) := by decide +kernel
theorem dX5_back_50 : decode cX5_back 50 = .ok (.aload_n 0, 1) := by decide +kernel
theorem dX5_back_51 : decode cX5_back 51 = .ok (.getfield 44, 3) := by decide +kernel
theorem dX5_back_54 : decode cX5_back 54 = .ok (.iload_n 1, 1) := by decide +kernel
theorem dX5_back_55 : decode cX5_back 55 = .ok (.iaload, 1) := by decide +kernel
theorem dX5_back_56 : decode cX5_back 56 = .ok (.iastore, 1) := by decide +kernel
theorem dX5_back_57 : decode cX5_back 57 = .ok (.aload_n 0, 1) := by decide +kernel
theorem dX5_back_58 : decode cX5_back 58 = .ok (.getfield 29, 3) := by decide +kernel
theorem dX5_back_61 : decode cX5_back 61 = .ok (.iload_n 1, 1) := by decide +kernel
theorem dX5_back_62 : decode cX5_back 62 = .ok (.aload_n 0, 1) := by decide +kernel
theorem dX5_back_63 : decode cX5_back 63 = .ok (.getfield 47, 3) := by decide +kernel
theorem dX5_back_66 : decode cX5_back 66 = .ok (.iload_n 1, 1) := by decide +kernel
theorem dX5_back_67 : decode cX5_back 67 = .ok (.iaload, 1) := by decide +kernel
theorem dX5_back_68 : decode cX5_back 68 = .ok (.iastore, 1) := by decide +kernel
theorem dX5_back_69 : decode cX5_back 69 = .ok (.iinc 1 1, 3) := by decide +kernel
theorem dX5_back_72 : decode cX5_back 72 = .ok (.goto (-33), 3) := by decide +kernel
theorem dX5_back_75 : decode cX5_back 75 = .ok (.aload_n 0, 1) := by decide +kernel
theorem dX5_back_76 : decode cX5_back 76 = .ok (.aload_n 0, 1) := by decide +kernel
theorem dX5_back_77 : decode cX5_back 77 = .ok (.getfield 50, 3) := by decide +kernel
theorem dX5_back_80 : decode cX5_back 80 = .ok (.putfield 73, 3) := by decide +kernel
theorem dX5_back_83 : decode cX5_back 83 = .ok (.aload_n 0, 1) := by decide +kernel
theorem dX5_back_84 : decode cX5_back 84 = .ok (.aload_n 0, 1) := by decide +kernel
theorem dX5_back_85 : decode cX5_back 85 = .ok (.getfield 351, 3) := by decide +kernel
theorem dX5_back_88 : decode cX5_back 88 = .ok (.putfield 107, 3) := by decide +kernel
theorem dX5_back_91 : decode cX5_back 91 = .ok (.aload_n 0, 1) := by decide +kernel
theorem dX5_back_92 : decode cX5_back 92 = .ok (.aload_n 0, 1) := by decide +kernel
theorem dX5_back_93 : decode cX5_back 93 = .ok (.getfield 354, 3) := by decide +kernel
theorem dX5_back_96 : decode cX5_back 96 = .ok (.putfield 23, 3) := by decide +kernel
theorem dX5_back_99 : decode cX5_back 99 = .ok (.aload_n 0, 1) := by decide +kernel
theorem dX5_back_100 : decode cX5_back 100 = .ok (.aload_n 0, 1) := by decide +kernel
theorem dX5_back_101 : decode cX5_back 101 = .ok (.getfield 357, 3) := by decide +kernel
theorem dX5_back_104 : decode cX5_back 104 = .ok (.putfield 110, 3) := by decide +kernel
theorem dX5_back_107 : decode cX5_back 107 = .ok (.aload_n 0, 1) := by decide +kernel
theorem dX5_back_108 : decode cX5_back 108 = .ok (.aload_n 0, 1) := by decide +kernel
theorem dX5_back_109 : decode cX5_back 109 = .ok (.getfield 360, 3) := by decide +kernel
theorem dX5_back_112 : decode cX5_back 112 = .ok (.putfield 113, 3) := by decide +kernel
theorem dX5_back_115 : decode cX5_back 115 = .ok (.aload_n 0, 1) := by decide +kernel
theorem dX5_back_116 : decode cX5_back 116 = .ok (.getfield 73, 3) := by decide +kernel
theorem dX5_back_119 : decode cX5_back 119 = .ok (.ireturn, 1) := by decide +kernel
theorem dX5_madeMany_0 : decode cX5_madeMany 0 = .ok (.iconst 0, 1) := by decide +kernel
theorem dX5_madeMany_1 : decode cX5_madeMany 1 = .ok (.istore_n 1, 1) := by decide +kernel
theorem dX5_madeMany_2 : decode cX5_madeMany 2 = .ok (.iconst 0, 1) := by decide +kernel
theorem dX5_madeMany_3 : decode cX5_madeMany 3 = .ok (.istore_n 2, 1) := by decide +kernel
theorem dX5_madeMany_4 : decode cX5_madeMany 4 = .ok (.iload_n 2, 1) := by decide +kernel
theorem dX5_madeMany_5 : decode cX5_madeMany 5 = .ok (.bipush 10, 2) := by decide +kernel
theorem dX5_madeMany_7 : decode cX5_madeMany 7 = .ok (.if_icmp .ge 27, 3) := by decide +kernel
theorem dX5_madeMany_10 : decode cX5_madeMany 10 = .ok (.iload_n 1, 1) := by decide +kernel
theorem dX5_madeMany_11 : decode cX5_madeMany 11 = .ok (.aload_n 0, 1) := by decide +kernel
theorem dX5_madeMany_12 : decode cX5_madeMany 12 = .ok (.getfield 26, 3) := by decide +kernel
theorem dX5_madeMany_15 : decode cX5_madeMany 15 = .ok (.iload_n 2, 1) := by decide +kernel
theorem dX5_madeMany_16 : decode cX5_madeMany 16 = .ok (.iaload, 1) := by decide +kernel
theorem dX5_madeMany_17 : decode cX5_madeMany 17 = .ok (.iconst (-1), 1) := by decide +kernel
theorem dX5_madeMany_18 : decode cX5_madeMany 18 = .ok (.if_icmp .ne 7, 3) := by decide +kernel
theorem dX5_madeMany_21 : decode cX5_madeMany 21 = .ok (.iconst 0, 1) := by decide +kernel
theorem dX5_madeMany_22 : decode cX5_madeMany 22 = .ok (.goto 4, 3) := by decide +kernel
theorem dX5_madeMany_25 : decode cX5_madeMany 25 = .ok (.iconst 1, 1) := by decide +kernel
theorem dX5_madeMany_26 : decode cX5_madeMany 26 = .ok (.iadd, 1) := by decide +kernel
theorem dX5_madeMany_27 : decode cX5_madeMany 27 = .ok (.istore_n 1, 1) := by decide +kernel
theorem dX5_madeMany_28 : decode cX5_madeMany 28 = .ok (.iinc 2 1, 3) := by decide +kernel
theorem dX5_madeMany_31 : decode cX5_madeMany 31 = .ok (.goto (-27), 3) := by decide +kernel
theorem dX5_madeMany_34 : decode cX5_madeMany 34 = .ok (.iload_n 1, 1) := by decide +kernel
theorem dX5_madeMany_35 : decode cX5_madeMany 35 = .ok (.ireturn, 1) := by decide +kernel
theorem dX5_count_0 : decode cX5_count 0 = .ok (.iload_n 1, 1) := by decide +kernel
theorem dX5_count_1 : decode cX5_count 1 = .ok (.i2l, 1) := by decide +kernel
theorem dX5_count_2 : decode cX5_count 2 = .ok (.lconst 0, 1) := by decide +kernel
theorem dX5_count_3 : decode cX5_count 3 = .ok (.ldc2_w 89, 3) := by decide +kernel
theorem dX5_count_6 : decode cX5_count 6 = .ok (.invokestatic 76, 3) := by decide +kernel
theorem dX5_count_9 : decode cX5_count 9 = .ok (.ifCond .ne 6, 3) := by decide +kernel
theorem dX5_count_12 : decode cX5_count 12 = .ok (.bipush (-2), 2) := by decide +kernel
theorem dX5_count_14 : decode cX5_count 14 = .ok (.ireturn, 1) := by decide +kernel
theorem dX5_count_15 : decode cX5_count 15 = .ok (.iload_n 1, 1) := by decide +kernel
theorem dX5_count_16 : decode cX5_count 16 = .ok (.ifCond .ne 10, 3) := by decide +kernel
theorem dX5_count_19 : decode cX5_count 19 = .ok (.aload_n 0, 1) := by decide +kernel
theorem dX5_count_20 : decode cX5_count 20 = .ok (.getfield 73, 3) := by decide +kernel
theorem dX5_count_23 : decode cX5_count 23 = .ok (.goto 59, 3) := by decide +kernel
theorem dX5_count_26 : decode cX5_count 26 = .ok (.iload_n 1, 1) := by decide +kernel
theorem dX5_count_27 : decode cX5_count 27 = .ok (.iconst 1, 1) := by decide +kernel
theorem dX5_count_28 : decode cX5_count 28 = .ok (.if_icmp .ne 10, 3) := by decide +kernel
theorem dX5_count_31 : decode cX5_count 31 = .ok (.aload_n 0, 1) := by decide +kernel
theorem dX5_count_32 : decode cX5_count 32 = .ok (.invokevirtual 363, 3) := by decide +kernel
theorem dX5_count_35 : decode cX5_count 35 = .ok (.goto 47, 3) := by decide +kernel
theorem dX5_count_38 : decode cX5_count 38 = .ok (.iload_n 1, 1) := by decide +kernel
theorem dX5_count_39 : decode cX5_count 39 = .ok (.iconst 2, 1) := by decide +kernel
theorem dX5_count_40 : decode cX5_count 40 = .ok (.if_icmp .ne 14, 3) := by decide +kernel
theorem dX5_count_43 : decode cX5_count 43 = .ok (.aload_n 0, 1) := by decide +kernel
theorem dX5_count_44 : decode cX5_count 44 = .ok (.iconst 1, 1) := by decide +kernel
theorem dX5_count_45 : decode cX5_count 45 = .ok (.invokevirtual 263, 3) := by decide +kernel
theorem dX5_count_48 : decode cX5_count 48 = .ok (.invokestatic 260, 3) := by decide +kernel
theorem dX5_count_51 : decode cX5_count 51 = .ok (.goto 31, 3) := by decide +kernel
theorem dX5_count_54 : decode cX5_count 54 = .ok (.iload_n 1, 1) := by decide +kernel
theorem dX5_count_55 : decode cX5_count 55 = .ok (.iconst 3, 1) := by decide +kernel
theorem dX5_count_56 : decode cX5_count 56 = .ok (.if_icmp .ne 10, 3) := by decide +kernel
theorem dX5_count_59 : decode cX5_count 59 = .ok (.aload_n 0, 1) := by decide +kernel
theorem dX5_count_60 : decode cX5_count 60 = .ok (.getfield 70, 3) := by decide +kernel
theorem dX5_count_63 : decode cX5_count 63 = .ok (.goto 19, 3) := by decide +kernel
theorem dX5_count_66 : decode cX5_count 66 = .ok (.iload_n 1, 1) := by decide +kernel
theorem dX5_count_67 : decode cX5_count 67 = .ok (.iconst 4, 1) := by decide +kernel
theorem dX5_count_68 : decode cX5_count 68 = .ok (.if_icmp .ne 10, 3) := by decide +kernel
theorem dX5_count_71 : decode cX5_count 71 = .ok (.aload_n 0, 1) := by decide +kernel
theorem dX5_count_72 : decode cX5_count 72 = .ok (.getfield 134, 3) := by decide +kernel
theorem dX5_count_75 : decode cX5_count 75 = .ok (.goto 7, 3) := by decide +kernel
theorem dX5_count_78 : decode cX5_count 78 = .ok (.aload_n 0, 1) := by decide +kernel
theorem dX5_count_79 : decode cX5_count 79 = .ok (.getfield 113, 3) := by decide +kernel
theorem dX5_count_82 : decode cX5_count 82 = .ok (.ireturn, 1) := by decide +kernel
theorem dX5_isSheet_0 : decode cX5_isSheet 0 = .ok (.iload_n 0, 1) := by decide +kernel
theorem dX5_isSheet_1 : decode cX5_isSheet 1 = .ok (.i2l, 1) := by decide +kernel
theorem dX5_isSheet_2 : decode cX5_isSheet 2 = .ok (.lconst 0, 1) := by decide +kernel
theorem dX5_isSheet_3 : decode cX5_isSheet 3 = .ok (.ldc2_w 366, 3) := by decide +kernel
theorem dX5_isSheet_6 : decode cX5_isSheet 6 = .ok (.invokestatic 76, 3) := by decide +kernel
theorem dX5_isSheet_9 : decode cX5_isSheet 9 = .ok (.ireturn, 1) := by decide +kernel
theorem dX5_sheet_0 : decode cX5_sheet 0 = .ok (.iload_n 1, 1) := by decide +kernel
theorem dX5_sheet_1 : decode cX5_sheet 1 = .ok (.invokestatic 336, 3) := by decide +kernel
theorem dX5_sheet_4 : decode cX5_sheet 4 = .ok (.ifCond .eq 27, 3) := by decide +kernel
theorem dX5_sheet_7 : decode cX5_sheet 7 = .ok (.iload_n 2, 1) := by decide +kernel
theorem dX5_sheet_8 : decode cX5_sheet 8 = .ok (.i2l, 1) := by decide +kernel
theorem dX5_sheet_9 : decode cX5_sheet 9 = .ok (.ldc2_w 368, 3) := by decide +kernel
theorem dX5_sheet_12 : decode cX5_sheet 12 = .ok (.ldc2_w 299, 3) := by decide +kernel
theorem dX5_sheet_15 : decode cX5_sheet 15 = .ok (.invokestatic 76, 3) := by decide +kernel
theorem dX5_sheet_18 : decode cX5_sheet 18 = .ok (.ifCond .eq 13, 3) := by decide +kernel
theorem dX5_sheet_21 : decode cX5_sheet 21 = .ok (.iload_n 2, 1) := by decide +kernel
theorem dX5_sheet_22 : decode cX5_sheet 22 = .ok (.ifCond .lt 12, 3) := by decide +kernel
theorem dX5_sheet_25 : decode cX5_sheet 25 = .ok (.iload_n 3, 1) := by decide +kernel
theorem dX5_sheet_26 : decode cX5_sheet 26 = .ok (.bipush 40, 2) := by decide +kernel
theorem dX5_sheet_28 : decode cX5_sheet 28 = .ok (.if_icmp .le 6, 3) := by decide +kernel
theorem dX5_sheet_31 : decode cX5_sheet 31 = .ok (.bipush (-2), 2) := by decide +kernel
theorem dX5_sheet_33 : decode cX5_sheet 33 = .ok (.ireturn, 1) := by decide +kernel
theorem dX5_sheet_34 : decode cX5_sheet 34 = .ok (.iload_n 2, 1) := by decide +kernel
theorem dX5_sheet_35 : decode cX5_sheet 35 = .ok (.ifCond .lt 10, 3) := by decide +kernel
theorem dX5_sheet_38 : decode cX5_sheet 38 = .ok (.iload_n 3, 1) := by decide +kernel
theorem dX5_sheet_39 : decode cX5_sheet 39 = .ok (.ifCond .ge 6, 3) := by decide +kernel
theorem dX5_sheet_42 : decode cX5_sheet 42 = .ok (.bipush (-14), 2) := by decide +kernel
theorem dX5_sheet_44 : decode cX5_sheet 44 = .ok (.ireturn, 1) := by decide +kernel
theorem dX5_sheet_45 : decode cX5_sheet 45 = .ok (.aload_n 0, 1) := by decide +kernel
theorem dX5_sheet_46 : decode cX5_sheet 46 = .ok (.getfield 53, 3) := by decide +kernel
theorem dX5_sheet_49 : decode cX5_sheet 49 = .ok (.iload_n 1, 1) := by decide +kernel
theorem dX5_sheet_50 : decode cX5_sheet 50 = .ok (.iload_n 2, 1) := by decide +kernel
theorem dX5_sheet_51 : decode cX5_sheet 51 = .ok (.ifCond .lt 7, 3) := by decide +kernel
theorem dX5_sheet_54 : decode cX5_sheet 54 = .ok (.iconst 1, 1) := by decide +kernel
theorem dX5_sheet_55 : decode cX5_sheet 55 = .ok (.goto 4, 3) := by decide +kernel
theorem dX5_sheet_58 : decode cX5_sheet 58 = .ok (.iconst 0, 1) := by decide +kernel
theorem dX5_sheet_59 : decode cX5_sheet 59 = .ok (.bastore, 1) := by decide +kernel
theorem dX5_sheet_60 : decode cX5_sheet 60 = .ok (.aload_n 0, 1) := by decide +kernel
theorem dX5_sheet_61 : decode cX5_sheet 61 = .ok (.getfield 57, 3) := by decide +kernel
theorem dX5_sheet_64 : decode cX5_sheet 64 = .ok (.iload_n 1, 1) := by decide +kernel
theorem dX5_sheet_65 : decode cX5_sheet 65 = .ok (.iload_n 2, 1) := by decide +kernel
theorem dX5_sheet_66 : decode cX5_sheet 66 = .ok (.iastore, 1) := by decide +kernel
theorem dX5_sheet_67 : decode cX5_sheet 67 = .ok (.aload_n 0, 1) := by decide +kernel
theorem dX5_sheet_68 : decode cX5_sheet 68 = .ok (.getfield 60, 3) := by decide +kernel
theorem dX5_sheet_71 : decode cX5_sheet 71 = .ok (.iload_n 1, 1) := by decide +kernel
theorem dX5_sheet_72 : decode cX5_sheet 72 = .ok (.iload_n 3, 1) := by decide +kernel
theorem dX5_sheet_73 : decode cX5_sheet 73 = .ok (.iastore, 1) := by decide +kernel
theorem dX5_sheet_74 : decode cX5_sheet 74 = .ok (.iconst 0, 1) := by decide +kernel
theorem dX5_sheet_75 : decode cX5_sheet 75 = .ok (.istore 4, 2) := by decide +kernel
theorem dX5_sheet_77 : decode cX5_sheet 77 = .ok (.iload 4, 2) := by decide +kernel
theorem dX5_sheet_79 : decode cX5_sheet 79 = .ok (.iload_n 3, 1) := by decide +kernel
theorem dX5_sheet_80 : decode cX5_sheet 80 = .ok (.if_icmp .ge 26, 3) := by decide +kernel
theorem dX5_sheet_83 : decode cX5_sheet 83 = .ok (.iload_n 2, 1) := by decide +kernel
theorem dX5_sheet_84 : decode cX5_sheet 84 = .ok (.ifCond .lt 22, 3) := by decide +kernel
theorem dX5_sheet_87 : decode cX5_sheet 87 = .ok (.aload_n 0, 1) := by decide +kernel
theorem dX5_sheet_88 : decode cX5_sheet 88 = .ok (.getfield 63, 3) := by decide +kernel
theorem dX5_sheet_91 : decode cX5_sheet 91 = .ok (.bipush 40, 2) := by decide +kernel
theorem dX5_sheet_93 : decode cX5_sheet 93 = .ok (.iload_n 1, 1) := by decide +kernel
theorem dX5_sheet_94 : decode cX5_sheet 94 = .ok (.imul, 1) := by decide +kernel
theorem dX5_sheet_95 : decode cX5_sheet 95 = .ok (.iload 4, 2) := by decide +kernel
theorem dX5_sheet_97 : decode cX5_sheet 97 = .ok (.iadd, 1) := by decide +kernel
theorem dX5_sheet_98 : decode cX5_sheet 98 = .ok (.iconst 0, 1) := by decide +kernel
theorem dX5_sheet_99 : decode cX5_sheet 99 = .ok (.iastore, 1) := by decide +kernel
theorem dX5_sheet_100 : decode cX5_sheet 100 = .ok (.iinc 4 1, 3) := by decide +kernel
theorem dX5_sheet_103 : decode cX5_sheet 103 = .ok (.goto (-26), 3) := by decide +kernel
theorem dX5_sheet_106 : decode cX5_sheet 106 = .ok (.iconst 1, 1) := by decide +kernel
theorem dX5_sheet_107 : decode cX5_sheet 107 = .ok (.ireturn, 1) := by decide +kernel
theorem dX5_cell_0 : decode cX5_cell 0 = .ok (.iload_n 1, 1) := by decide +kernel
theorem dX5_cell_1 : decode cX5_cell 1 = .ok (.invokestatic 336, 3) := by decide +kernel
theorem dX5_cell_4 : decode cX5_cell 4 = .ok (.ifCond .ne 6, 3) := by decide +kernel
theorem dX5_cell_7 : decode cX5_cell 7 = .ok (.bipush (-2), 2) := by decide +kernel
theorem dX5_cell_9 : decode cX5_cell 9 = .ok (.ireturn, 1) := by decide +kernel
theorem dX5_cell_10 : decode cX5_cell 10 = .ok (.aload_n 0, 1) := by decide +kernel
theorem dX5_cell_11 : decode cX5_cell 11 = .ok (.getfield 53, 3) := by decide +kernel
theorem dX5_cell_14 : decode cX5_cell 14 = .ok (.iload_n 1, 1) := by decide +kernel
theorem dX5_cell_15 : decode cX5_cell 15 = .ok (.baload, 1) := by decide +kernel
theorem dX5_cell_16 : decode cX5_cell 16 = .ok (.ifCond .ne 6, 3) := by decide +kernel
theorem dX5_cell_19 : decode cX5_cell 19 = .ok (.bipush (-11), 2) := by decide +kernel
theorem dX5_cell_21 : decode cX5_cell 21 = .ok (.ireturn, 1) := by decide +kernel
theorem dX5_cell_22 : decode cX5_cell 22 = .ok (.iload_n 2, 1) := by decide +kernel
theorem dX5_cell_23 : decode cX5_cell 23 = .ok (.i2l, 1) := by decide +kernel
theorem dX5_cell_24 : decode cX5_cell 24 = .ok (.lconst 0, 1) := by decide +kernel
theorem dX5_cell_25 : decode cX5_cell 25 = .ok (.aload_n 0, 1) := by decide +kernel
theorem dX5_cell_26 : decode cX5_cell 26 = .ok (.getfield 60, 3) := by decide +kernel
theorem dX5_cell_29 : decode cX5_cell 29 = .ok (.iload_n 1, 1) := by decide +kernel
theorem dX5_cell_30 : decode cX5_cell 30 = .ok (.iaload, 1) := by decide +kernel
theorem dX5_cell_31 : decode cX5_cell 31 = .ok (.iconst 1, 1) := by decide +kernel
theorem dX5_cell_32 : decode cX5_cell 32 = .ok (.isub, 1) := by decide +kernel
theorem dX5_cell_33 : decode cX5_cell 33 = .ok (.i2l, 1) := by decide +kernel
theorem dX5_cell_34 : decode cX5_cell 34 = .ok (.invokestatic 76, 3) := by decide +kernel
theorem dX5_cell_37 : decode cX5_cell 37 = .ok (.ifCond .ne 6, 3) := by decide +kernel
theorem dX5_cell_40 : decode cX5_cell 40 = .ok (.bipush (-12), 2) := by decide +kernel
theorem dX5_cell_42 : decode cX5_cell 42 = .ok (.ireturn, 1) := by decide +kernel
theorem dX5_cell_43 : decode cX5_cell 43 = .ok (.aload_n 0, 1) := by decide +kernel
theorem dX5_cell_44 : decode cX5_cell 44 = .ok (.getfield 63, 3) := by decide +kernel
theorem dX5_cell_47 : decode cX5_cell 47 = .ok (.bipush 40, 2) := by decide +kernel
theorem dX5_cell_49 : decode cX5_cell 49 = .ok (.iload_n 1, 1) := by decide +kernel
theorem dX5_cell_50 : decode cX5_cell 50 = .ok (.imul, 1) := by decide +kernel
theorem dX5_cell_51 : decode cX5_cell 51 = .ok (.iload_n 2, 1) := by decide +kernel
theorem dX5_cell_52 : decode cX5_cell 52 = .ok (.iadd, 1) := by decide +kernel
theorem dX5_cell_53 : decode cX5_cell 53 = .ok (.aload_n 0, 1) := by decide +kernel
theorem dX5_cell_54 : decode cX5_cell 54 = .ok (.getfield 57, 3) := by decide +kernel
theorem dX5_cell_57 : decode cX5_cell 57 = .ok (.iload_n 1, 1) := by decide +kernel
theorem dX5_cell_58 : decode cX5_cell 58 = .ok (.iaload, 1) := by decide +kernel
theorem dX5_cell_59 : decode cX5_cell 59 = .ok (.ifCond .ne 8, 3) := by decide +kernel
theorem dX5_cell_62 : decode cX5_cell 62 = .ok (.iload_n 3, 1) := by decide +kernel
theorem dX5_cell_63 : decode cX5_cell 63 = .ok (.i2b, 1) := by decide +kernel
theorem dX5_cell_64 : decode cX5_cell 64 = .ok (.goto 19, 3) := by decide +kernel
theorem dX5_cell_67 : decode cX5_cell 67 = .ok (.aload_n 0, 1) := by decide +kernel
theorem dX5_cell_68 : decode cX5_cell 68 = .ok (.getfield 57, 3) := by decide +kernel
theorem dX5_cell_71 : decode cX5_cell 71 = .ok (.iload_n 1, 1) := by decide +kernel
theorem dX5_cell_72 : decode cX5_cell 72 = .ok (.iaload, 1) := by decide +kernel
theorem dX5_cell_73 : decode cX5_cell 73 = .ok (.iconst 1, 1) := by decide +kernel
theorem dX5_cell_74 : decode cX5_cell 74 = .ok (.if_icmp .ne 8, 3) := by decide +kernel
theorem dX5_cell_77 : decode cX5_cell 77 = .ok (.iload_n 3, 1) := by decide +kernel
theorem dX5_cell_78 : decode cX5_cell 78 = .ok (.i2s, 1) := by decide +kernel
theorem dX5_cell_79 : decode cX5_cell 79 = .ok (.goto 4, 3) := by decide +kernel
theorem dX5_cell_82 : decode cX5_cell 82 = .ok (.iload_n 3, 1) := by decide +kernel
theorem dX5_cell_83 : decode cX5_cell 83 = .ok (.iastore, 1) := by decide +kernel
theorem dX5_cell_84 : decode cX5_cell 84 = .ok (.iconst 1, 1) := by decide +kernel
theorem dX5_cell_85 : decode cX5_cell 85 = .ok (.ireturn, 1) := by decide +kernel
theorem dX5_copy_0 : decode cX5_copy 0 = .ok (.iload_n 1, 1) := by decide +kernel
theorem dX5_copy_1 : decode cX5_copy 1 = .ok (.invokestatic 336, 3) := by decide +kernel
theorem dX5_copy_4 : decode cX5_copy 4 = .ok (.ifCond .eq 10, 3) := by decide +kernel
theorem dX5_copy_7 : decode cX5_copy 7 = .ok (.iload_n 3, 1) := by decide +kernel
theorem dX5_copy_8 : decode cX5_copy 8 = .ok (.invokestatic 336, 3) := by decide +kernel
theorem dX5_copy_11 : decode cX5_copy 11 = .ok (.ifCond .ne 6, 3) := by decide +kernel
theorem dX5_copy_14 : decode cX5_copy 14 = .ok (.bipush (-2), 2) := by decide +kernel
theorem dX5_copy_16 : decode cX5_copy 16 = .ok (.ireturn, 1) := by decide +kernel
theorem dX5_copy_17 : decode cX5_copy 17 = .ok (.aload_n 0, 1) := by decide +kernel
theorem dX5_copy_18 : decode cX5_copy 18 = .ok (.getfield 53, 3) := by decide +kernel
theorem dX5_copy_21 : decode cX5_copy 21 = .ok (.iload_n 1, 1) := by decide +kernel
theorem dX5_copy_22 : decode cX5_copy 22 = .ok (.baload, 1) := by decide +kernel
theorem dX5_copy_23 : decode cX5_copy 23 = .ok (.ifCond .eq 12, 3) := by decide +kernel
theorem dX5_copy_26 : decode cX5_copy 26 = .ok (.aload_n 0, 1) := by decide +kernel
theorem dX5_copy_27 : decode cX5_copy 27 = .ok (.getfield 53, 3) := by decide +kernel
theorem dX5_copy_30 : decode cX5_copy 30 = .ok (.iload_n 3, 1) := by decide +kernel
theorem dX5_copy_31 : decode cX5_copy 31 = .ok (.baload, 1) := by decide +kernel
theorem dX5_copy_32 : decode cX5_copy 32 = .ok (.ifCond .ne 6, 3) := by decide +kernel
theorem dX5_copy_35 : decode cX5_copy 35 = .ok (.bipush (-11), 2) := by decide +kernel
theorem dX5_copy_37 : decode cX5_copy 37 = .ok (.ireturn, 1) := by decide +kernel
theorem dX5_copy_38 : decode cX5_copy 38 = .ok (.aload_n 0, 1) := by decide +kernel
theorem dX5_copy_39 : decode cX5_copy 39 = .ok (.getfield 57, 3) := by decide +kernel
theorem dX5_copy_42 : decode cX5_copy 42 = .ok (.iload_n 1, 1) := by decide +kernel
theorem dX5_copy_43 : decode cX5_copy 43 = .ok (.iaload, 1) := by decide +kernel
theorem dX5_copy_44 : decode cX5_copy 44 = .ok (.aload_n 0, 1) := by decide +kernel
theorem dX5_copy_45 : decode cX5_copy 45 = .ok (.getfield 57, 3) := by decide +kernel
theorem dX5_copy_48 : decode cX5_copy 48 = .ok (.iload_n 3, 1) := by decide +kernel
theorem dX5_copy_49 : decode cX5_copy 49 = .ok (.iaload, 1) := by decide +kernel
theorem dX5_copy_50 : decode cX5_copy 50 = .ok (.if_icmp .eq 6, 3) := by decide +kernel
theorem dX5_copy_53 : decode cX5_copy 53 = .ok (.bipush (-13), 2) := by decide +kernel
theorem dX5_copy_55 : decode cX5_copy 55 = .ok (.ireturn, 1) := by decide +kernel
theorem dX5_copy_56 : decode cX5_copy 56 = .ok (.iload 5, 2) := by decide +kernel
theorem dX5_copy_58 : decode cX5_copy 58 = .ok (.ifCond .lt 39, 3) := by decide +kernel
theorem dX5_copy_61 : decode cX5_copy 61 = .ok (.iload_n 2, 1) := by decide +kernel
theorem dX5_copy_62 : decode cX5_copy 62 = .ok (.ifCond .lt 35, 3) := by decide +kernel
theorem dX5_copy_65 : decode cX5_copy 65 = .ok (.iload 4, 2) := by decide +kernel
theorem dX5_copy_67 : decode cX5_copy 67 = .ok (.ifCond .lt 30, 3) := by decide +kernel
theorem dX5_copy_70 : decode cX5_copy 70 = .ok (.iload_n 2, 1) := by decide +kernel
theorem dX5_copy_71 : decode cX5_copy 71 = .ok (.aload_n 0, 1) := by decide +kernel
theorem dX5_copy_72 : decode cX5_copy 72 = .ok (.getfield 60, 3) := by decide +kernel
theorem dX5_copy_75 : decode cX5_copy 75 = .ok (.iload_n 1, 1) := by decide +kernel
theorem dX5_copy_76 : decode cX5_copy 76 = .ok (.iaload, 1) := by decide +kernel
theorem dX5_copy_77 : decode cX5_copy 77 = .ok (.iload 5, 2) := by decide +kernel
theorem dX5_copy_79 : decode cX5_copy 79 = .ok (.isub, 1) := by decide +kernel
theorem dX5_copy_80 : decode cX5_copy 80 = .ok (.if_icmp .gt 17, 3) := by decide +kernel
theorem dX5_copy_83 : decode cX5_copy 83 = .ok (.iload 4, 2) := by decide +kernel
theorem dX5_copy_85 : decode cX5_copy 85 = .ok (.aload_n 0, 1) := by decide +kernel
theorem dX5_copy_86 : decode cX5_copy 86 = .ok (.getfield 60, 3) := by decide +kernel
theorem dX5_copy_89 : decode cX5_copy 89 = .ok (.iload_n 3, 1) := by decide +kernel
theorem dX5_copy_90 : decode cX5_copy 90 = .ok (.iaload, 1) := by decide +kernel
theorem dX5_copy_91 : decode cX5_copy 91 = .ok (.iload 5, 2) := by decide +kernel
theorem dX5_copy_93 : decode cX5_copy 93 = .ok (.isub, 1) := by decide +kernel
theorem dX5_copy_94 : decode cX5_copy 94 = .ok (.if_icmp .le 6, 3) := by decide +kernel
theorem dX5_copy_97 : decode cX5_copy 97 = .ok (.bipush (-12), 2) := by decide +kernel
theorem dX5_copy_99 : decode cX5_copy 99 = .ok (.ireturn, 1) := by decide +kernel
theorem dX5_copy_100 : decode cX5_copy 100 = .ok (.iload_n 1, 1) := by decide +kernel
theorem dX5_copy_101 : decode cX5_copy 101 = .ok (.iload_n 3, 1) := by decide +kernel
theorem dX5_copy_102 : decode cX5_copy 102 = .ok (.if_icmp .ne 13, 3) := by decide +kernel
theorem dX5_copy_105 : decode cX5_copy 105 = .ok (.iload_n 2, 1) := by decide +kernel
theorem dX5_copy_106 : decode cX5_copy 106 = .ok (.iload 4, 2) := by decide +kernel
theorem dX5_copy_108 : decode cX5_copy 108 = .ok (.if_icmp .ge 7, 3) := by decide +kernel
theorem dX5_copy_111 : decode cX5_copy 111 = .ok (.iconst 1, 1) := by decide +kernel
theorem dX5_copy_112 : decode cX5_copy 112 = .ok (.goto 4, 3) := by decide +kernel
theorem dX5_copy_115 : decode cX5_copy 115 = .ok (.iconst 0, 1) := by decide +kernel
theorem dX5_copy_116 : decode cX5_copy 116 = .ok (.istore 6, 2) := by decide +kernel
theorem dX5_copy_118 : decode cX5_copy 118 = .ok (.iconst 0, 1) := by decide +kernel
theorem dX5_copy_119 : decode cX5_copy 119 = .ok (.istore 7, 2) := by decide +kernel
theorem dX5_copy_121 : decode cX5_copy 121 = .ok (.iload 7, 2) := by decide +kernel
theorem dX5_copy_123 : decode cX5_copy 123 = .ok (.iload 5, 2) := by decide +kernel
theorem dX5_copy_125 : decode cX5_copy 125 = .ok (.if_icmp .ge 57, 3) := by decide +kernel
theorem dX5_copy_128 : decode cX5_copy 128 = .ok (.iload 6, 2) := by decide +kernel
theorem dX5_copy_130 : decode cX5_copy 130 = .ok (.ifCond .eq 13, 3) := by decide +kernel
theorem dX5_copy_133 : decode cX5_copy 133 = .ok (.iload 5, 2) := by decide +kernel
theorem dX5_copy_135 : decode cX5_copy 135 = .ok (.iconst 1, 1) := by decide +kernel
theorem dX5_copy_136 : decode cX5_copy 136 = .ok (.isub, 1) := by decide +kernel
theorem dX5_copy_137 : decode cX5_copy 137 = .ok (.iload 7, 2) := by decide +kernel
theorem dX5_copy_139 : decode cX5_copy 139 = .ok (.isub, 1) := by decide +kernel
theorem dX5_copy_140 : decode cX5_copy 140 = .ok (.goto 5, 3) := by decide +kernel
theorem dX5_copy_143 : decode cX5_copy 143 = .ok (.iload 7, 2) := by decide +kernel
theorem dX5_copy_145 : decode cX5_copy 145 = .ok (.istore 8, 2) := by decide +kernel
theorem dX5_copy_147 : decode cX5_copy 147 = .ok (.aload_n 0, 1) := by decide +kernel
theorem dX5_copy_148 : decode cX5_copy 148 = .ok (.getfield 63, 3) := by decide +kernel
theorem dX5_copy_151 : decode cX5_copy 151 = .ok (.bipush 40, 2) := by decide +kernel
theorem dX5_copy_153 : decode cX5_copy 153 = .ok (.iload_n 3, 1) := by decide +kernel
theorem dX5_copy_154 : decode cX5_copy 154 = .ok (.imul, 1) := by decide +kernel
theorem dX5_copy_155 : decode cX5_copy 155 = .ok (.iload 4, 2) := by decide +kernel
theorem dX5_copy_157 : decode cX5_copy 157 = .ok (.iadd, 1) := by decide +kernel
theorem dX5_copy_158 : decode cX5_copy 158 = .ok (.iload 8, 2) := by decide +kernel
theorem dX5_copy_160 : decode cX5_copy 160 = .ok (.iadd, 1) := by decide +kernel
theorem dX5_copy_161 : decode cX5_copy 161 = .ok (.aload_n 0, 1) := by decide +kernel
theorem dX5_copy_162 : decode cX5_copy 162 = .ok (.getfield 63, 3) := by decide +kernel
theorem dX5_copy_165 : decode cX5_copy 165 = .ok (.bipush 40, 2) := by decide +kernel
theorem dX5_copy_167 : decode cX5_copy 167 = .ok (.iload_n 1, 1) := by decide +kernel
theorem dX5_copy_168 : decode cX5_copy 168 = .ok (.imul, 1) := by decide +kernel
theorem dX5_copy_169 : decode cX5_copy 169 = .ok (.iload_n 2, 1) := by decide +kernel
theorem dX5_copy_170 : decode cX5_copy 170 = .ok (.iadd, 1) := by decide +kernel
theorem dX5_copy_171 : decode cX5_copy 171 = .ok (.iload 8, 2) := by decide +kernel
theorem dX5_copy_173 : decode cX5_copy 173 = .ok (.iadd, 1) := by decide +kernel
theorem dX5_copy_174 : decode cX5_copy 174 = .ok (.iaload, 1) := by decide +kernel
theorem dX5_copy_175 : decode cX5_copy 175 = .ok (.iastore, 1) := by decide +kernel
theorem dX5_copy_176 : decode cX5_copy 176 = .ok (.iinc 7 1, 3) := by decide +kernel
theorem dX5_copy_179 : decode cX5_copy 179 = .ok (.goto (-58), 3) := by decide +kernel
theorem dX5_copy_182 : decode cX5_copy 182 = .ok (.iload 5, 2) := by decide +kernel
theorem dX5_copy_184 : decode cX5_copy 184 = .ok (.ireturn, 1) := by decide +kernel
theorem dX5_gang_0 : decode cX5_gang 0 = .ok (.iload_n 1, 1) := by decide +kernel
theorem dX5_gang_1 : decode cX5_gang 1 = .ok (.invokestatic 336, 3) := by decide +kernel
theorem dX5_gang_4 : decode cX5_gang 4 = .ok (.ifCond .eq 28, 3) := by decide +kernel
theorem dX5_gang_7 : decode cX5_gang 7 = .ok (.iload_n 2, 1) := by decide +kernel
theorem dX5_gang_8 : decode cX5_gang 8 = .ok (.i2l, 1) := by decide +kernel
theorem dX5_gang_9 : decode cX5_gang 9 = .ok (.lconst 0, 1) := by decide +kernel
theorem dX5_gang_10 : decode cX5_gang 10 = .ok (.ldc2_w 299, 3) := by decide +kernel
theorem dX5_gang_13 : decode cX5_gang 13 = .ok (.invokestatic 76, 3) := by decide +kernel
theorem dX5_gang_16 : decode cX5_gang 16 = .ok (.ifCond .eq 16, 3) := by decide +kernel
theorem dX5_gang_19 : decode cX5_gang 19 = .ok (.iload 4, 2) := by decide +kernel
theorem dX5_gang_21 : decode cX5_gang 21 = .ok (.i2l, 1) := by decide +kernel
theorem dX5_gang_22 : decode cX5_gang 22 = .ok (.lconst 0, 1) := by decide +kernel
theorem dX5_gang_23 : decode cX5_gang 23 = .ok (.ldc2_w 89, 3) := by decide +kernel
theorem dX5_gang_26 : decode cX5_gang 26 = .ok (.invokestatic 76, 3) := by decide +kernel
theorem dX5_gang_29 : decode cX5_gang 29 = .ok (.ifCond .ne 6, 3) := by decide +kernel
theorem dX5_gang_32 : decode cX5_gang 32 = .ok (.bipush (-2), 2) := by decide +kernel
theorem dX5_gang_34 : decode cX5_gang 34 = .ok (.ireturn, 1) := by decide +kernel
theorem dX5_gang_35 : decode cX5_gang 35 = .ok (.aload_n 0, 1) := by decide +kernel
theorem dX5_gang_36 : decode cX5_gang 36 = .ok (.getfield 53, 3) := by decide +kernel
theorem dX5_gang_39 : decode cX5_gang 39 = .ok (.iload_n 1, 1) := by decide +kernel
theorem dX5_gang_40 : decode cX5_gang 40 = .ok (.baload, 1) := by decide +kernel
theorem dX5_gang_41 : decode cX5_gang 41 = .ok (.ifCond .eq 16, 3) := by decide +kernel
theorem dX5_gang_44 : decode cX5_gang 44 = .ok (.aload_n 0, 1) := by decide +kernel
theorem dX5_gang_45 : decode cX5_gang 45 = .ok (.getfield 57, 3) := by decide +kernel
theorem dX5_gang_48 : decode cX5_gang 48 = .ok (.iload_n 1, 1) := by decide +kernel
theorem dX5_gang_49 : decode cX5_gang 49 = .ok (.iaload, 1) := by decide +kernel
theorem dX5_gang_50 : decode cX5_gang 50 = .ok (.iload_n 2, 1) := by decide +kernel
theorem dX5_gang_51 : decode cX5_gang 51 = .ok (.if_icmp .eq 6, 3) := by decide +kernel
theorem dX5_gang_54 : decode cX5_gang 54 = .ok (.bipush (-13), 2) := by decide +kernel
theorem dX5_gang_56 : decode cX5_gang 56 = .ok (.ireturn, 1) := by decide +kernel
theorem dX5_gang_57 : decode cX5_gang 57 = .ok (.aload_n 0, 1) := by decide +kernel
theorem dX5_gang_58 : decode cX5_gang 58 = .ok (.getfield 53, 3) := by decide +kernel
theorem dX5_gang_61 : decode cX5_gang 61 = .ok (.iload_n 1, 1) := by decide +kernel
theorem dX5_gang_62 : decode cX5_gang 62 = .ok (.baload, 1) := by decide +kernel
theorem dX5_gang_63 : decode cX5_gang 63 = .ok (.ifCond .ne 6, 3) := by decide +kernel
theorem dX5_gang_66 : decode cX5_gang 66 = .ok (.bipush (-11), 2) := by decide +kernel
theorem dX5_gang_68 : decode cX5_gang 68 = .ok (.ireturn, 1) := by decide +kernel
theorem dX5_gang_69 : decode cX5_gang 69 = .ok (.iconst 0, 1) := by decide +kernel
theorem dX5_gang_70 : decode cX5_gang 70 = .ok (.istore 5, 2) := by decide +kernel
theorem dX5_gang_72 : decode cX5_gang 72 = .ok (.iconst 0, 1) := by decide +kernel
theorem dX5_gang_73 : decode cX5_gang 73 = .ok (.istore 6, 2) := by decide +kernel
theorem dX5_gang_75 : decode cX5_gang 75 = .ok (.iload 6, 2) := by decide +kernel
theorem dX5_gang_77 : decode cX5_gang 77 = .ok (.iload 4, 2) := by decide +kernel
theorem dX5_gang_79 : decode cX5_gang 79 = .ok (.if_icmp .ge 88, 3) := by decide +kernel
theorem dX5_gang_82 : decode cX5_gang 82 = .ok (.iload_n 3, 1) := by decide +kernel
theorem dX5_gang_83 : decode cX5_gang 83 = .ok (.ifCond .lt 20, 3) := by decide +kernel
theorem dX5_gang_86 : decode cX5_gang 86 = .ok (.iload_n 3, 1) := by decide +kernel
theorem dX5_gang_87 : decode cX5_gang 87 = .ok (.aload_n 0, 1) := by decide +kernel
theorem dX5_gang_88 : decode cX5_gang 88 = .ok (.getfield 60, 3) := by decide +kernel
theorem dX5_gang_91 : decode cX5_gang 91 = .ok (.iload_n 1, 1) := by decide +kernel
theorem dX5_gang_92 : decode cX5_gang 92 = .ok (.iaload, 1) := by decide +kernel
theorem dX5_gang_93 : decode cX5_gang 93 = .ok (.iconst 3, 1) := by decide +kernel
theorem dX5_gang_94 : decode cX5_gang 94 = .ok (.iload 6, 2) := by decide +kernel
theorem dX5_gang_96 : decode cX5_gang 96 = .ok (.imul, 1) := by decide +kernel
theorem dX5_gang_97 : decode cX5_gang 97 = .ok (.isub, 1) := by decide +kernel
theorem dX5_gang_98 : decode cX5_gang 98 = .ok (.iconst 3, 1) := by decide +kernel
theorem dX5_gang_99 : decode cX5_gang 99 = .ok (.isub, 1) := by decide +kernel
theorem dX5_gang_100 : decode cX5_gang 100 = .ok (.if_icmp .le 6, 3) := by decide +kernel
theorem dX5_gang_103 : decode cX5_gang 103 = .ok (.bipush (-12), 2) := by decide +kernel
theorem dX5_gang_105 : decode cX5_gang 105 = .ok (.ireturn, 1) := by decide +kernel
theorem dX5_gang_106 : decode cX5_gang 106 = .ok (.bipush 40, 2) := by decide +kernel
theorem dX5_gang_108 : decode cX5_gang 108 = .ok (.iload_n 1, 1) := by decide +kernel
theorem dX5_gang_109 : decode cX5_gang 109 = .ok (.imul, 1) := by decide +kernel
theorem dX5_gang_110 : decode cX5_gang 110 = .ok (.iload_n 3, 1) := by decide +kernel
theorem dX5_gang_111 : decode cX5_gang 111 = .ok (.iadd, 1) := by decide +kernel
theorem dX5_gang_112 : decode cX5_gang 112 = .ok (.iconst 3, 1) := by decide +kernel
theorem dX5_gang_113 : decode cX5_gang 113 = .ok (.iload 6, 2) := by decide +kernel
theorem dX5_gang_115 : decode cX5_gang 115 = .ok (.imul, 1) := by decide +kernel
theorem dX5_gang_116 : decode cX5_gang 116 = .ok (.iadd, 1) := by decide +kernel
theorem dX5_gang_117 : decode cX5_gang 117 = .ok (.istore 7, 2) := by decide +kernel
theorem dX5_gang_119 : decode cX5_gang 119 = .ok (.iload 5, 2) := by decide +kernel
theorem dX5_gang_121 : decode cX5_gang 121 = .ok (.aload_n 0, 1) := by decide +kernel
theorem dX5_gang_122 : decode cX5_gang 122 = .ok (.aload_n 0, 1) := by decide +kernel
theorem dX5_gang_123 : decode cX5_gang 123 = .ok (.getfield 63, 3) := by decide +kernel
theorem dX5_gang_126 : decode cX5_gang 126 = .ok (.iload 7, 2) := by decide +kernel
theorem dX5_gang_128 : decode cX5_gang 128 = .ok (.iaload, 1) := by decide +kernel
theorem dX5_gang_129 : decode cX5_gang 129 = .ok (.aload_n 0, 1) := by decide +kernel
theorem dX5_gang_130 : decode cX5_gang 130 = .ok (.getfield 63, 3) := by decide +kernel
theorem dX5_gang_133 : decode cX5_gang 133 = .ok (.iload 7, 2) := by decide +kernel
theorem dX5_gang_135 : decode cX5_gang 135 = .ok (.iconst 1, 1) := by decide +kernel
theorem dX5_gang_136 : decode cX5_gang 136 = .ok (.iadd, 1) := by decide +kernel
theorem dX5_gang_137 : decode cX5_gang 137 = .ok (.iaload, 1) := by decide +kernel
theorem dX5_gang_138 : decode cX5_gang 138 = .ok (.aload_n 0, 1) := by decide +kernel
theorem dX5_gang_139 : decode cX5_gang 139 = .ok (.getfield 63, 3) := by decide +kernel
theorem dX5_gang_142 : decode cX5_gang 142 = .ok (.iload 7, 2) := by decide +kernel
theorem dX5_gang_144 : decode cX5_gang 144 = .ok (.iconst 2, 1) := by decide +kernel
theorem dX5_gang_145 : decode cX5_gang 145 = .ok (.iadd, 1) := by decide +kernel
theorem dX5_gang_146 : decode cX5_gang 146 = .ok (.iaload, 1) := by decide +kernel
theorem dX5_gang_147 : decode cX5_gang 147 = .ok (.invokevirtual 370, 3) := by decide +kernel
theorem dX5_gang_150 : decode cX5_gang 150 = .ok (.ifCond .lt 7, 3) := by decide +kernel
theorem dX5_gang_153 : decode cX5_gang 153 = .ok (.iconst 1, 1) := by decide +kernel
theorem dX5_gang_154 : decode cX5_gang 154 = .ok (.goto 4, 3) := by decide +kernel
theorem dX5_gang_157 : decode cX5_gang 157 = .ok (.iconst 0, 1) := by decide +kernel
theorem dX5_gang_158 : decode cX5_gang 158 = .ok (.iadd, 1) := by decide +kernel
theorem dX5_gang_159 : decode cX5_gang 159 = .ok (.istore 5, 2) := by decide +kernel
theorem dX5_gang_161 : decode cX5_gang 161 = .ok (.iinc 6 1, 3) := by decide +kernel
theorem dX5_gang_164 : decode cX5_gang 164 = .ok (.goto (-89), 3) := by decide +kernel
theorem dX5_gang_167 : decode cX5_gang 167 = .ok (.iload 5, 2) := by decide +kernel
theorem dX5_gang_169 : decode cX5_gang 169 = .ok (.ireturn, 1) := by decide +kernel
theorem dX5_over_0 : decode cX5_over 0 = .ok (.iload_n 0, 1) := by decide +kernel
theorem dX5_over_1 : decode cX5_over 1 = .ok (.ifCond .ne 7, 3) := by decide +kernel
theorem dX5_over_4 : decode cX5_over 4 = .ok (.iconst (-1), 1) := by decide +kernel
theorem dX5_over_5 : decode cX5_over 5 = .ok (.goto 22, 3) := by decide +kernel
theorem dX5_over_8 : decode cX5_over 8 = .ok (.iload_n 0, 1) := by decide +kernel
theorem dX5_over_9 : decode cX5_over 9 = .ok (.iconst 3, 1) := by decide +kernel
theorem dX5_over_10 : decode cX5_over 10 = .ok (.if_icmp .ne 7, 3) := by decide +kernel
theorem dX5_over_13 : decode cX5_over 13 = .ok (.iconst 1, 1) := by decide +kernel
theorem dX5_over_14 : decode cX5_over 14 = .ok (.goto 13, 3) := by decide +kernel
theorem dX5_over_17 : decode cX5_over 17 = .ok (.iload_n 0, 1) := by decide +kernel
theorem dX5_over_18 : decode cX5_over 18 = .ok (.iconst 4, 1) := by decide +kernel
theorem dX5_over_19 : decode cX5_over 19 = .ok (.if_icmp .ne 7, 3) := by decide +kernel
theorem dX5_over_22 : decode cX5_over 22 = .ok (.iconst 2, 1) := by decide +kernel
theorem dX5_over_23 : decode cX5_over 23 = .ok (.goto 4, 3) := by decide +kernel
theorem dX5_over_26 : decode cX5_over 26 = .ok (.iconst 0, 1) := by decide +kernel
theorem dX5_over_27 : decode cX5_over 27 = .ok (.ireturn, 1) := by decide +kernel
theorem dX5_taken_0 : decode cX5_taken 0 = .ok (.iload_n 2, 1) := by decide +kernel
theorem dX5_taken_1 : decode cX5_taken 1 = .ok (.i2l, 1) := by decide +kernel
theorem dX5_taken_2 : decode cX5_taken 2 = .ok (.lconst 0, 1) := by decide +kernel
theorem dX5_taken_3 : decode cX5_taken 3 = .ok (.ldc2_w 89, 3) := by decide +kernel
theorem dX5_taken_6 : decode cX5_taken 6 = .ok (.invokestatic 76, 3) := by decide +kernel
theorem dX5_taken_9 : decode cX5_taken 9 = .ok (.ifCond .ne 6, 3) := by decide +kernel
theorem dX5_taken_12 : decode cX5_taken 12 = .ok (.bipush (-2), 2) := by decide +kernel
theorem dX5_taken_14 : decode cX5_taken 14 = .ok (.ireturn, 1) := by decide +kernel
theorem dX5_taken_15 : decode cX5_taken 15 = .ok (.aload_n 0, 1) := by decide +kernel
theorem dX5_taken_16 : decode cX5_taken 16 = .ok (.iload_n 1, 1) := by decide +kernel
theorem dX5_taken_17 : decode cX5_taken 17 = .ok (.invokevirtual 86, 3) := by decide +kernel
theorem dX5_taken_20 : decode cX5_taken 20 = .ok (.ifCond .ne 6, 3) := by decide +kernel
theorem dX5_taken_23 : decode cX5_taken 23 = .ok (.bipush (-11), 2) := by decide +kernel
theorem dX5_taken_25 : decode cX5_taken 25 = .ok (.ireturn, 1) := by decide +kernel
theorem dX5_taken_26 : decode cX5_taken 26 = .ok (.aload_n 0, 1) := by decide +kernel
theorem dX5_taken_27 : decode cX5_taken 27 = .ok (.getfield 32, 3) := by decide +kernel
theorem dX5_taken_30 : decode cX5_taken 30 = .ok (.iconst 4, 1) := by decide +kernel
theorem dX5_taken_31 : decode cX5_taken 31 = .ok (.iload_n 1, 1) := by decide +kernel
theorem dX5_taken_32 : decode cX5_taken 32 = .ok (.imul, 1) := by decide +kernel
theorem dX5_taken_33 : decode cX5_taken 33 = .ok (.iconst 2, 1) := by decide +kernel
theorem dX5_taken_34 : decode cX5_taken 34 = .ok (.iadd, 1) := by decide +kernel
theorem dX5_taken_35 : decode cX5_taken 35 = .ok (.iaload, 1) := by decide +kernel
theorem dX5_taken_36 : decode cX5_taken 36 = .ok (.istore_n 3, 1) := by decide +kernel
theorem dX5_taken_37 : decode cX5_taken 37 = .ok (.iload_n 3, 1) := by decide +kernel
theorem dX5_taken_38 : decode cX5_taken 38 = .ok (.iconst (-1), 1) := by decide +kernel
theorem dX5_taken_39 : decode cX5_taken 39 = .ok (.if_icmp .eq 16, 3) := by decide +kernel
theorem dX5_taken_42 : decode cX5_taken 42 = .ok (.iload_n 3, 1) := by decide +kernel
theorem dX5_taken_43 : decode cX5_taken 43 = .ok (.iload_n 2, 1) := by decide +kernel
theorem dX5_taken_44 : decode cX5_taken 44 = .ok (.if_icmp .eq 11, 3) := by decide +kernel
theorem dX5_taken_47 : decode cX5_taken 47 = .ok (.iload_n 3, 1) := by decide +kernel
theorem dX5_taken_48 : decode cX5_taken 48 = .ok (.invokestatic 373, 3) := by decide +kernel
theorem dX5_taken_51 : decode cX5_taken 51 = .ok (.istore_n 3, 1) := by decide +kernel
theorem dX5_taken_52 : decode cX5_taken 52 = .ok (.goto (-15), 3) := by decide +kernel
theorem dX5_taken_55 : decode cX5_taken 55 = .ok (.iload_n 3, 1) := by decide +kernel
theorem dX5_taken_56 : decode cX5_taken 56 = .ok (.iload_n 2, 1) := by decide +kernel
theorem dX5_taken_57 : decode cX5_taken 57 = .ok (.if_icmp .ne 14, 3) := by decide +kernel
theorem dX5_taken_60 : decode cX5_taken 60 = .ok (.aload_n 0, 1) := by decide +kernel
theorem dX5_taken_61 : decode cX5_taken 61 = .ok (.getfield 32, 3) := by decide +kernel
theorem dX5_taken_64 : decode cX5_taken 64 = .ok (.iconst 4, 1) := by decide +kernel
theorem dX5_taken_65 : decode cX5_taken 65 = .ok (.iload_n 1, 1) := by decide +kernel
theorem dX5_taken_66 : decode cX5_taken 66 = .ok (.imul, 1) := by decide +kernel
theorem dX5_taken_67 : decode cX5_taken 67 = .ok (.iaload, 1) := by decide +kernel
theorem dX5_taken_68 : decode cX5_taken 68 = .ok (.goto 5, 3) := by decide +kernel
theorem dX5_taken_71 : decode cX5_taken 71 = .ok (.bipush (-13), 2) := by decide +kernel
theorem dX5_taken_73 : decode cX5_taken 73 = .ok (.ireturn, 1) := by decide +kernel
theorem dL_law_0 : decode cL_law 0 = .ok (.new 7, 3) := by decide +kernel
theorem dL_law_3 : decode cL_law 3 = .ok (.dup, 1) := by decide +kernel
theorem dL_law_4 : decode cL_law 4 = .ok (.invokespecial 9, 3) := by decide +kernel
theorem dL_law_7 : decode cL_law 7 = .ok (.astore_n 1, 1) := by decide +kernel
theorem dL_law_8 : decode cL_law 8 = .ok (.new 10, 3) := by decide +kernel
theorem dL_law_11 : decode cL_law 11 = .ok (.dup, 1) := by decide +kernel
theorem dL_law_12 : decode cL_law 12 = .ok (.invokespecial 12, 3) := by decide +kernel
theorem dL_law_15 : decode cL_law 15 = .ok (.astore_n 2, 1) := by decide +kernel
theorem dL_law_16 : decode cL_law 16 = .ok (.iconst 0, 1) := by decide +kernel
theorem dL_law_17 : decode cL_law 17 = .ok (.istore_n 3, 1) := by decide +kernel
theorem dL_law_18 : decode cL_law 18 = .ok (.iload_n 3, 1) := by decide +kernel
theorem dL_law_19 : decode cL_law 19 = .ok (.aload_n 0, 1) := by decide +kernel
theorem dL_law_20 : decode cL_law 20 = .ok (.arraylength, 1) := by decide +kernel
theorem dL_law_21 : decode cL_law 21 = .ok (.bipush 6, 2) := by decide +kernel
theorem dL_law_23 : decode cL_law 23 = .ok (.isub, 1) := by decide +kernel
theorem dL_law_24 : decode cL_law 24 = .ok (.if_icmp .gt 1052, 3) := by decide +kernel
theorem dL_law_27 : decode cL_law 27 = .ok (.aload_n 0, 1) := by decide +kernel
theorem dL_law_28 : decode cL_law 28 = .ok (.iload_n 3, 1) := by decide +kernel
theorem dL_law_29 : decode cL_law 29 = .ok (.iaload, 1) := by decide +kernel
theorem dL_law_30 : decode cL_law 30 = .ok (.bipush 31, 2) := by decide +kernel
theorem dL_law_32 : decode cL_law 32 = .ok (.iand, 1) := by decide +kernel
theorem dL_law_33 : decode cL_law 33 = .ok (.tableswitch 1037 0 29 #[135, 178, 221, 254, 297, 320, 333, 356, 389, 402, 415, 428, 461, 474, 507, 530, 563, 576, 600, 643, 676, 709, 753, 766, 779, 802, 845, 888, 951, 1004], 135) := by decide +kernel
theorem dL_law_168 : decode cL_law 168 = .ok (.aload_n 1, 1) := by decide +kernel
theorem dL_law_169 : decode cL_law 169 = .ok (.aload_n 0, 1) := by decide +kernel
theorem dL_law_170 : decode cL_law 170 = .ok (.iload_n 3, 1) := by decide +kernel
theorem dL_law_171 : decode cL_law 171 = .ok (.iconst 1, 1) := by decide +kernel
theorem dL_law_172 : decode cL_law 172 = .ok (.iadd, 1) := by decide +kernel
theorem dL_law_173 : decode cL_law 173 = .ok (.iaload, 1) := by decide +kernel
theorem dL_law_174 : decode cL_law 174 = .ok (.aload_n 0, 1) := by decide +kernel
theorem dL_law_175 : decode cL_law 175 = .ok (.iload_n 3, 1) := by decide +kernel
theorem dL_law_176 : decode cL_law 176 = .ok (.iconst 2, 1) := by decide +kernel
theorem dL_law_177 : decode cL_law 177 = .ok (.iadd, 1) := by decide +kernel
theorem dL_law_178 : decode cL_law 178 = .ok (.iaload, 1) := by decide +kernel
theorem dL_law_179 : decode cL_law 179 = .ok (.aload_n 0, 1) := by decide +kernel
theorem dL_law_180 : decode cL_law 180 = .ok (.iload_n 3, 1) := by decide +kernel
theorem dL_law_181 : decode cL_law 181 = .ok (.iconst 3, 1) := by decide +kernel
theorem dL_law_182 : decode cL_law 182 = .ok (.iadd, 1) := by decide +kernel
theorem dL_law_183 : decode cL_law 183 = .ok (.iaload, 1) := by decide +kernel
theorem dL_law_184 : decode cL_law 184 = .ok (.invokevirtual 13, 3) := by decide +kernel
theorem dL_law_187 : decode cL_law 187 = .ok (.aload_n 2, 1) := by decide +kernel
theorem dL_law_188 : decode cL_law 188 = .ok (.aload_n 0, 1) := by decide +kernel
theorem dL_law_189 : decode cL_law 189 = .ok (.iload_n 3, 1) := by decide +kernel
theorem dL_law_190 : decode cL_law 190 = .ok (.iconst 1, 1) := by decide +kernel
theorem dL_law_191 : decode cL_law 191 = .ok (.iadd, 1) := by decide +kernel
theorem dL_law_192 : decode cL_law 192 = .ok (.iaload, 1) := by decide +kernel
theorem dL_law_193 : decode cL_law 193 = .ok (.aload_n 0, 1) := by decide +kernel
theorem dL_law_194 : decode cL_law 194 = .ok (.iload_n 3, 1) := by decide +kernel
theorem dL_law_195 : decode cL_law 195 = .ok (.iconst 2, 1) := by decide +kernel
theorem dL_law_196 : decode cL_law 196 = .ok (.iadd, 1) := by decide +kernel
theorem dL_law_197 : decode cL_law 197 = .ok (.iaload, 1) := by decide +kernel
theorem dL_law_198 : decode cL_law 198 = .ok (.aload_n 0, 1) := by decide +kernel
theorem dL_law_199 : decode cL_law 199 = .ok (.iload_n 3, 1) := by decide +kernel
theorem dL_law_200 : decode cL_law 200 = .ok (.iconst 3, 1) := by decide +kernel
theorem dL_law_201 : decode cL_law 201 = .ok (.iadd, 1) := by decide +kernel
theorem dL_law_202 : decode cL_law 202 = .ok (.iaload, 1) := by decide +kernel
theorem dL_law_203 : decode cL_law 203 = .ok (.invokevirtual 17, 3) := by decide +kernel
theorem dL_law_206 : decode cL_law 206 = .ok (.if_icmp .eq 864, 3) := by decide +kernel
theorem dL_law_209 : decode cL_law 209 = .ok (.iconst 0, 1) := by decide +kernel
theorem dL_law_210 : decode cL_law 210 = .ok (.ireturn, 1) := by decide +kernel
theorem dL_law_211 : decode cL_law 211 = .ok (.aload_n 1, 1) := by decide +kernel
theorem dL_law_212 : decode cL_law 212 = .ok (.aload_n 0, 1) := by decide +kernel
theorem dL_law_213 : decode cL_law 213 = .ok (.iload_n 3, 1) := by decide +kernel
theorem dL_law_214 : decode cL_law 214 = .ok (.iconst 1, 1) := by decide +kernel
theorem dL_law_215 : decode cL_law 215 = .ok (.iadd, 1) := by decide +kernel
theorem dL_law_216 : decode cL_law 216 = .ok (.iaload, 1) := by decide +kernel
theorem dL_law_217 : decode cL_law 217 = .ok (.aload_n 0, 1) := by decide +kernel
theorem dL_law_218 : decode cL_law 218 = .ok (.iload_n 3, 1) := by decide +kernel
theorem dL_law_219 : decode cL_law 219 = .ok (.iconst 2, 1) := by decide +kernel
theorem dL_law_220 : decode cL_law 220 = .ok (.iadd, 1) := by decide +kernel
theorem dL_law_221 : decode cL_law 221 = .ok (.iaload, 1) := by decide +kernel
theorem dL_law_222 : decode cL_law 222 = .ok (.aload_n 0, 1) := by decide +kernel
theorem dL_law_223 : decode cL_law 223 = .ok (.iload_n 3, 1) := by decide +kernel
theorem dL_law_224 : decode cL_law 224 = .ok (.iconst 3, 1) := by decide +kernel
theorem dL_law_225 : decode cL_law 225 = .ok (.iadd, 1) := by decide +kernel
theorem dL_law_226 : decode cL_law 226 = .ok (.iaload, 1) := by decide +kernel
theorem dL_law_227 : decode cL_law 227 = .ok (.invokevirtual 18, 3) := by decide +kernel
theorem dL_law_230 : decode cL_law 230 = .ok (.aload_n 2, 1) := by decide +kernel
theorem dL_law_231 : decode cL_law 231 = .ok (.aload_n 0, 1) := by decide +kernel
theorem dL_law_232 : decode cL_law 232 = .ok (.iload_n 3, 1) := by decide +kernel
theorem dL_law_233 : decode cL_law 233 = .ok (.iconst 1, 1) := by decide +kernel
theorem dL_law_234 : decode cL_law 234 = .ok (.iadd, 1) := by decide +kernel
theorem dL_law_235 : decode cL_law 235 = .ok (.iaload, 1) := by decide +kernel
theorem dL_law_236 : decode cL_law 236 = .ok (.aload_n 0, 1) := by decide +kernel
theorem dL_law_237 : decode cL_law 237 = .ok (.iload_n 3, 1) := by decide +kernel
theorem dL_law_238 : decode cL_law 238 = .ok (.iconst 2, 1) := by decide +kernel
theorem dL_law_239 : decode cL_law 239 = .ok (.iadd, 1) := by decide +kernel
theorem dL_law_240 : decode cL_law 240 = .ok (.iaload, 1) := by decide +kernel
theorem dL_law_241 : decode cL_law 241 = .ok (.aload_n 0, 1) := by decide +kernel
theorem dL_law_242 : decode cL_law 242 = .ok (.iload_n 3, 1) := by decide +kernel
theorem dL_law_243 : decode cL_law 243 = .ok (.iconst 3, 1) := by decide +kernel
theorem dL_law_244 : decode cL_law 244 = .ok (.iadd, 1) := by decide +kernel
theorem dL_law_245 : decode cL_law 245 = .ok (.iaload, 1) := by decide +kernel
theorem dL_law_246 : decode cL_law 246 = .ok (.invokevirtual 21, 3) := by decide +kernel
theorem dL_law_249 : decode cL_law 249 = .ok (.if_icmp .eq 821, 3) := by decide +kernel
theorem dL_law_252 : decode cL_law 252 = .ok (.iconst 0, 1) := by decide +kernel
theorem dL_law_253 : decode cL_law 253 = .ok (.ireturn, 1) := by decide +kernel
theorem dL_law_254 : decode cL_law 254 = .ok (.aload_n 1, 1) := by decide +kernel
theorem dL_law_255 : decode cL_law 255 = .ok (.aload_n 0, 1) := by decide +kernel
theorem dL_law_256 : decode cL_law 256 = .ok (.iload_n 3, 1) := by decide +kernel
theorem dL_law_257 : decode cL_law 257 = .ok (.iconst 1, 1) := by decide +kernel
theorem dL_law_258 : decode cL_law 258 = .ok (.iadd, 1) := by decide +kernel
theorem dL_law_259 : decode cL_law 259 = .ok (.iaload, 1) := by decide +kernel
theorem dL_law_260 : decode cL_law 260 = .ok (.aload_n 0, 1) := by decide +kernel
theorem dL_law_261 : decode cL_law 261 = .ok (.iload_n 3, 1) := by decide +kernel
theorem dL_law_262 : decode cL_law 262 = .ok (.iconst 2, 1) := by decide +kernel
theorem dL_law_263 : decode cL_law 263 = .ok (.iadd, 1) := by decide +kernel
theorem dL_law_264 : decode cL_law 264 = .ok (.iaload, 1) := by decide +kernel
theorem dL_law_265 : decode cL_law 265 = .ok (.invokevirtual 22, 3) := by decide +kernel
theorem dL_law_268 : decode cL_law 268 = .ok (.aload_n 2, 1) := by decide +kernel
theorem dL_law_269 : decode cL_law 269 = .ok (.aload_n 0, 1) := by decide +kernel
theorem dL_law_270 : decode cL_law 270 = .ok (.iload_n 3, 1) := by decide +kernel
theorem dL_law_271 : decode cL_law 271 = .ok (.iconst 1, 1) := by decide +kernel
theorem dL_law_272 : decode cL_law 272 = .ok (.iadd, 1) := by decide +kernel
theorem dL_law_273 : decode cL_law 273 = .ok (.iaload, 1) := by decide +kernel
theorem dL_law_274 : decode cL_law 274 = .ok (.aload_n 0, 1) := by decide +kernel
theorem dL_law_275 : decode cL_law 275 = .ok (.iload_n 3, 1) := by decide +kernel
theorem dL_law_276 : decode cL_law 276 = .ok (.iconst 2, 1) := by decide +kernel
theorem dL_law_277 : decode cL_law 277 = .ok (.iadd, 1) := by decide +kernel
theorem dL_law_278 : decode cL_law 278 = .ok (.iaload, 1) := by decide +kernel
theorem dL_law_279 : decode cL_law 279 = .ok (.invokevirtual 26, 3) := by decide +kernel
theorem dL_law_282 : decode cL_law 282 = .ok (.if_icmp .eq 788, 3) := by decide +kernel
theorem dL_law_285 : decode cL_law 285 = .ok (.iconst 0, 1) := by decide +kernel
theorem dL_law_286 : decode cL_law 286 = .ok (.ireturn, 1) := by decide +kernel
theorem dL_law_287 : decode cL_law 287 = .ok (.aload_n 1, 1) := by decide +kernel
theorem dL_law_288 : decode cL_law 288 = .ok (.aload_n 0, 1) := by decide +kernel
theorem dL_law_289 : decode cL_law 289 = .ok (.iload_n 3, 1) := by decide +kernel
theorem dL_law_290 : decode cL_law 290 = .ok (.iconst 1, 1) := by decide +kernel
theorem dL_law_291 : decode cL_law 291 = .ok (.iadd, 1) := by decide +kernel
theorem dL_law_292 : decode cL_law 292 = .ok (.iaload, 1) := by decide +kernel
theorem dL_law_293 : decode cL_law 293 = .ok (.aload_n 0, 1) := by decide +kernel
theorem dL_law_294 : decode cL_law 294 = .ok (.iload_n 3, 1) := by decide +kernel
theorem dL_law_295 : decode cL_law 295 = .ok (.iconst 2, 1) := by decide +kernel
theorem dL_law_296 : decode cL_law 296 = .ok (.iadd, 1) := by decide +kernel
theorem dL_law_297 : decode cL_law 297 = .ok (.iaload, 1) := by decide +kernel
theorem dL_law_298 : decode cL_law 298 = .ok (.aload_n 0, 1) := by decide +kernel
theorem dL_law_299 : decode cL_law 299 = .ok (.iload_n 3, 1) := by decide +kernel
theorem dL_law_300 : decode cL_law 300 = .ok (.iconst 3, 1) := by decide +kernel
theorem dL_law_301 : decode cL_law 301 = .ok (.iadd, 1) := by decide +kernel
theorem dL_law_302 : decode cL_law 302 = .ok (.iaload, 1) := by decide +kernel
theorem dL_law_303 : decode cL_law 303 = .ok (.invokevirtual 27, 3) := by decide +kernel
theorem dL_law_306 : decode cL_law 306 = .ok (.aload_n 2, 1) := by decide +kernel
theorem dL_law_307 : decode cL_law 307 = .ok (.aload_n 0, 1) := by decide +kernel
theorem dL_law_308 : decode cL_law 308 = .ok (.iload_n 3, 1) := by decide +kernel
theorem dL_law_309 : decode cL_law 309 = .ok (.iconst 1, 1) := by decide +kernel
theorem dL_law_310 : decode cL_law 310 = .ok (.iadd, 1) := by decide +kernel
theorem dL_law_311 : decode cL_law 311 = .ok (.iaload, 1) := by decide +kernel
theorem dL_law_312 : decode cL_law 312 = .ok (.aload_n 0, 1) := by decide +kernel
theorem dL_law_313 : decode cL_law 313 = .ok (.iload_n 3, 1) := by decide +kernel
theorem dL_law_314 : decode cL_law 314 = .ok (.iconst 2, 1) := by decide +kernel
theorem dL_law_315 : decode cL_law 315 = .ok (.iadd, 1) := by decide +kernel
theorem dL_law_316 : decode cL_law 316 = .ok (.iaload, 1) := by decide +kernel
theorem dL_law_317 : decode cL_law 317 = .ok (.aload_n 0, 1) := by decide +kernel
theorem dL_law_318 : decode cL_law 318 = .ok (.iload_n 3, 1) := by decide +kernel
theorem dL_law_319 : decode cL_law 319 = .ok (.iconst 3, 1) := by decide +kernel
theorem dL_law_320 : decode cL_law 320 = .ok (.iadd, 1) := by decide +kernel
theorem dL_law_321 : decode cL_law 321 = .ok (.iaload, 1) := by decide +kernel
theorem dL_law_322 : decode cL_law 322 = .ok (.invokevirtual 30, 3) := by decide +kernel
theorem dL_law_325 : decode cL_law 325 = .ok (.if_icmp .eq 745, 3) := by decide +kernel
theorem dL_law_328 : decode cL_law 328 = .ok (.iconst 0, 1) := by decide +kernel
theorem dL_law_329 : decode cL_law 329 = .ok (.ireturn, 1) := by decide +kernel
theorem dL_law_330 : decode cL_law 330 = .ok (.aload_n 1, 1) := by decide +kernel
theorem dL_law_331 : decode cL_law 331 = .ok (.aload_n 0, 1) := by decide +kernel
theorem dL_law_332 : decode cL_law 332 = .ok (.iload_n 3, 1) := by decide +kernel
theorem dL_law_333 : decode cL_law 333 = .ok (.iconst 1, 1) := by decide +kernel
theorem dL_law_334 : decode cL_law 334 = .ok (.iadd, 1) := by decide +kernel
theorem dL_law_335 : decode cL_law 335 = .ok (.iaload, 1) := by decide +kernel
theorem dL_law_336 : decode cL_law 336 = .ok (.invokevirtual 31, 3) := by decide +kernel
theorem dL_law_339 : decode cL_law 339 = .ok (.aload_n 2, 1) := by decide +kernel
theorem dL_law_340 : decode cL_law 340 = .ok (.aload_n 0, 1) := by decide +kernel
theorem dL_law_341 : decode cL_law 341 = .ok (.iload_n 3, 1) := by decide +kernel
theorem dL_law_342 : decode cL_law 342 = .ok (.iconst 1, 1) := by decide +kernel
theorem dL_law_343 : decode cL_law 343 = .ok (.iadd, 1) := by decide +kernel
theorem dL_law_344 : decode cL_law 344 = .ok (.iaload, 1) := by decide +kernel
theorem dL_law_345 : decode cL_law 345 = .ok (.invokevirtual 35, 3) := by decide +kernel
theorem dL_law_348 : decode cL_law 348 = .ok (.if_icmp .eq 722, 3) := by decide +kernel
theorem dL_law_351 : decode cL_law 351 = .ok (.iconst 0, 1) := by decide +kernel
theorem dL_law_352 : decode cL_law 352 = .ok (.ireturn, 1) := by decide +kernel
theorem dL_law_353 : decode cL_law 353 = .ok (.aload_n 1, 1) := by decide +kernel
theorem dL_law_354 : decode cL_law 354 = .ok (.invokevirtual 36, 3) := by decide +kernel
theorem dL_law_357 : decode cL_law 357 = .ok (.aload_n 2, 1) := by decide +kernel
theorem dL_law_358 : decode cL_law 358 = .ok (.invokevirtual 40, 3) := by decide +kernel
theorem dL_law_361 : decode cL_law 361 = .ok (.if_icmp .eq 709, 3) := by decide +kernel
theorem dL_law_364 : decode cL_law 364 = .ok (.iconst 0, 1) := by decide +kernel
theorem dL_law_365 : decode cL_law 365 = .ok (.ireturn, 1) := by decide +kernel
theorem dL_law_366 : decode cL_law 366 = .ok (.aload_n 1, 1) := by decide +kernel
theorem dL_law_367 : decode cL_law 367 = .ok (.aload_n 0, 1) := by decide +kernel
theorem dL_law_368 : decode cL_law 368 = .ok (.iload_n 3, 1) := by decide +kernel
theorem dL_law_369 : decode cL_law 369 = .ok (.iconst 1, 1) := by decide +kernel
theorem dL_law_370 : decode cL_law 370 = .ok (.iadd, 1) := by decide +kernel
theorem dL_law_371 : decode cL_law 371 = .ok (.iaload, 1) := by decide +kernel
theorem dL_law_372 : decode cL_law 372 = .ok (.invokevirtual 41, 3) := by decide +kernel
theorem dL_law_375 : decode cL_law 375 = .ok (.aload_n 2, 1) := by decide +kernel
theorem dL_law_376 : decode cL_law 376 = .ok (.aload_n 0, 1) := by decide +kernel
theorem dL_law_377 : decode cL_law 377 = .ok (.iload_n 3, 1) := by decide +kernel
theorem dL_law_378 : decode cL_law 378 = .ok (.iconst 1, 1) := by decide +kernel
theorem dL_law_379 : decode cL_law 379 = .ok (.iadd, 1) := by decide +kernel
theorem dL_law_380 : decode cL_law 380 = .ok (.iaload, 1) := by decide +kernel
theorem dL_law_381 : decode cL_law 381 = .ok (.invokevirtual 44, 3) := by decide +kernel
theorem dL_law_384 : decode cL_law 384 = .ok (.if_icmp .eq 686, 3) := by decide +kernel
theorem dL_law_387 : decode cL_law 387 = .ok (.iconst 0, 1) := by decide +kernel
theorem dL_law_388 : decode cL_law 388 = .ok (.ireturn, 1) := by decide +kernel
theorem dL_law_389 : decode cL_law 389 = .ok (.aload_n 1, 1) := by decide +kernel
theorem dL_law_390 : decode cL_law 390 = .ok (.aload_n 0, 1) := by decide +kernel
theorem dL_law_391 : decode cL_law 391 = .ok (.iload_n 3, 1) := by decide +kernel
theorem dL_law_392 : decode cL_law 392 = .ok (.iconst 1, 1) := by decide +kernel
theorem dL_law_393 : decode cL_law 393 = .ok (.iadd, 1) := by decide +kernel
theorem dL_law_394 : decode cL_law 394 = .ok (.iaload, 1) := by decide +kernel
theorem dL_law_395 : decode cL_law 395 = .ok (.aload_n 0, 1) := by decide +kernel
theorem dL_law_396 : decode cL_law 396 = .ok (.iload_n 3, 1) := by decide +kernel
theorem dL_law_397 : decode cL_law 397 = .ok (.iconst 2, 1) := by decide +kernel
theorem dL_law_398 : decode cL_law 398 = .ok (.iadd, 1) := by decide +kernel
theorem dL_law_399 : decode cL_law 399 = .ok (.iaload, 1) := by decide +kernel
theorem dL_law_400 : decode cL_law 400 = .ok (.invokevirtual 45, 3) := by decide +kernel
theorem dL_law_403 : decode cL_law 403 = .ok (.aload_n 2, 1) := by decide +kernel
theorem dL_law_404 : decode cL_law 404 = .ok (.aload_n 0, 1) := by decide +kernel
theorem dL_law_405 : decode cL_law 405 = .ok (.iload_n 3, 1) := by decide +kernel
theorem dL_law_406 : decode cL_law 406 = .ok (.iconst 1, 1) := by decide +kernel
theorem dL_law_407 : decode cL_law 407 = .ok (.iadd, 1) := by decide +kernel
theorem dL_law_408 : decode cL_law 408 = .ok (.iaload, 1) := by decide +kernel
theorem dL_law_409 : decode cL_law 409 = .ok (.aload_n 0, 1) := by decide +kernel
theorem dL_law_410 : decode cL_law 410 = .ok (.iload_n 3, 1) := by decide +kernel
theorem dL_law_411 : decode cL_law 411 = .ok (.iconst 2, 1) := by decide +kernel
theorem dL_law_412 : decode cL_law 412 = .ok (.iadd, 1) := by decide +kernel
theorem dL_law_413 : decode cL_law 413 = .ok (.iaload, 1) := by decide +kernel
theorem dL_law_414 : decode cL_law 414 = .ok (.invokevirtual 48, 3) := by decide +kernel
theorem dL_law_417 : decode cL_law 417 = .ok (.if_icmp .eq 653, 3) := by decide +kernel
theorem dL_law_420 : decode cL_law 420 = .ok (.iconst 0, 1) := by decide +kernel
theorem dL_law_421 : decode cL_law 421 = .ok (.ireturn, 1) := by decide +kernel
theorem dL_law_422 : decode cL_law 422 = .ok (.aload_n 1, 1) := by decide +kernel
theorem dL_law_423 : decode cL_law 423 = .ok (.invokevirtual 49, 3) := by decide +kernel
theorem dL_law_426 : decode cL_law 426 = .ok (.aload_n 2, 1) := by decide +kernel
theorem dL_law_427 : decode cL_law 427 = .ok (.invokevirtual 52, 3) := by decide +kernel
theorem dL_law_430 : decode cL_law 430 = .ok (.if_icmp .eq 640, 3) := by decide +kernel
theorem dL_law_433 : decode cL_law 433 = .ok (.iconst 0, 1) := by decide +kernel
theorem dL_law_434 : decode cL_law 434 = .ok (.ireturn, 1) := by decide +kernel
theorem dL_law_435 : decode cL_law 435 = .ok (.aload_n 1, 1) := by decide +kernel
theorem dL_law_436 : decode cL_law 436 = .ok (.invokevirtual 53, 3) := by decide +kernel
theorem dL_law_439 : decode cL_law 439 = .ok (.aload_n 2, 1) := by decide +kernel
theorem dL_law_440 : decode cL_law 440 = .ok (.invokevirtual 56, 3) := by decide +kernel
theorem dL_law_443 : decode cL_law 443 = .ok (.if_icmp .eq 627, 3) := by decide +kernel
theorem dL_law_446 : decode cL_law 446 = .ok (.iconst 0, 1) := by decide +kernel
theorem dL_law_447 : decode cL_law 447 = .ok (.ireturn, 1) := by decide +kernel
theorem dL_law_448 : decode cL_law 448 = .ok (.aload_n 1, 1) := by decide +kernel
theorem dL_law_449 : decode cL_law 449 = .ok (.invokevirtual 57, 3) := by decide +kernel
theorem dL_law_452 : decode cL_law 452 = .ok (.aload_n 2, 1) := by decide +kernel
theorem dL_law_453 : decode cL_law 453 = .ok (.invokevirtual 60, 3) := by decide +kernel
theorem dL_law_456 : decode cL_law 456 = .ok (.if_icmp .eq 614, 3) := by decide +kernel
theorem dL_law_459 : decode cL_law 459 = .ok (.iconst 0, 1) := by decide +kernel
theorem dL_law_460 : decode cL_law 460 = .ok (.ireturn, 1) := by decide +kernel
theorem dL_law_461 : decode cL_law 461 = .ok (.aload_n 1, 1) := by decide +kernel
theorem dL_law_462 : decode cL_law 462 = .ok (.aload_n 0, 1) := by decide +kernel
theorem dL_law_463 : decode cL_law 463 = .ok (.iload_n 3, 1) := by decide +kernel
theorem dL_law_464 : decode cL_law 464 = .ok (.iconst 1, 1) := by decide +kernel
theorem dL_law_465 : decode cL_law 465 = .ok (.iadd, 1) := by decide +kernel
theorem dL_law_466 : decode cL_law 466 = .ok (.iaload, 1) := by decide +kernel
theorem dL_law_467 : decode cL_law 467 = .ok (.aload_n 0, 1) := by decide +kernel
theorem dL_law_468 : decode cL_law 468 = .ok (.iload_n 3, 1) := by decide +kernel
theorem dL_law_469 : decode cL_law 469 = .ok (.iconst 2, 1) := by decide +kernel
theorem dL_law_470 : decode cL_law 470 = .ok (.iadd, 1) := by decide +kernel
theorem dL_law_471 : decode cL_law 471 = .ok (.iaload, 1) := by decide +kernel
theorem dL_law_472 : decode cL_law 472 = .ok (.invokevirtual 61, 3) := by decide +kernel
theorem dL_law_475 : decode cL_law 475 = .ok (.aload_n 2, 1) := by decide +kernel
theorem dL_law_476 : decode cL_law 476 = .ok (.aload_n 0, 1) := by decide +kernel
theorem dL_law_477 : decode cL_law 477 = .ok (.iload_n 3, 1) := by decide +kernel
theorem dL_law_478 : decode cL_law 478 = .ok (.iconst 1, 1) := by decide +kernel
theorem dL_law_479 : decode cL_law 479 = .ok (.iadd, 1) := by decide +kernel
theorem dL_law_480 : decode cL_law 480 = .ok (.iaload, 1) := by decide +kernel
theorem dL_law_481 : decode cL_law 481 = .ok (.aload_n 0, 1) := by decide +kernel
theorem dL_law_482 : decode cL_law 482 = .ok (.iload_n 3, 1) := by decide +kernel
theorem dL_law_483 : decode cL_law 483 = .ok (.iconst 2, 1) := by decide +kernel
theorem dL_law_484 : decode cL_law 484 = .ok (.iadd, 1) := by decide +kernel
theorem dL_law_485 : decode cL_law 485 = .ok (.iaload, 1) := by decide +kernel
theorem dL_law_486 : decode cL_law 486 = .ok (.invokevirtual 64, 3) := by decide +kernel
theorem dL_law_489 : decode cL_law 489 = .ok (.if_icmp .eq 581, 3) := by decide +kernel
theorem dL_law_492 : decode cL_law 492 = .ok (.iconst 0, 1) := by decide +kernel
theorem dL_law_493 : decode cL_law 493 = .ok (.ireturn, 1) := by decide +kernel
theorem dL_law_494 : decode cL_law 494 = .ok (.aload_n 1, 1) := by decide +kernel
theorem dL_law_495 : decode cL_law 495 = .ok (.invokevirtual 65, 3) := by decide +kernel
theorem dL_law_498 : decode cL_law 498 = .ok (.aload_n 2, 1) := by decide +kernel
theorem dL_law_499 : decode cL_law 499 = .ok (.invokevirtual 68, 3) := by decide +kernel
theorem dL_law_502 : decode cL_law 502 = .ok (.if_icmp .eq 568, 3) := by decide +kernel
theorem dL_law_505 : decode cL_law 505 = .ok (.iconst 0, 1) := by decide +kernel
theorem dL_law_506 : decode cL_law 506 = .ok (.ireturn, 1) := by decide +kernel
theorem dL_law_507 : decode cL_law 507 = .ok (.aload_n 1, 1) := by decide +kernel
theorem dL_law_508 : decode cL_law 508 = .ok (.aload_n 0, 1) := by decide +kernel
theorem dL_law_509 : decode cL_law 509 = .ok (.iload_n 3, 1) := by decide +kernel
theorem dL_law_510 : decode cL_law 510 = .ok (.iconst 1, 1) := by decide +kernel
theorem dL_law_511 : decode cL_law 511 = .ok (.iadd, 1) := by decide +kernel
theorem dL_law_512 : decode cL_law 512 = .ok (.iaload, 1) := by decide +kernel
theorem dL_law_513 : decode cL_law 513 = .ok (.aload_n 0, 1) := by decide +kernel
theorem dL_law_514 : decode cL_law 514 = .ok (.iload_n 3, 1) := by decide +kernel
theorem dL_law_515 : decode cL_law 515 = .ok (.iconst 2, 1) := by decide +kernel
theorem dL_law_516 : decode cL_law 516 = .ok (.iadd, 1) := by decide +kernel
theorem dL_law_517 : decode cL_law 517 = .ok (.iaload, 1) := by decide +kernel
theorem dL_law_518 : decode cL_law 518 = .ok (.invokevirtual 69, 3) := by decide +kernel
theorem dL_law_521 : decode cL_law 521 = .ok (.aload_n 2, 1) := by decide +kernel
theorem dL_law_522 : decode cL_law 522 = .ok (.aload_n 0, 1) := by decide +kernel
theorem dL_law_523 : decode cL_law 523 = .ok (.iload_n 3, 1) := by decide +kernel
theorem dL_law_524 : decode cL_law 524 = .ok (.iconst 1, 1) := by decide +kernel
theorem dL_law_525 : decode cL_law 525 = .ok (.iadd, 1) := by decide +kernel
theorem dL_law_526 : decode cL_law 526 = .ok (.iaload, 1) := by decide +kernel
theorem dL_law_527 : decode cL_law 527 = .ok (.aload_n 0, 1) := by decide +kernel
theorem dL_law_528 : decode cL_law 528 = .ok (.iload_n 3, 1) := by decide +kernel
theorem dL_law_529 : decode cL_law 529 = .ok (.iconst 2, 1) := by decide +kernel
theorem dL_law_530 : decode cL_law 530 = .ok (.iadd, 1) := by decide +kernel
theorem dL_law_531 : decode cL_law 531 = .ok (.iaload, 1) := by decide +kernel
theorem dL_law_532 : decode cL_law 532 = .ok (.invokevirtual 72, 3) := by decide +kernel
theorem dL_law_535 : decode cL_law 535 = .ok (.if_icmp .eq 535, 3) := by decide +kernel
theorem dL_law_538 : decode cL_law 538 = .ok (.iconst 0, 1) := by decide +kernel
theorem dL_law_539 : decode cL_law 539 = .ok (.ireturn, 1) := by decide +kernel
theorem dL_law_540 : decode cL_law 540 = .ok (.aload_n 1, 1) := by decide +kernel
theorem dL_law_541 : decode cL_law 541 = .ok (.aload_n 0, 1) := by decide +kernel
theorem dL_law_542 : decode cL_law 542 = .ok (.iload_n 3, 1) := by decide +kernel
theorem dL_law_543 : decode cL_law 543 = .ok (.iconst 1, 1) := by decide +kernel
theorem dL_law_544 : decode cL_law 544 = .ok (.iadd, 1) := by decide +kernel
theorem dL_law_545 : decode cL_law 545 = .ok (.iaload, 1) := by decide +kernel
theorem dL_law_546 : decode cL_law 546 = .ok (.invokevirtual 73, 3) := by decide +kernel
theorem dL_law_549 : decode cL_law 549 = .ok (.aload_n 2, 1) := by decide +kernel
theorem dL_law_550 : decode cL_law 550 = .ok (.aload_n 0, 1) := by decide +kernel
theorem dL_law_551 : decode cL_law 551 = .ok (.iload_n 3, 1) := by decide +kernel
theorem dL_law_552 : decode cL_law 552 = .ok (.iconst 1, 1) := by decide +kernel
theorem dL_law_553 : decode cL_law 553 = .ok (.iadd, 1) := by decide +kernel
theorem dL_law_554 : decode cL_law 554 = .ok (.iaload, 1) := by decide +kernel
theorem dL_law_555 : decode cL_law 555 = .ok (.invokevirtual 76, 3) := by decide +kernel
theorem dL_law_558 : decode cL_law 558 = .ok (.if_icmp .eq 512, 3) := by decide +kernel
theorem dL_law_561 : decode cL_law 561 = .ok (.iconst 0, 1) := by decide +kernel
theorem dL_law_562 : decode cL_law 562 = .ok (.ireturn, 1) := by decide +kernel
theorem dL_law_563 : decode cL_law 563 = .ok (.aload_n 1, 1) := by decide +kernel
theorem dL_law_564 : decode cL_law 564 = .ok (.aload_n 0, 1) := by decide +kernel
theorem dL_law_565 : decode cL_law 565 = .ok (.iload_n 3, 1) := by decide +kernel
theorem dL_law_566 : decode cL_law 566 = .ok (.iconst 1, 1) := by decide +kernel
theorem dL_law_567 : decode cL_law 567 = .ok (.iadd, 1) := by decide +kernel
theorem dL_law_568 : decode cL_law 568 = .ok (.iaload, 1) := by decide +kernel
theorem dL_law_569 : decode cL_law 569 = .ok (.aload_n 0, 1) := by decide +kernel
theorem dL_law_570 : decode cL_law 570 = .ok (.iload_n 3, 1) := by decide +kernel
theorem dL_law_571 : decode cL_law 571 = .ok (.iconst 2, 1) := by decide +kernel
theorem dL_law_572 : decode cL_law 572 = .ok (.iadd, 1) := by decide +kernel
theorem dL_law_573 : decode cL_law 573 = .ok (.iaload, 1) := by decide +kernel
theorem dL_law_574 : decode cL_law 574 = .ok (.invokevirtual 77, 3) := by decide +kernel
theorem dL_law_577 : decode cL_law 577 = .ok (.aload_n 2, 1) := by decide +kernel
theorem dL_law_578 : decode cL_law 578 = .ok (.aload_n 0, 1) := by decide +kernel
theorem dL_law_579 : decode cL_law 579 = .ok (.iload_n 3, 1) := by decide +kernel
theorem dL_law_580 : decode cL_law 580 = .ok (.iconst 1, 1) := by decide +kernel
theorem dL_law_581 : decode cL_law 581 = .ok (.iadd, 1) := by decide +kernel
theorem dL_law_582 : decode cL_law 582 = .ok (.iaload, 1) := by decide +kernel
theorem dL_law_583 : decode cL_law 583 = .ok (.aload_n 0, 1) := by decide +kernel
theorem dL_law_584 : decode cL_law 584 = .ok (.iload_n 3, 1) := by decide +kernel
theorem dL_law_585 : decode cL_law 585 = .ok (.iconst 2, 1) := by decide +kernel
theorem dL_law_586 : decode cL_law 586 = .ok (.iadd, 1) := by decide +kernel
theorem dL_law_587 : decode cL_law 587 = .ok (.iaload, 1) := by decide +kernel
theorem dL_law_588 : decode cL_law 588 = .ok (.invokevirtual 80, 3) := by decide +kernel
theorem dL_law_591 : decode cL_law 591 = .ok (.if_icmp .eq 479, 3) := by decide +kernel
theorem dL_law_594 : decode cL_law 594 = .ok (.iconst 0, 1) := by decide +kernel
theorem dL_law_595 : decode cL_law 595 = .ok (.ireturn, 1) := by decide +kernel
theorem dL_law_596 : decode cL_law 596 = .ok (.aload_n 1, 1) := by decide +kernel
theorem dL_law_597 : decode cL_law 597 = .ok (.invokevirtual 81, 3) := by decide +kernel
theorem dL_law_600 : decode cL_law 600 = .ok (.aload_n 2, 1) := by decide +kernel
theorem dL_law_601 : decode cL_law 601 = .ok (.invokevirtual 84, 3) := by decide +kernel
theorem dL_law_604 : decode cL_law 604 = .ok (.if_icmp .eq 466, 3) := by decide +kernel
theorem dL_law_607 : decode cL_law 607 = .ok (.iconst 0, 1) := by decide +kernel
theorem dL_law_608 : decode cL_law 608 = .ok (.ireturn, 1) := by decide +kernel
theorem dL_law_609 : decode cL_law 609 = .ok (.aload_n 1, 1) := by decide +kernel
theorem dL_law_610 : decode cL_law 610 = .ok (.aload_n 0, 1) := by decide +kernel
theorem dL_law_611 : decode cL_law 611 = .ok (.iload_n 3, 1) := by decide +kernel
theorem dL_law_612 : decode cL_law 612 = .ok (.iconst 1, 1) := by decide +kernel
theorem dL_law_613 : decode cL_law 613 = .ok (.iadd, 1) := by decide +kernel
theorem dL_law_614 : decode cL_law 614 = .ok (.iaload, 1) := by decide +kernel
theorem dL_law_615 : decode cL_law 615 = .ok (.invokevirtual 85, 3) := by decide +kernel
theorem dL_law_618 : decode cL_law 618 = .ok (.aload_n 2, 1) := by decide +kernel
theorem dL_law_619 : decode cL_law 619 = .ok (.aload_n 0, 1) := by decide +kernel
theorem dL_law_620 : decode cL_law 620 = .ok (.iload_n 3, 1) := by decide +kernel
theorem dL_law_621 : decode cL_law 621 = .ok (.iconst 1, 1) := by decide +kernel
theorem dL_law_622 : decode cL_law 622 = .ok (.iadd, 1) := by decide +kernel
theorem dL_law_623 : decode cL_law 623 = .ok (.iaload, 1) := by decide +kernel
theorem dL_law_624 : decode cL_law 624 = .ok (.invokevirtual 89, 3) := by decide +kernel
theorem dL_law_627 : decode cL_law 627 = .ok (.lcmp, 1) := by decide +kernel
theorem dL_law_628 : decode cL_law 628 = .ok (.ifCond .eq 442, 3) := by decide +kernel
theorem dL_law_631 : decode cL_law 631 = .ok (.iconst 0, 1) := by decide +kernel
theorem dL_law_632 : decode cL_law 632 = .ok (.ireturn, 1) := by decide +kernel
theorem dL_law_633 : decode cL_law 633 = .ok (.aload_n 1, 1) := by decide +kernel
theorem dL_law_634 : decode cL_law 634 = .ok (.aload_n 0, 1) := by decide +kernel
theorem dL_law_635 : decode cL_law 635 = .ok (.iload_n 3, 1) := by decide +kernel
theorem dL_law_636 : decode cL_law 636 = .ok (.iconst 1, 1) := by decide +kernel
theorem dL_law_637 : decode cL_law 637 = .ok (.iadd, 1) := by decide +kernel
theorem dL_law_638 : decode cL_law 638 = .ok (.iaload, 1) := by decide +kernel
theorem dL_law_639 : decode cL_law 639 = .ok (.aload_n 0, 1) := by decide +kernel
theorem dL_law_640 : decode cL_law 640 = .ok (.iload_n 3, 1) := by decide +kernel
theorem dL_law_641 : decode cL_law 641 = .ok (.iconst 2, 1) := by decide +kernel
theorem dL_law_642 : decode cL_law 642 = .ok (.iadd, 1) := by decide +kernel
theorem dL_law_643 : decode cL_law 643 = .ok (.iaload, 1) := by decide +kernel
theorem dL_law_644 : decode cL_law 644 = .ok (.aload_n 0, 1) := by decide +kernel
theorem dL_law_645 : decode cL_law 645 = .ok (.iload_n 3, 1) := by decide +kernel
theorem dL_law_646 : decode cL_law 646 = .ok (.iconst 3, 1) := by decide +kernel
theorem dL_law_647 : decode cL_law 647 = .ok (.iadd, 1) := by decide +kernel
theorem dL_law_648 : decode cL_law 648 = .ok (.iaload, 1) := by decide +kernel
theorem dL_law_649 : decode cL_law 649 = .ok (.invokevirtual 90, 3) := by decide +kernel
theorem dL_law_652 : decode cL_law 652 = .ok (.aload_n 2, 1) := by decide +kernel
theorem dL_law_653 : decode cL_law 653 = .ok (.aload_n 0, 1) := by decide +kernel
theorem dL_law_654 : decode cL_law 654 = .ok (.iload_n 3, 1) := by decide +kernel
theorem dL_law_655 : decode cL_law 655 = .ok (.iconst 1, 1) := by decide +kernel
theorem dL_law_656 : decode cL_law 656 = .ok (.iadd, 1) := by decide +kernel
theorem dL_law_657 : decode cL_law 657 = .ok (.iaload, 1) := by decide +kernel
theorem dL_law_658 : decode cL_law 658 = .ok (.aload_n 0, 1) := by decide +kernel
theorem dL_law_659 : decode cL_law 659 = .ok (.iload_n 3, 1) := by decide +kernel
theorem dL_law_660 : decode cL_law 660 = .ok (.iconst 2, 1) := by decide +kernel
theorem dL_law_661 : decode cL_law 661 = .ok (.iadd, 1) := by decide +kernel
theorem dL_law_662 : decode cL_law 662 = .ok (.iaload, 1) := by decide +kernel
theorem dL_law_663 : decode cL_law 663 = .ok (.aload_n 0, 1) := by decide +kernel
theorem dL_law_664 : decode cL_law 664 = .ok (.iload_n 3, 1) := by decide +kernel
theorem dL_law_665 : decode cL_law 665 = .ok (.iconst 3, 1) := by decide +kernel
theorem dL_law_666 : decode cL_law 666 = .ok (.iadd, 1) := by decide +kernel
theorem dL_law_667 : decode cL_law 667 = .ok (.iaload, 1) := by decide +kernel
theorem dL_law_668 : decode cL_law 668 = .ok (.invokevirtual 93, 3) := by decide +kernel
theorem dL_law_671 : decode cL_law 671 = .ok (.if_icmp .eq 399, 3) := by decide +kernel
theorem dL_law_674 : decode cL_law 674 = .ok (.iconst 0, 1) := by decide +kernel
theorem dL_law_675 : decode cL_law 675 = .ok (.ireturn, 1) := by decide +kernel
theorem dL_law_676 : decode cL_law 676 = .ok (.aload_n 1, 1) := by decide +kernel
theorem dL_law_677 : decode cL_law 677 = .ok (.aload_n 0, 1) := by decide +kernel
theorem dL_law_678 : decode cL_law 678 = .ok (.iload_n 3, 1) := by decide +kernel
theorem dL_law_679 : decode cL_law 679 = .ok (.iconst 1, 1) := by decide +kernel
theorem dL_law_680 : decode cL_law 680 = .ok (.iadd, 1) := by decide +kernel
theorem dL_law_681 : decode cL_law 681 = .ok (.iaload, 1) := by decide +kernel
theorem dL_law_682 : decode cL_law 682 = .ok (.aload_n 0, 1) := by decide +kernel
theorem dL_law_683 : decode cL_law 683 = .ok (.iload_n 3, 1) := by decide +kernel
theorem dL_law_684 : decode cL_law 684 = .ok (.iconst 2, 1) := by decide +kernel
theorem dL_law_685 : decode cL_law 685 = .ok (.iadd, 1) := by decide +kernel
theorem dL_law_686 : decode cL_law 686 = .ok (.iaload, 1) := by decide +kernel
theorem dL_law_687 : decode cL_law 687 = .ok (.invokevirtual 94, 3) := by decide +kernel
theorem dL_law_690 : decode cL_law 690 = .ok (.aload_n 2, 1) := by decide +kernel
theorem dL_law_691 : decode cL_law 691 = .ok (.aload_n 0, 1) := by decide +kernel
theorem dL_law_692 : decode cL_law 692 = .ok (.iload_n 3, 1) := by decide +kernel
theorem dL_law_693 : decode cL_law 693 = .ok (.iconst 1, 1) := by decide +kernel
theorem dL_law_694 : decode cL_law 694 = .ok (.iadd, 1) := by decide +kernel
theorem dL_law_695 : decode cL_law 695 = .ok (.iaload, 1) := by decide +kernel
theorem dL_law_696 : decode cL_law 696 = .ok (.aload_n 0, 1) := by decide +kernel
theorem dL_law_697 : decode cL_law 697 = .ok (.iload_n 3, 1) := by decide +kernel
theorem dL_law_698 : decode cL_law 698 = .ok (.iconst 2, 1) := by decide +kernel
theorem dL_law_699 : decode cL_law 699 = .ok (.iadd, 1) := by decide +kernel
theorem dL_law_700 : decode cL_law 700 = .ok (.iaload, 1) := by decide +kernel
theorem dL_law_701 : decode cL_law 701 = .ok (.invokevirtual 97, 3) := by decide +kernel
theorem dL_law_704 : decode cL_law 704 = .ok (.if_icmp .eq 366, 3) := by decide +kernel
theorem dL_law_707 : decode cL_law 707 = .ok (.iconst 0, 1) := by decide +kernel
theorem dL_law_708 : decode cL_law 708 = .ok (.ireturn, 1) := by decide +kernel
theorem dL_law_709 : decode cL_law 709 = .ok (.aload_n 1, 1) := by decide +kernel
theorem dL_law_710 : decode cL_law 710 = .ok (.aload_n 0, 1) := by decide +kernel
theorem dL_law_711 : decode cL_law 711 = .ok (.iload_n 3, 1) := by decide +kernel
theorem dL_law_712 : decode cL_law 712 = .ok (.iconst 1, 1) := by decide +kernel
theorem dL_law_713 : decode cL_law 713 = .ok (.iadd, 1) := by decide +kernel
theorem dL_law_714 : decode cL_law 714 = .ok (.iaload, 1) := by decide +kernel
theorem dL_law_715 : decode cL_law 715 = .ok (.aload_n 0, 1) := by decide +kernel
theorem dL_law_716 : decode cL_law 716 = .ok (.iload_n 3, 1) := by decide +kernel
theorem dL_law_717 : decode cL_law 717 = .ok (.iconst 2, 1) := by decide +kernel
theorem dL_law_718 : decode cL_law 718 = .ok (.iadd, 1) := by decide +kernel
theorem dL_law_719 : decode cL_law 719 = .ok (.iaload, 1) := by decide +kernel
theorem dL_law_720 : decode cL_law 720 = .ok (.invokevirtual 98, 3) := by decide +kernel
theorem dL_law_723 : decode cL_law 723 = .ok (.aload_n 2, 1) := by decide +kernel
theorem dL_law_724 : decode cL_law 724 = .ok (.aload_n 0, 1) := by decide +kernel
theorem dL_law_725 : decode cL_law 725 = .ok (.iload_n 3, 1) := by decide +kernel
theorem dL_law_726 : decode cL_law 726 = .ok (.iconst 1, 1) := by decide +kernel
theorem dL_law_727 : decode cL_law 727 = .ok (.iadd, 1) := by decide +kernel
theorem dL_law_728 : decode cL_law 728 = .ok (.iaload, 1) := by decide +kernel
theorem dL_law_729 : decode cL_law 729 = .ok (.aload_n 0, 1) := by decide +kernel
theorem dL_law_730 : decode cL_law 730 = .ok (.iload_n 3, 1) := by decide +kernel
theorem dL_law_731 : decode cL_law 731 = .ok (.iconst 2, 1) := by decide +kernel
theorem dL_law_732 : decode cL_law 732 = .ok (.iadd, 1) := by decide +kernel
theorem dL_law_733 : decode cL_law 733 = .ok (.iaload, 1) := by decide +kernel
theorem dL_law_734 : decode cL_law 734 = .ok (.invokevirtual 101, 3) := by decide +kernel
theorem dL_law_737 : decode cL_law 737 = .ok (.if_icmp .eq 333, 3) := by decide +kernel
theorem dL_law_740 : decode cL_law 740 = .ok (.iconst 0, 1) := by decide +kernel
theorem dL_law_741 : decode cL_law 741 = .ok (.ireturn, 1) := by decide +kernel
theorem dL_law_742 : decode cL_law 742 = .ok (.aload_n 1, 1) := by decide +kernel
theorem dL_law_743 : decode cL_law 743 = .ok (.aload_n 0, 1) := by decide +kernel
theorem dL_law_744 : decode cL_law 744 = .ok (.iload_n 3, 1) := by decide +kernel
theorem dL_law_745 : decode cL_law 745 = .ok (.iconst 1, 1) := by decide +kernel
theorem dL_law_746 : decode cL_law 746 = .ok (.iadd, 1) := by decide +kernel
theorem dL_law_747 : decode cL_law 747 = .ok (.iaload, 1) := by decide +kernel
theorem dL_law_748 : decode cL_law 748 = .ok (.aload_n 0, 1) := by decide +kernel
theorem dL_law_749 : decode cL_law 749 = .ok (.iload_n 3, 1) := by decide +kernel
theorem dL_law_750 : decode cL_law 750 = .ok (.iconst 2, 1) := by decide +kernel
theorem dL_law_751 : decode cL_law 751 = .ok (.iadd, 1) := by decide +kernel
theorem dL_law_752 : decode cL_law 752 = .ok (.iaload, 1) := by decide +kernel
theorem dL_law_753 : decode cL_law 753 = .ok (.aload_n 0, 1) := by decide +kernel
theorem dL_law_754 : decode cL_law 754 = .ok (.iload_n 3, 1) := by decide +kernel
theorem dL_law_755 : decode cL_law 755 = .ok (.iconst 3, 1) := by decide +kernel
theorem dL_law_756 : decode cL_law 756 = .ok (.iadd, 1) := by decide +kernel
theorem dL_law_757 : decode cL_law 757 = .ok (.iaload, 1) := by decide +kernel
theorem dL_law_758 : decode cL_law 758 = .ok (.invokevirtual 102, 3) := by decide +kernel
theorem dL_law_761 : decode cL_law 761 = .ok (.aload_n 2, 1) := by decide +kernel
theorem dL_law_762 : decode cL_law 762 = .ok (.aload_n 0, 1) := by decide +kernel
theorem dL_law_763 : decode cL_law 763 = .ok (.iload_n 3, 1) := by decide +kernel
theorem dL_law_764 : decode cL_law 764 = .ok (.iconst 1, 1) := by decide +kernel
theorem dL_law_765 : decode cL_law 765 = .ok (.iadd, 1) := by decide +kernel
theorem dL_law_766 : decode cL_law 766 = .ok (.iaload, 1) := by decide +kernel
theorem dL_law_767 : decode cL_law 767 = .ok (.aload_n 0, 1) := by decide +kernel
theorem dL_law_768 : decode cL_law 768 = .ok (.iload_n 3, 1) := by decide +kernel
theorem dL_law_769 : decode cL_law 769 = .ok (.iconst 2, 1) := by decide +kernel
theorem dL_law_770 : decode cL_law 770 = .ok (.iadd, 1) := by decide +kernel
theorem dL_law_771 : decode cL_law 771 = .ok (.iaload, 1) := by decide +kernel
theorem dL_law_772 : decode cL_law 772 = .ok (.aload_n 0, 1) := by decide +kernel
theorem dL_law_773 : decode cL_law 773 = .ok (.iload_n 3, 1) := by decide +kernel
theorem dL_law_774 : decode cL_law 774 = .ok (.iconst 3, 1) := by decide +kernel
theorem dL_law_775 : decode cL_law 775 = .ok (.iadd, 1) := by decide +kernel
theorem dL_law_776 : decode cL_law 776 = .ok (.iaload, 1) := by decide +kernel
theorem dL_law_777 : decode cL_law 777 = .ok (.invokevirtual 106, 3) := by decide +kernel
theorem dL_law_780 : decode cL_law 780 = .ok (.lcmp, 1) := by decide +kernel
theorem dL_law_781 : decode cL_law 781 = .ok (.ifCond .eq 289, 3) := by decide +kernel
theorem dL_law_784 : decode cL_law 784 = .ok (.iconst 0, 1) := by decide +kernel
theorem dL_law_785 : decode cL_law 785 = .ok (.ireturn, 1) := by decide +kernel
theorem dL_law_786 : decode cL_law 786 = .ok (.aload_n 1, 1) := by decide +kernel
theorem dL_law_787 : decode cL_law 787 = .ok (.invokevirtual 107, 3) := by decide +kernel
theorem dL_law_790 : decode cL_law 790 = .ok (.aload_n 2, 1) := by decide +kernel
theorem dL_law_791 : decode cL_law 791 = .ok (.invokevirtual 110, 3) := by decide +kernel
theorem dL_law_794 : decode cL_law 794 = .ok (.if_icmp .eq 276, 3) := by decide +kernel
theorem dL_law_797 : decode cL_law 797 = .ok (.iconst 0, 1) := by decide +kernel
theorem dL_law_798 : decode cL_law 798 = .ok (.ireturn, 1) := by decide +kernel
theorem dL_law_799 : decode cL_law 799 = .ok (.aload_n 1, 1) := by decide +kernel
theorem dL_law_800 : decode cL_law 800 = .ok (.invokevirtual 111, 3) := by decide +kernel
theorem dL_law_803 : decode cL_law 803 = .ok (.aload_n 2, 1) := by decide +kernel
theorem dL_law_804 : decode cL_law 804 = .ok (.invokevirtual 114, 3) := by decide +kernel
theorem dL_law_807 : decode cL_law 807 = .ok (.if_icmp .eq 263, 3) := by decide +kernel
theorem dL_law_810 : decode cL_law 810 = .ok (.iconst 0, 1) := by decide +kernel
theorem dL_law_811 : decode cL_law 811 = .ok (.ireturn, 1) := by decide +kernel
theorem dL_law_812 : decode cL_law 812 = .ok (.aload_n 1, 1) := by decide +kernel
theorem dL_law_813 : decode cL_law 813 = .ok (.aload_n 0, 1) := by decide +kernel
theorem dL_law_814 : decode cL_law 814 = .ok (.iload_n 3, 1) := by decide +kernel
theorem dL_law_815 : decode cL_law 815 = .ok (.iconst 1, 1) := by decide +kernel
theorem dL_law_816 : decode cL_law 816 = .ok (.iadd, 1) := by decide +kernel
theorem dL_law_817 : decode cL_law 817 = .ok (.iaload, 1) := by decide +kernel
theorem dL_law_818 : decode cL_law 818 = .ok (.invokevirtual 115, 3) := by decide +kernel
theorem dL_law_821 : decode cL_law 821 = .ok (.aload_n 2, 1) := by decide +kernel
theorem dL_law_822 : decode cL_law 822 = .ok (.aload_n 0, 1) := by decide +kernel
theorem dL_law_823 : decode cL_law 823 = .ok (.iload_n 3, 1) := by decide +kernel
theorem dL_law_824 : decode cL_law 824 = .ok (.iconst 1, 1) := by decide +kernel
theorem dL_law_825 : decode cL_law 825 = .ok (.iadd, 1) := by decide +kernel
theorem dL_law_826 : decode cL_law 826 = .ok (.iaload, 1) := by decide +kernel
theorem dL_law_827 : decode cL_law 827 = .ok (.invokevirtual 118, 3) := by decide +kernel
theorem dL_law_830 : decode cL_law 830 = .ok (.if_icmp .eq 240, 3) := by decide +kernel
theorem dL_law_833 : decode cL_law 833 = .ok (.iconst 0, 1) := by decide +kernel
theorem dL_law_834 : decode cL_law 834 = .ok (.ireturn, 1) := by decide +kernel
theorem dL_law_835 : decode cL_law 835 = .ok (.aload_n 1, 1) := by decide +kernel
theorem dL_law_836 : decode cL_law 836 = .ok (.aload_n 0, 1) := by decide +kernel
theorem dL_law_837 : decode cL_law 837 = .ok (.iload_n 3, 1) := by decide +kernel
theorem dL_law_838 : decode cL_law 838 = .ok (.iconst 1, 1) := by decide +kernel
theorem dL_law_839 : decode cL_law 839 = .ok (.iadd, 1) := by decide +kernel
theorem dL_law_840 : decode cL_law 840 = .ok (.iaload, 1) := by decide +kernel
theorem dL_law_841 : decode cL_law 841 = .ok (.aload_n 0, 1) := by decide +kernel
theorem dL_law_842 : decode cL_law 842 = .ok (.iload_n 3, 1) := by decide +kernel
theorem dL_law_843 : decode cL_law 843 = .ok (.iconst 2, 1) := by decide +kernel
theorem dL_law_844 : decode cL_law 844 = .ok (.iadd, 1) := by decide +kernel
theorem dL_law_845 : decode cL_law 845 = .ok (.iaload, 1) := by decide +kernel
theorem dL_law_846 : decode cL_law 846 = .ok (.aload_n 0, 1) := by decide +kernel
theorem dL_law_847 : decode cL_law 847 = .ok (.iload_n 3, 1) := by decide +kernel
theorem dL_law_848 : decode cL_law 848 = .ok (.iconst 3, 1) := by decide +kernel
theorem dL_law_849 : decode cL_law 849 = .ok (.iadd, 1) := by decide +kernel
theorem dL_law_850 : decode cL_law 850 = .ok (.iaload, 1) := by decide +kernel
theorem dL_law_851 : decode cL_law 851 = .ok (.invokevirtual 119, 3) := by decide +kernel
theorem dL_law_854 : decode cL_law 854 = .ok (.aload_n 2, 1) := by decide +kernel
theorem dL_law_855 : decode cL_law 855 = .ok (.aload_n 0, 1) := by decide +kernel
theorem dL_law_856 : decode cL_law 856 = .ok (.iload_n 3, 1) := by decide +kernel
theorem dL_law_857 : decode cL_law 857 = .ok (.iconst 1, 1) := by decide +kernel
theorem dL_law_858 : decode cL_law 858 = .ok (.iadd, 1) := by decide +kernel
theorem dL_law_859 : decode cL_law 859 = .ok (.iaload, 1) := by decide +kernel
theorem dL_law_860 : decode cL_law 860 = .ok (.aload_n 0, 1) := by decide +kernel
theorem dL_law_861 : decode cL_law 861 = .ok (.iload_n 3, 1) := by decide +kernel
theorem dL_law_862 : decode cL_law 862 = .ok (.iconst 2, 1) := by decide +kernel
theorem dL_law_863 : decode cL_law 863 = .ok (.iadd, 1) := by decide +kernel
theorem dL_law_864 : decode cL_law 864 = .ok (.iaload, 1) := by decide +kernel
theorem dL_law_865 : decode cL_law 865 = .ok (.aload_n 0, 1) := by decide +kernel
theorem dL_law_866 : decode cL_law 866 = .ok (.iload_n 3, 1) := by decide +kernel
theorem dL_law_867 : decode cL_law 867 = .ok (.iconst 3, 1) := by decide +kernel
theorem dL_law_868 : decode cL_law 868 = .ok (.iadd, 1) := by decide +kernel
theorem dL_law_869 : decode cL_law 869 = .ok (.iaload, 1) := by decide +kernel
theorem dL_law_870 : decode cL_law 870 = .ok (.invokevirtual 122, 3) := by decide +kernel
theorem dL_law_873 : decode cL_law 873 = .ok (.if_icmp .eq 197, 3) := by decide +kernel
theorem dL_law_876 : decode cL_law 876 = .ok (.iconst 0, 1) := by decide +kernel
theorem dL_law_877 : decode cL_law 877 = .ok (.ireturn, 1) := by decide +kernel
theorem dL_law_878 : decode cL_law 878 = .ok (.aload_n 1, 1) := by decide +kernel
theorem dL_law_879 : decode cL_law 879 = .ok (.aload_n 0, 1) := by decide +kernel
theorem dL_law_880 : decode cL_law 880 = .ok (.iload_n 3, 1) := by decide +kernel
theorem dL_law_881 : decode cL_law 881 = .ok (.iconst 1, 1) := by decide +kernel
theorem dL_law_882 : decode cL_law 882 = .ok (.iadd, 1) := by decide +kernel
theorem dL_law_883 : decode cL_law 883 = .ok (.iaload, 1) := by decide +kernel
theorem dL_law_884 : decode cL_law 884 = .ok (.aload_n 0, 1) := by decide +kernel
theorem dL_law_885 : decode cL_law 885 = .ok (.iload_n 3, 1) := by decide +kernel
theorem dL_law_886 : decode cL_law 886 = .ok (.iconst 2, 1) := by decide +kernel
theorem dL_law_887 : decode cL_law 887 = .ok (.iadd, 1) := by decide +kernel
theorem dL_law_888 : decode cL_law 888 = .ok (.iaload, 1) := by decide +kernel
theorem dL_law_889 : decode cL_law 889 = .ok (.aload_n 0, 1) := by decide +kernel
theorem dL_law_890 : decode cL_law 890 = .ok (.iload_n 3, 1) := by decide +kernel
theorem dL_law_891 : decode cL_law 891 = .ok (.iconst 3, 1) := by decide +kernel
theorem dL_law_892 : decode cL_law 892 = .ok (.iadd, 1) := by decide +kernel
theorem dL_law_893 : decode cL_law 893 = .ok (.iaload, 1) := by decide +kernel
theorem dL_law_894 : decode cL_law 894 = .ok (.invokevirtual 123, 3) := by decide +kernel
theorem dL_law_897 : decode cL_law 897 = .ok (.aload_n 2, 1) := by decide +kernel
theorem dL_law_898 : decode cL_law 898 = .ok (.aload_n 0, 1) := by decide +kernel
theorem dL_law_899 : decode cL_law 899 = .ok (.iload_n 3, 1) := by decide +kernel
theorem dL_law_900 : decode cL_law 900 = .ok (.iconst 1, 1) := by decide +kernel
theorem dL_law_901 : decode cL_law 901 = .ok (.iadd, 1) := by decide +kernel
theorem dL_law_902 : decode cL_law 902 = .ok (.iaload, 1) := by decide +kernel
theorem dL_law_903 : decode cL_law 903 = .ok (.aload_n 0, 1) := by decide +kernel
theorem dL_law_904 : decode cL_law 904 = .ok (.iload_n 3, 1) := by decide +kernel
theorem dL_law_905 : decode cL_law 905 = .ok (.iconst 2, 1) := by decide +kernel
theorem dL_law_906 : decode cL_law 906 = .ok (.iadd, 1) := by decide +kernel
theorem dL_law_907 : decode cL_law 907 = .ok (.iaload, 1) := by decide +kernel
theorem dL_law_908 : decode cL_law 908 = .ok (.aload_n 0, 1) := by decide +kernel
theorem dL_law_909 : decode cL_law 909 = .ok (.iload_n 3, 1) := by decide +kernel
theorem dL_law_910 : decode cL_law 910 = .ok (.iconst 3, 1) := by decide +kernel
theorem dL_law_911 : decode cL_law 911 = .ok (.iadd, 1) := by decide +kernel
theorem dL_law_912 : decode cL_law 912 = .ok (.iaload, 1) := by decide +kernel
theorem dL_law_913 : decode cL_law 913 = .ok (.invokevirtual 126, 3) := by decide +kernel
theorem dL_law_916 : decode cL_law 916 = .ok (.if_icmp .eq 154, 3) := by decide +kernel
theorem dL_law_919 : decode cL_law 919 = .ok (.iconst 0, 1) := by decide +kernel
theorem dL_law_920 : decode cL_law 920 = .ok (.ireturn, 1) := by decide +kernel
theorem dL_law_921 : decode cL_law 921 = .ok (.aload_n 1, 1) := by decide +kernel
theorem dL_law_922 : decode cL_law 922 = .ok (.aload_n 0, 1) := by decide +kernel
theorem dL_law_923 : decode cL_law 923 = .ok (.iload_n 3, 1) := by decide +kernel
theorem dL_law_924 : decode cL_law 924 = .ok (.iconst 1, 1) := by decide +kernel
theorem dL_law_925 : decode cL_law 925 = .ok (.iadd, 1) := by decide +kernel
theorem dL_law_926 : decode cL_law 926 = .ok (.iaload, 1) := by decide +kernel
theorem dL_law_927 : decode cL_law 927 = .ok (.aload_n 0, 1) := by decide +kernel
theorem dL_law_928 : decode cL_law 928 = .ok (.iload_n 3, 1) := by decide +kernel
theorem dL_law_929 : decode cL_law 929 = .ok (.iconst 2, 1) := by decide +kernel
theorem dL_law_930 : decode cL_law 930 = .ok (.iadd, 1) := by decide +kernel
theorem dL_law_931 : decode cL_law 931 = .ok (.iaload, 1) := by decide +kernel
theorem dL_law_932 : decode cL_law 932 = .ok (.aload_n 0, 1) := by decide +kernel
theorem dL_law_933 : decode cL_law 933 = .ok (.iload_n 3, 1) := by decide +kernel
theorem dL_law_934 : decode cL_law 934 = .ok (.iconst 3, 1) := by decide +kernel
theorem dL_law_935 : decode cL_law 935 = .ok (.iadd, 1) := by decide +kernel
theorem dL_law_936 : decode cL_law 936 = .ok (.iaload, 1) := by decide +kernel
theorem dL_law_937 : decode cL_law 937 = .ok (.aload_n 0, 1) := by decide +kernel
theorem dL_law_938 : decode cL_law 938 = .ok (.iload_n 3, 1) := by decide +kernel
theorem dL_law_939 : decode cL_law 939 = .ok (.iconst 4, 1) := by decide +kernel
theorem dL_law_940 : decode cL_law 940 = .ok (.iadd, 1) := by decide +kernel
theorem dL_law_941 : decode cL_law 941 = .ok (.iaload, 1) := by decide +kernel
theorem dL_law_942 : decode cL_law 942 = .ok (.aload_n 0, 1) := by decide +kernel
theorem dL_law_943 : decode cL_law 943 = .ok (.iload_n 3, 1) := by decide +kernel
theorem dL_law_944 : decode cL_law 944 = .ok (.iconst 5, 1) := by decide +kernel
theorem dL_law_945 : decode cL_law 945 = .ok (.iadd, 1) := by decide +kernel
theorem dL_law_946 : decode cL_law 946 = .ok (.iaload, 1) := by decide +kernel
theorem dL_law_947 : decode cL_law 947 = .ok (.invokevirtual 127, 3) := by decide +kernel
theorem dL_law_950 : decode cL_law 950 = .ok (.aload_n 2, 1) := by decide +kernel
theorem dL_law_951 : decode cL_law 951 = .ok (.aload_n 0, 1) := by decide +kernel
theorem dL_law_952 : decode cL_law 952 = .ok (.iload_n 3, 1) := by decide +kernel
theorem dL_law_953 : decode cL_law 953 = .ok (.iconst 1, 1) := by decide +kernel
theorem dL_law_954 : decode cL_law 954 = .ok (.iadd, 1) := by decide +kernel
theorem dL_law_955 : decode cL_law 955 = .ok (.iaload, 1) := by decide +kernel
theorem dL_law_956 : decode cL_law 956 = .ok (.aload_n 0, 1) := by decide +kernel
theorem dL_law_957 : decode cL_law 957 = .ok (.iload_n 3, 1) := by decide +kernel
theorem dL_law_958 : decode cL_law 958 = .ok (.iconst 2, 1) := by decide +kernel
theorem dL_law_959 : decode cL_law 959 = .ok (.iadd, 1) := by decide +kernel
theorem dL_law_960 : decode cL_law 960 = .ok (.iaload, 1) := by decide +kernel
theorem dL_law_961 : decode cL_law 961 = .ok (.aload_n 0, 1) := by decide +kernel
theorem dL_law_962 : decode cL_law 962 = .ok (.iload_n 3, 1) := by decide +kernel
theorem dL_law_963 : decode cL_law 963 = .ok (.iconst 3, 1) := by decide +kernel
theorem dL_law_964 : decode cL_law 964 = .ok (.iadd, 1) := by decide +kernel
theorem dL_law_965 : decode cL_law 965 = .ok (.iaload, 1) := by decide +kernel
theorem dL_law_966 : decode cL_law 966 = .ok (.aload_n 0, 1) := by decide +kernel
theorem dL_law_967 : decode cL_law 967 = .ok (.iload_n 3, 1) := by decide +kernel
theorem dL_law_968 : decode cL_law 968 = .ok (.iconst 4, 1) := by decide +kernel
theorem dL_law_969 : decode cL_law 969 = .ok (.iadd, 1) := by decide +kernel
theorem dL_law_970 : decode cL_law 970 = .ok (.iaload, 1) := by decide +kernel
theorem dL_law_971 : decode cL_law 971 = .ok (.aload_n 0, 1) := by decide +kernel
theorem dL_law_972 : decode cL_law 972 = .ok (.iload_n 3, 1) := by decide +kernel
theorem dL_law_973 : decode cL_law 973 = .ok (.iconst 5, 1) := by decide +kernel
theorem dL_law_974 : decode cL_law 974 = .ok (.iadd, 1) := by decide +kernel
theorem dL_law_975 : decode cL_law 975 = .ok (.iaload, 1) := by decide +kernel
theorem dL_law_976 : decode cL_law 976 = .ok (.invokevirtual 131, 3) := by decide +kernel
theorem dL_law_979 : decode cL_law 979 = .ok (.if_icmp .eq 91, 3) := by decide +kernel
theorem dL_law_982 : decode cL_law 982 = .ok (.iconst 0, 1) := by decide +kernel
theorem dL_law_983 : decode cL_law 983 = .ok (.ireturn, 1) := by decide +kernel
theorem dL_law_984 : decode cL_law 984 = .ok (.aload_n 1, 1) := by decide +kernel
theorem dL_law_985 : decode cL_law 985 = .ok (.aload_n 0, 1) := by decide +kernel
theorem dL_law_986 : decode cL_law 986 = .ok (.iload_n 3, 1) := by decide +kernel
theorem dL_law_987 : decode cL_law 987 = .ok (.iconst 1, 1) := by decide +kernel
theorem dL_law_988 : decode cL_law 988 = .ok (.iadd, 1) := by decide +kernel
theorem dL_law_989 : decode cL_law 989 = .ok (.iaload, 1) := by decide +kernel
theorem dL_law_990 : decode cL_law 990 = .ok (.aload_n 0, 1) := by decide +kernel
theorem dL_law_991 : decode cL_law 991 = .ok (.iload_n 3, 1) := by decide +kernel
theorem dL_law_992 : decode cL_law 992 = .ok (.iconst 2, 1) := by decide +kernel
theorem dL_law_993 : decode cL_law 993 = .ok (.iadd, 1) := by decide +kernel
theorem dL_law_994 : decode cL_law 994 = .ok (.iaload, 1) := by decide +kernel
theorem dL_law_995 : decode cL_law 995 = .ok (.aload_n 0, 1) := by decide +kernel
theorem dL_law_996 : decode cL_law 996 = .ok (.iload_n 3, 1) := by decide +kernel
theorem dL_law_997 : decode cL_law 997 = .ok (.iconst 3, 1) := by decide +kernel
theorem dL_law_998 : decode cL_law 998 = .ok (.iadd, 1) := by decide +kernel
theorem dL_law_999 : decode cL_law 999 = .ok (.iaload, 1) := by decide +kernel
theorem dL_law_1000 : decode cL_law 1000 = .ok (.aload_n 0, 1) := by decide +kernel
theorem dL_law_1001 : decode cL_law 1001 = .ok (.iload_n 3, 1) := by decide +kernel
theorem dL_law_1002 : decode cL_law 1002 = .ok (.iconst 4, 1) := by decide +kernel
theorem dL_law_1003 : decode cL_law 1003 = .ok (.iadd, 1) := by decide +kernel
theorem dL_law_1004 : decode cL_law 1004 = .ok (.iaload, 1) := by decide +kernel
theorem dL_law_1005 : decode cL_law 1005 = .ok (.invokevirtual 132, 3) := by decide +kernel
theorem dL_law_1008 : decode cL_law 1008 = .ok (.aload_n 2, 1) := by decide +kernel
theorem dL_law_1009 : decode cL_law 1009 = .ok (.aload_n 0, 1) := by decide +kernel
theorem dL_law_1010 : decode cL_law 1010 = .ok (.iload_n 3, 1) := by decide +kernel
theorem dL_law_1011 : decode cL_law 1011 = .ok (.iconst 1, 1) := by decide +kernel
theorem dL_law_1012 : decode cL_law 1012 = .ok (.iadd, 1) := by decide +kernel
theorem dL_law_1013 : decode cL_law 1013 = .ok (.iaload, 1) := by decide +kernel
theorem dL_law_1014 : decode cL_law 1014 = .ok (.aload_n 0, 1) := by decide +kernel
theorem dL_law_1015 : decode cL_law 1015 = .ok (.iload_n 3, 1) := by decide +kernel
theorem dL_law_1016 : decode cL_law 1016 = .ok (.iconst 2, 1) := by decide +kernel
theorem dL_law_1017 : decode cL_law 1017 = .ok (.iadd, 1) := by decide +kernel
theorem dL_law_1018 : decode cL_law 1018 = .ok (.iaload, 1) := by decide +kernel
theorem dL_law_1019 : decode cL_law 1019 = .ok (.aload_n 0, 1) := by decide +kernel
theorem dL_law_1020 : decode cL_law 1020 = .ok (.iload_n 3, 1) := by decide +kernel
theorem dL_law_1021 : decode cL_law 1021 = .ok (.iconst 3, 1) := by decide +kernel
theorem dL_law_1022 : decode cL_law 1022 = .ok (.iadd, 1) := by decide +kernel
theorem dL_law_1023 : decode cL_law 1023 = .ok (.iaload, 1) := by decide +kernel
theorem dL_law_1024 : decode cL_law 1024 = .ok (.aload_n 0, 1) := by decide +kernel
theorem dL_law_1025 : decode cL_law 1025 = .ok (.iload_n 3, 1) := by decide +kernel
theorem dL_law_1026 : decode cL_law 1026 = .ok (.iconst 4, 1) := by decide +kernel
theorem dL_law_1027 : decode cL_law 1027 = .ok (.iadd, 1) := by decide +kernel
theorem dL_law_1028 : decode cL_law 1028 = .ok (.iaload, 1) := by decide +kernel
theorem dL_law_1029 : decode cL_law 1029 = .ok (.invokevirtual 136, 3) := by decide +kernel
theorem dL_law_1032 : decode cL_law 1032 = .ok (.if_icmp .eq 38, 3) := by decide +kernel
theorem dL_law_1035 : decode cL_law 1035 = .ok (.iconst 0, 1) := by decide +kernel
theorem dL_law_1036 : decode cL_law 1036 = .ok (.ireturn, 1) := by decide +kernel
theorem dL_law_1037 : decode cL_law 1037 = .ok (.aload_n 1, 1) := by decide +kernel
theorem dL_law_1038 : decode cL_law 1038 = .ok (.aload_n 0, 1) := by decide +kernel
theorem dL_law_1039 : decode cL_law 1039 = .ok (.iload_n 3, 1) := by decide +kernel
theorem dL_law_1040 : decode cL_law 1040 = .ok (.iconst 1, 1) := by decide +kernel
theorem dL_law_1041 : decode cL_law 1041 = .ok (.iadd, 1) := by decide +kernel
theorem dL_law_1042 : decode cL_law 1042 = .ok (.iaload, 1) := by decide +kernel
theorem dL_law_1043 : decode cL_law 1043 = .ok (.aload_n 0, 1) := by decide +kernel
theorem dL_law_1044 : decode cL_law 1044 = .ok (.iload_n 3, 1) := by decide +kernel
theorem dL_law_1045 : decode cL_law 1045 = .ok (.iconst 2, 1) := by decide +kernel
theorem dL_law_1046 : decode cL_law 1046 = .ok (.iadd, 1) := by decide +kernel
theorem dL_law_1047 : decode cL_law 1047 = .ok (.iaload, 1) := by decide +kernel
theorem dL_law_1048 : decode cL_law 1048 = .ok (.invokevirtual 137, 3) := by decide +kernel
theorem dL_law_1051 : decode cL_law 1051 = .ok (.aload_n 2, 1) := by decide +kernel
theorem dL_law_1052 : decode cL_law 1052 = .ok (.aload_n 0, 1) := by decide +kernel
theorem dL_law_1053 : decode cL_law 1053 = .ok (.iload_n 3, 1) := by decide +kernel
theorem dL_law_1054 : decode cL_law 1054 = .ok (.iconst 1, 1) := by decide +kernel
theorem dL_law_1055 : decode cL_law 1055 = .ok (.iadd, 1) := by decide +kernel
theorem dL_law_1056 : decode cL_law 1056 = .ok (.iaload, 1) := by decide +kernel
theorem dL_law_1057 : decode cL_law 1057 = .ok (.aload_n 0, 1) := by decide +kernel
theorem dL_law_1058 : decode cL_law 1058 = .ok (.iload_n 3, 1) := by decide +kernel
theorem dL_law_1059 : decode cL_law 1059 = .ok (.iconst 2, 1) := by decide +kernel
theorem dL_law_1060 : decode cL_law 1060 = .ok (.iadd, 1) := by decide +kernel
theorem dL_law_1061 : decode cL_law 1061 = .ok (.iaload, 1) := by decide +kernel
theorem dL_law_1062 : decode cL_law 1062 = .ok (.invokevirtual 140, 3) := by decide +kernel
theorem dL_law_1065 : decode cL_law 1065 = .ok (.if_icmp .eq 5, 3) := by decide +kernel
theorem dL_law_1068 : decode cL_law 1068 = .ok (.iconst 0, 1) := by decide +kernel
theorem dL_law_1069 : decode cL_law 1069 = .ok (.ireturn, 1) := by decide +kernel
theorem dL_law_1070 : decode cL_law 1070 = .ok (.iinc 3 6, 3) := by decide +kernel
theorem dL_law_1073 : decode cL_law 1073 = .ok (.goto (-1055), 3) := by decide +kernel
theorem dL_law_1076 : decode cL_law 1076 = .ok (.iconst 1, 1) := by decide +kernel
theorem dL_law_1077 : decode cL_law 1077 = .ok (.ireturn, 1) := by decide +kernel
