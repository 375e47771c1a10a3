theorem dX8_advances_153 : decode cX8_advances 153 = .ok (.putfield 100, 3) := by decide +kernel
theorem dX8_advances_156 : decode cX8_advances 156 = .ok (.goto 154, 3) := by decide +kernel
theorem dX8_advances_159 : decode cX8_advances 159 = .ok (.iload_n 1, 1) := by decide +kernel
theorem dX8_advances_160 : decode cX8_advances 160 = .ok (.bipush 48, 2) := by decide +kernel
theorem dX8_advances_162 : decode cX8_advances 162 = .ok (.bipush 57, 2) := by decide +kernel
theorem dX8_advances_164 : decode cX8_advances 164 = .ok (.invokestatic 64, 3) := by decide +kernel
theorem dX8_advances_167 : decode cX8_advances 167 = .ok (.ifCond .eq 118, 3) := by decide +kernel
theorem dX8_advances_170 : decode cX8_advances 170 = .ok (.aload_n 0, 1) := by decide +kernel
theorem dX8_advances_171 : decode cX8_advances 171 = .ok (.iconst 0, 1) := by decide +kernel
theorem dX8_advances_172 : decode cX8_advances 172 = .ok (.putfield 107, 3) := by decide +kernel
theorem dX8_advances_175 : decode cX8_advances 175 = .ok (.aload_n 0, 1) := by decide +kernel
theorem dX8_advances_176 : decode cX8_advances 176 = .ok (.aload_n 0, 1) := by decide +kernel
theorem dX8_advances_177 : decode cX8_advances 177 = .ok (.getfield 91, 3) := by decide +kernel
theorem dX8_advances_180 : decode cX8_advances 180 = .ok (.invokevirtual 94, 3) := by decide +kernel
theorem dX8_advances_183 : decode cX8_advances 183 = .ok (.bipush 48, 2) := by decide +kernel
theorem dX8_advances_185 : decode cX8_advances 185 = .ok (.bipush 57, 2) := by decide +kernel
theorem dX8_advances_187 : decode cX8_advances 187 = .ok (.invokestatic 64, 3) := by decide +kernel
theorem dX8_advances_190 : decode cX8_advances 190 = .ok (.ifCond .eq 55, 3) := by decide +kernel
theorem dX8_advances_193 : decode cX8_advances 193 = .ok (.aload_n 0, 1) := by decide +kernel
theorem dX8_advances_194 : decode cX8_advances 194 = .ok (.aload_n 0, 1) := by decide +kernel
theorem dX8_advances_195 : decode cX8_advances 195 = .ok (.getfield 107, 3) := by decide +kernel
theorem dX8_advances_198 : decode cX8_advances 198 = .ok (.bipush 99, 2) := by decide +kernel
theorem dX8_advances_200 : decode cX8_advances 200 = .ok (.if_icmp .le 10, 3) := by decide +kernel
theorem dX8_advances_203 : decode cX8_advances 203 = .ok (.aload_n 0, 1) := by decide +kernel
theorem dX8_advances_204 : decode cX8_advances 204 = .ok (.getfield 107, 3) := by decide +kernel
theorem dX8_advances_207 : decode cX8_advances 207 = .ok (.goto 22, 3) := by decide +kernel
theorem dX8_advances_210 : decode cX8_advances 210 = .ok (.bipush 10, 2) := by decide +kernel
theorem dX8_advances_212 : decode cX8_advances 212 = .ok (.aload_n 0, 1) := by decide +kernel
theorem dX8_advances_213 : decode cX8_advances 213 = .ok (.getfield 107, 3) := by decide +kernel
theorem dX8_advances_216 : decode cX8_advances 216 = .ok (.imul, 1) := by decide +kernel
theorem dX8_advances_217 : decode cX8_advances 217 = .ok (.aload_n 0, 1) := by decide +kernel
theorem dX8_advances_218 : decode cX8_advances 218 = .ok (.aload_n 0, 1) := by decide +kernel
theorem dX8_advances_219 : decode cX8_advances 219 = .ok (.getfield 91, 3) := by decide +kernel
theorem dX8_advances_222 : decode cX8_advances 222 = .ok (.invokevirtual 94, 3) := by decide +kernel
theorem dX8_advances_225 : decode cX8_advances 225 = .ok (.iadd, 1) := by decide +kernel
theorem dX8_advances_226 : decode cX8_advances 226 = .ok (.bipush 48, 2) := by decide +kernel
theorem dX8_advances_228 : decode cX8_advances 228 = .ok (.isub, 1) := by decide +kernel
theorem dX8_advances_229 : decode cX8_advances 229 = .ok (.putfield 107, 3) := by decide +kernel
theorem dX8_advances_232 : decode cX8_advances 232 = .ok (.aload_n 0, 1) := by decide +kernel
theorem dX8_advances_233 : decode cX8_advances 233 = .ok (.dup, 1) := by decide +kernel
theorem dX8_advances_234 : decode cX8_advances 234 = .ok (.getfield 91, 3) := by decide +kernel
theorem dX8_advances_237 : decode cX8_advances 237 = .ok (.iconst 1, 1) := by decide +kernel
theorem dX8_advances_238 : decode cX8_advances 238 = .ok (.iadd, 1) := by decide +kernel
theorem dX8_advances_239 : decode cX8_advances 239 = .ok (.putfield 91, 3) := by decide +kernel
theorem dX8_advances_242 : decode cX8_advances 242 = .ok (.goto (-67), 3) := by decide +kernel
theorem dX8_advances_245 : decode cX8_advances 245 = .ok (.aload_n 0, 1) := by decide +kernel
theorem dX8_advances_246 : decode cX8_advances 246 = .ok (.aload_n 0, 1) := by decide +kernel
theorem dX8_advances_247 : decode cX8_advances 247 = .ok (.getfield 107, 3) := by decide +kernel
theorem dX8_advances_250 : decode cX8_advances 250 = .ok (.bipush 99, 2) := by decide +kernel
theorem dX8_advances_252 : decode cX8_advances 252 = .ok (.if_icmp .gt 22, 3) := by decide +kernel
theorem dX8_advances_255 : decode cX8_advances 255 = .ok (.iload_n 1, 1) := by decide +kernel
theorem dX8_advances_256 : decode cX8_advances 256 = .ok (.bipush 48, 2) := by decide +kernel
theorem dX8_advances_258 : decode cX8_advances 258 = .ok (.if_icmp .ne 20, 3) := by decide +kernel
theorem dX8_advances_261 : decode cX8_advances 261 = .ok (.aload_n 0, 1) := by decide +kernel
theorem dX8_advances_262 : decode cX8_advances 262 = .ok (.getfield 91, 3) := by decide +kernel
theorem dX8_advances_265 : decode cX8_advances 265 = .ok (.aload_n 0, 1) := by decide +kernel
theorem dX8_advances_266 : decode cX8_advances 266 = .ok (.getfield 97, 3) := by decide +kernel
theorem dX8_advances_269 : decode cX8_advances 269 = .ok (.isub, 1) := by decide +kernel
theorem dX8_advances_270 : decode cX8_advances 270 = .ok (.iconst 1, 1) := by decide +kernel
theorem dX8_advances_271 : decode cX8_advances 271 = .ok (.if_icmp .le 7, 3) := by decide +kernel
theorem dX8_advances_274 : decode cX8_advances 274 = .ok (.iconst 4, 1) := by decide +kernel
theorem dX8_advances_275 : decode cX8_advances 275 = .ok (.goto 4, 3) := by decide +kernel
theorem dX8_advances_278 : decode cX8_advances 278 = .ok (.iconst 2, 1) := by decide +kernel
theorem dX8_advances_279 : decode cX8_advances 279 = .ok (.putfield 100, 3) := by decide +kernel
theorem dX8_advances_282 : decode cX8_advances 282 = .ok (.goto 28, 3) := by decide +kernel
theorem dX8_advances_285 : decode cX8_advances 285 = .ok (.aload_n 0, 1) := by decide +kernel
theorem dX8_advances_286 : decode cX8_advances 286 = .ok (.dup, 1) := by decide +kernel
theorem dX8_advances_287 : decode cX8_advances 287 = .ok (.getfield 91, 3) := by decide +kernel
theorem dX8_advances_290 : decode cX8_advances 290 = .ok (.iconst 1, 1) := by decide +kernel
theorem dX8_advances_291 : decode cX8_advances 291 = .ok (.iadd, 1) := by decide +kernel
theorem dX8_advances_292 : decode cX8_advances 292 = .ok (.putfield 91, 3) := by decide +kernel
theorem dX8_advances_295 : decode cX8_advances 295 = .ok (.aload_n 0, 1) := by decide +kernel
theorem dX8_advances_296 : decode cX8_advances 296 = .ok (.iload_n 1, 1) := by decide +kernel
theorem dX8_advances_297 : decode cX8_advances 297 = .ok (.bipush 59, 2) := by decide +kernel
theorem dX8_advances_299 : decode cX8_advances 299 = .ok (.if_icmp .ne 7, 3) := by decide +kernel
theorem dX8_advances_302 : decode cX8_advances 302 = .ok (.iconst 3, 1) := by decide +kernel
theorem dX8_advances_303 : decode cX8_advances 303 = .ok (.goto 4, 3) := by decide +kernel
theorem dX8_advances_306 : decode cX8_advances 306 = .ok (.iconst 4, 1) := by decide +kernel
theorem dX8_advances_307 : decode cX8_advances 307 = .ok (.putfield 100, 3) := by decide +kernel
theorem dX8_advances_310 : decode cX8_advances 310 = .ok (.return_, 1) := by decide +kernel
theorem dX8_isWell_0 : decode cX8_isWell 0 = .ok (.aload_n 0, 1) := by decide +kernel
theorem dX8_isWell_1 : decode cX8_isWell 1 = .ok (.getfield 110, 3) := by decide +kernel
theorem dX8_isWell_4 : decode cX8_isWell 4 = .ok (.ifCond .ge 7, 3) := by decide +kernel
theorem dX8_isWell_7 : decode cX8_isWell 7 = .ok (.iconst 1, 1) := by decide +kernel
theorem dX8_isWell_8 : decode cX8_isWell 8 = .ok (.goto 4, 3) := by decide +kernel
theorem dX8_isWell_11 : decode cX8_isWell 11 = .ok (.iconst 0, 1) := by decide +kernel
theorem dX8_isWell_12 : decode cX8_isWell 12 = .ok (.ireturn, 1) := by decide +kernel
theorem dX8_takes_0 : decode cX8_takes 0 = .ok (.aload_n 0, 1) := by decide +kernel
theorem dX8_takes_1 : decode cX8_takes 1 = .ok (.invokevirtual 113, 3) := by decide +kernel
theorem dX8_takes_4 : decode cX8_takes 4 = .ok (.ifCond .ne 5, 3) := by decide +kernel
theorem dX8_takes_7 : decode cX8_takes 7 = .ok (.iconst 0, 1) := by decide +kernel
theorem dX8_takes_8 : decode cX8_takes 8 = .ok (.ireturn, 1) := by decide +kernel
theorem dX8_takes_9 : decode cX8_takes 9 = .ok (.iload_n 1, 1) := by decide +kernel
theorem dX8_takes_10 : decode cX8_takes 10 = .ok (.ifCond .ne 13, 3) := by decide +kernel
theorem dX8_takes_13 : decode cX8_takes 13 = .ok (.aload_n 0, 1) := by decide +kernel
theorem dX8_takes_14 : decode cX8_takes 14 = .ok (.aload_n 0, 1) := by decide +kernel
theorem dX8_takes_15 : decode cX8_takes 15 = .ok (.getfield 97, 3) := by decide +kernel
theorem dX8_takes_18 : decode cX8_takes 18 = .ok (.putfield 110, 3) := by decide +kernel
theorem dX8_takes_21 : decode cX8_takes 21 = .ok (.iconst 0, 1) := by decide +kernel
theorem dX8_takes_22 : decode cX8_takes 22 = .ok (.ireturn, 1) := by decide +kernel
theorem dX8_takes_23 : decode cX8_takes 23 = .ok (.aload_n 0, 1) := by decide +kernel
theorem dX8_takes_24 : decode cX8_takes 24 = .ok (.getfield 107, 3) := by decide +kernel
theorem dX8_takes_27 : decode cX8_takes 27 = .ok (.istore_n 2, 1) := by decide +kernel
theorem dX8_takes_28 : decode cX8_takes 28 = .ok (.aload_n 0, 1) := by decide +kernel
theorem dX8_takes_29 : decode cX8_takes 29 = .ok (.invokevirtual 117, 3) := by decide +kernel
theorem dX8_takes_32 : decode cX8_takes 32 = .ok (.iload_n 2, 1) := by decide +kernel
theorem dX8_takes_33 : decode cX8_takes 33 = .ok (.ireturn, 1) := by decide +kernel
theorem dX8_law_0 : decode cX8_law 0 = .ok (.aload_n 0, 1) := by decide +kernel
theorem dX8_law_1 : decode cX8_law 1 = .ok (.iconst 0, 1) := by decide +kernel
theorem dX8_law_2 : decode cX8_law 2 = .ok (.putfield 61, 3) := by decide +kernel
theorem dX8_law_5 : decode cX8_law 5 = .ok (.aload_n 0, 1) := by decide +kernel
theorem dX8_law_6 : decode cX8_law 6 = .ok (.iconst (-1), 1) := by decide +kernel
theorem dX8_law_7 : decode cX8_law 7 = .ok (.putfield 110, 3) := by decide +kernel
theorem dX8_law_10 : decode cX8_law 10 = .ok (.aload_n 0, 1) := by decide +kernel
theorem dX8_law_11 : decode cX8_law 11 = .ok (.iconst 0, 1) := by decide +kernel
theorem dX8_law_12 : decode cX8_law 12 = .ok (.putfield 91, 3) := by decide +kernel
theorem dX8_law_15 : decode cX8_law 15 = .ok (.iconst 0, 1) := by decide +kernel
theorem dX8_law_16 : decode cX8_law 16 = .ok (.istore_n 1, 1) := by decide +kernel
theorem dX8_law_17 : decode cX8_law 17 = .ok (.iconst 0, 1) := by decide +kernel
theorem dX8_law_18 : decode cX8_law 18 = .ok (.istore_n 2, 1) := by decide +kernel
theorem dX8_law_19 : decode cX8_law 19 = .ok (.aload_n 0, 1) := by decide +kernel
theorem dX8_law_20 : decode cX8_law 20 = .ok (.invokevirtual 55, 3) := by decide +kernel
theorem dX8_law_23 : decode cX8_law 23 = .ok (.aload_n 0, 1) := by decide +kernel
theorem dX8_law_24 : decode cX8_law 24 = .ok (.invokevirtual 117, 3) := by decide +kernel
theorem dX8_law_27 : decode cX8_law 27 = .ok (.aload_n 0, 1) := by decide +kernel
theorem dX8_law_28 : decode cX8_law 28 = .ok (.invokevirtual 113, 3) := by decide +kernel
theorem dX8_law_31 : decode cX8_law 31 = .ok (.ifCond .eq 146, 3) := by decide +kernel
theorem dX8_law_34 : decode cX8_law 34 = .ok (.aload_n 0, 1) := by decide +kernel
theorem dX8_law_35 : decode cX8_law 35 = .ok (.getfield 100, 3) := by decide +kernel
theorem dX8_law_38 : decode cX8_law 38 = .ok (.ifCond .eq 139, 3) := by decide +kernel
theorem dX8_law_41 : decode cX8_law 41 = .ok (.aload_n 0, 1) := by decide +kernel
theorem dX8_law_42 : decode cX8_law 42 = .ok (.aload_n 0, 1) := by decide +kernel
theorem dX8_law_43 : decode cX8_law 43 = .ok (.getfield 100, 3) := by decide +kernel
theorem dX8_law_46 : decode cX8_law 46 = .ok (.iconst 1, 1) := by decide +kernel
theorem dX8_law_47 : decode cX8_law 47 = .ok (.if_icmp .ne 18, 3) := by decide +kernel
theorem dX8_law_50 : decode cX8_law 50 = .ok (.iload_n 2, 1) := by decide +kernel
theorem dX8_law_51 : decode cX8_law 51 = .ok (.aload_n 0, 1) := by decide +kernel
theorem dX8_law_52 : decode cX8_law 52 = .ok (.getfield 107, 3) := by decide +kernel
theorem dX8_law_55 : decode cX8_law 55 = .ok (.ishr, 1) := by decide +kernel
theorem dX8_law_56 : decode cX8_law 56 = .ok (.iconst 1, 1) := by decide +kernel
theorem dX8_law_57 : decode cX8_law 57 = .ok (.iand, 1) := by decide +kernel
theorem dX8_law_58 : decode cX8_law 58 = .ok (.ifCond .ne 7, 3) := by decide +kernel
theorem dX8_law_61 : decode cX8_law 61 = .ok (.iconst 1, 1) := by decide +kernel
theorem dX8_law_62 : decode cX8_law 62 = .ok (.goto 4, 3) := by decide +kernel
theorem dX8_law_65 : decode cX8_law 65 = .ok (.iconst 0, 1) := by decide +kernel
theorem dX8_law_66 : decode cX8_law 66 = .ok (.invokevirtual 120, 3) := by decide +kernel
theorem dX8_law_69 : decode cX8_law 69 = .ok (.istore_n 3, 1) := by decide +kernel
theorem dX8_law_70 : decode cX8_law 70 = .ok (.iload_n 2, 1) := by decide +kernel
theorem dX8_law_71 : decode cX8_law 71 = .ok (.iconst 1, 1) := by decide +kernel
theorem dX8_law_72 : decode cX8_law 72 = .ok (.iload_n 3, 1) := by decide +kernel
theorem dX8_law_73 : decode cX8_law 73 = .ok (.ishl, 1) := by decide +kernel
theorem dX8_law_74 : decode cX8_law 74 = .ok (.ior, 1) := by decide +kernel
theorem dX8_law_75 : decode cX8_law 75 = .ok (.istore_n 2, 1) := by decide +kernel
theorem dX8_law_76 : decode cX8_law 76 = .ok (.iload_n 3, 1) := by decide +kernel
theorem dX8_law_77 : decode cX8_law 77 = .ok (.ifCond .ne 7, 3) := by decide +kernel
theorem dX8_law_80 : decode cX8_law 80 = .ok (.iconst 2, 1) := by decide +kernel
theorem dX8_law_81 : decode cX8_law 81 = .ok (.goto 4, 3) := by decide +kernel
theorem dX8_law_84 : decode cX8_law 84 = .ok (.iconst 0, 1) := by decide +kernel
theorem dX8_law_85 : decode cX8_law 85 = .ok (.istore 4, 2) := by decide +kernel
theorem dX8_law_87 : decode cX8_law 87 = .ok (.iload_n 3, 1) := by decide +kernel
theorem dX8_law_88 : decode cX8_law 88 = .ok (.ifCond .ne 8, 3) := by decide +kernel
theorem dX8_law_91 : decode cX8_law 91 = .ok (.bipush 12, 2) := by decide +kernel
theorem dX8_law_93 : decode cX8_law 93 = .ok (.goto 15, 3) := by decide +kernel
theorem dX8_law_96 : decode cX8_law 96 = .ok (.iload_n 3, 1) := by decide +kernel
theorem dX8_law_97 : decode cX8_law 97 = .ok (.iconst 1, 1) := by decide +kernel
theorem dX8_law_98 : decode cX8_law 98 = .ok (.if_icmp .ne 8, 3) := by decide +kernel
theorem dX8_law_101 : decode cX8_law 101 = .ok (.bipush 6, 2) := by decide +kernel
theorem dX8_law_103 : decode cX8_law 103 = .ok (.goto 5, 3) := by decide +kernel
theorem dX8_law_106 : decode cX8_law 106 = .ok (.bipush 99, 2) := by decide +kernel
theorem dX8_law_108 : decode cX8_law 108 = .ok (.istore 5, 2) := by decide +kernel
theorem dX8_law_110 : decode cX8_law 110 = .ok (.aload_n 0, 1) := by decide +kernel
theorem dX8_law_111 : decode cX8_law 111 = .ok (.aload_n 0, 1) := by decide +kernel
theorem dX8_law_112 : decode cX8_law 112 = .ok (.getfield 100, 3) := by decide +kernel
theorem dX8_law_115 : decode cX8_law 115 = .ok (.iconst 2, 1) := by decide +kernel
theorem dX8_law_116 : decode cX8_law 116 = .ok (.if_icmp .ne 21, 3) := by decide +kernel
theorem dX8_law_119 : decode cX8_law 119 = .ok (.aload_n 0, 1) := by decide +kernel
theorem dX8_law_120 : decode cX8_law 120 = .ok (.getfield 107, 3) := by decide +kernel
theorem dX8_law_123 : decode cX8_law 123 = .ok (.iload 4, 2) := by decide +kernel
theorem dX8_law_125 : decode cX8_law 125 = .ok (.iload 5, 2) := by decide +kernel
theorem dX8_law_127 : decode cX8_law 127 = .ok (.invokestatic 64, 3) := by decide +kernel
theorem dX8_law_130 : decode cX8_law 130 = .ok (.ifCond .eq 7, 3) := by decide +kernel
theorem dX8_law_133 : decode cX8_law 133 = .ok (.iconst 1, 1) := by decide +kernel
theorem dX8_law_134 : decode cX8_law 134 = .ok (.goto 4, 3) := by decide +kernel
theorem dX8_law_137 : decode cX8_law 137 = .ok (.iconst 0, 1) := by decide +kernel
theorem dX8_law_138 : decode cX8_law 138 = .ok (.invokevirtual 120, 3) := by decide +kernel
theorem dX8_law_141 : decode cX8_law 141 = .ok (.istore 6, 2) := by decide +kernel
theorem dX8_law_143 : decode cX8_law 143 = .ok (.aload_n 0, 1) := by decide +kernel
theorem dX8_law_144 : decode cX8_law 144 = .ok (.getfield 20, 3) := by decide +kernel
theorem dX8_law_147 : decode cX8_law 147 = .ok (.iconst 5, 1) := by decide +kernel
theorem dX8_law_148 : decode cX8_law 148 = .ok (.iload_n 3, 1) := by decide +kernel
theorem dX8_law_149 : decode cX8_law 149 = .ok (.iadd, 1) := by decide +kernel
theorem dX8_law_150 : decode cX8_law 150 = .ok (.iload 6, 2) := by decide +kernel
theorem dX8_law_152 : decode cX8_law 152 = .ok (.iastore, 1) := by decide +kernel
theorem dX8_law_153 : decode cX8_law 153 = .ok (.aload_n 0, 1) := by decide +kernel
theorem dX8_law_154 : decode cX8_law 154 = .ok (.aload_n 0, 1) := by decide +kernel
theorem dX8_law_155 : decode cX8_law 155 = .ok (.getfield 100, 3) := by decide +kernel
theorem dX8_law_158 : decode cX8_law 158 = .ok (.iconst 3, 1) := by decide +kernel
theorem dX8_law_159 : decode cX8_law 159 = .ok (.if_icmp .ne 7, 3) := by decide +kernel
theorem dX8_law_162 : decode cX8_law 162 = .ok (.iconst 1, 1) := by decide +kernel
theorem dX8_law_163 : decode cX8_law 163 = .ok (.goto 4, 3) := by decide +kernel
theorem dX8_law_166 : decode cX8_law 166 = .ok (.iconst 0, 1) := by decide +kernel
theorem dX8_law_167 : decode cX8_law 167 = .ok (.invokevirtual 120, 3) := by decide +kernel
theorem dX8_law_170 : decode cX8_law 170 = .ok (.pop, 1) := by decide +kernel
theorem dX8_law_171 : decode cX8_law 171 = .ok (.iinc 1 1, 3) := by decide +kernel
theorem dX8_law_174 : decode cX8_law 174 = .ok (.goto (-147), 3) := by decide +kernel
theorem dX8_law_177 : decode cX8_law 177 = .ok (.aload_n 0, 1) := by decide +kernel
theorem dX8_law_178 : decode cX8_law 178 = .ok (.invokevirtual 113, 3) := by decide +kernel
theorem dX8_law_181 : decode cX8_law 181 = .ok (.ifCond .ne 11, 3) := by decide +kernel
theorem dX8_law_184 : decode cX8_law 184 = .ok (.bipush (-10), 2) := by decide +kernel
theorem dX8_law_186 : decode cX8_law 186 = .ok (.aload_n 0, 1) := by decide +kernel
theorem dX8_law_187 : decode cX8_law 187 = .ok (.getfield 110, 3) := by decide +kernel
theorem dX8_law_190 : decode cX8_law 190 = .ok (.isub, 1) := by decide +kernel
theorem dX8_law_191 : decode cX8_law 191 = .ok (.ireturn, 1) := by decide +kernel
theorem dX8_law_192 : decode cX8_law 192 = .ok (.aload_n 0, 1) := by decide +kernel
theorem dX8_law_193 : decode cX8_law 193 = .ok (.invokevirtual 58, 3) := by decide +kernel
theorem dX8_law_196 : decode cX8_law 196 = .ok (.aload_n 0, 1) := by decide +kernel
theorem dX8_law_197 : decode cX8_law 197 = .ok (.iconst 0, 1) := by decide +kernel
theorem dX8_law_198 : decode cX8_law 198 = .ok (.putfield 76, 3) := by decide +kernel
theorem dX8_law_201 : decode cX8_law 201 = .ok (.iload_n 1, 1) := by decide +kernel
theorem dX8_law_202 : decode cX8_law 202 = .ok (.ireturn, 1) := by decide +kernel
theorem dX8_list_0 : decode cX8_list 0 = .ok (.aload_n 0, 1) := by decide +kernel
theorem dX8_list_1 : decode cX8_list 1 = .ok (.iconst 0, 1) := by decide +kernel
theorem dX8_list_2 : decode cX8_list 2 = .ok (.putfield 61, 3) := by decide +kernel
theorem dX8_list_5 : decode cX8_list 5 = .ok (.iload_n 1, 1) := by decide +kernel
theorem dX8_list_6 : decode cX8_list 6 = .ok (.invokestatic 124, 3) := by decide +kernel
theorem dX8_list_9 : decode cX8_list 9 = .ok (.ifCond .ne 5, 3) := by decide +kernel
theorem dX8_list_12 : decode cX8_list 12 = .ok (.iconst (-1), 1) := by decide +kernel
theorem dX8_list_13 : decode cX8_list 13 = .ok (.ireturn, 1) := by decide +kernel
theorem dX8_list_14 : decode cX8_list 14 = .ok (.iconst 0, 1) := by decide +kernel
theorem dX8_list_15 : decode cX8_list 15 = .ok (.istore_n 2, 1) := by decide +kernel
theorem dX8_list_16 : decode cX8_list 16 = .ok (.iconst 0, 1) := by decide +kernel
theorem dX8_list_17 : decode cX8_list 17 = .ok (.istore_n 3, 1) := by decide +kernel
theorem dX8_list_18 : decode cX8_list 18 = .ok (.iload_n 3, 1) := by decide +kernel
theorem dX8_list_19 : decode cX8_list 19 = .ok (.aload_n 0, 1) := by decide +kernel
theorem dX8_list_20 : decode cX8_list 20 = .ok (.getfield 76, 3) := by decide +kernel
theorem dX8_list_23 : decode cX8_list 23 = .ok (.if_icmp .ge 63, 3) := by decide +kernel
theorem dX8_list_26 : decode cX8_list 26 = .ok (.aload_n 0, 1) := by decide +kernel
theorem dX8_list_27 : decode cX8_list 27 = .ok (.getfield 23, 3) := by decide +kernel
theorem dX8_list_30 : decode cX8_list 30 = .ok (.iload_n 3, 1) := by decide +kernel
theorem dX8_list_31 : decode cX8_list 31 = .ok (.iaload, 1) := by decide +kernel
theorem dX8_list_32 : decode cX8_list 32 = .ok (.istore 4, 2) := by decide +kernel
theorem dX8_list_34 : decode cX8_list 34 = .ok (.iload_n 3, 1) := by decide +kernel
theorem dX8_list_35 : decode cX8_list 35 = .ok (.bipush 12, 2) := by decide +kernel
theorem dX8_list_37 : decode cX8_list 37 = .ok (.if_icmp .eq 28, 3) := by decide +kernel
theorem dX8_list_40 : decode cX8_list 40 = .ok (.iload 4, 2) := by decide +kernel
theorem dX8_list_42 : decode cX8_list 42 = .ok (.bipush 97, 2) := by decide +kernel
theorem dX8_list_44 : decode cX8_list 44 = .ok (.bipush 122, 2) := by decide +kernel
theorem dX8_list_46 : decode cX8_list 46 = .ok (.invokestatic 64, 3) := by decide +kernel
theorem dX8_list_49 : decode cX8_list 49 = .ok (.ifCond .eq 16, 3) := by decide +kernel
theorem dX8_list_52 : decode cX8_list 52 = .ok (.iload_n 2, 1) := by decide +kernel
theorem dX8_list_53 : decode cX8_list 53 = .ok (.iload 4, 2) := by decide +kernel
theorem dX8_list_55 : decode cX8_list 55 = .ok (.bipush 97, 2) := by decide +kernel
theorem dX8_list_57 : decode cX8_list 57 = .ok (.isub, 1) := by decide +kernel
theorem dX8_list_58 : decode cX8_list 58 = .ok (.ishr, 1) := by decide +kernel
theorem dX8_list_59 : decode cX8_list 59 = .ok (.iconst 1, 1) := by decide +kernel
theorem dX8_list_60 : decode cX8_list 60 = .ok (.iand, 1) := by decide +kernel
theorem dX8_list_61 : decode cX8_list 61 = .ok (.iconst 1, 1) := by decide +kernel
theorem dX8_list_62 : decode cX8_list 62 = .ok (.if_icmp .ne 8, 3) := by decide +kernel
theorem dX8_list_65 : decode cX8_list 65 = .ok (.bipush (-10), 2) := by decide +kernel
theorem dX8_list_67 : decode cX8_list 67 = .ok (.iload_n 3, 1) := by decide +kernel
theorem dX8_list_68 : decode cX8_list 68 = .ok (.isub, 1) := by decide +kernel
theorem dX8_list_69 : decode cX8_list 69 = .ok (.ireturn, 1) := by decide +kernel
theorem dX8_list_70 : decode cX8_list 70 = .ok (.iload_n 2, 1) := by decide +kernel
theorem dX8_list_71 : decode cX8_list 71 = .ok (.iconst 1, 1) := by decide +kernel
theorem dX8_list_72 : decode cX8_list 72 = .ok (.iload 4, 2) := by decide +kernel
theorem dX8_list_74 : decode cX8_list 74 = .ok (.bipush 97, 2) := by decide +kernel
theorem dX8_list_76 : decode cX8_list 76 = .ok (.isub, 1) := by decide +kernel
theorem dX8_list_77 : decode cX8_list 77 = .ok (.ishl, 1) := by decide +kernel
theorem dX8_list_78 : decode cX8_list 78 = .ok (.ior, 1) := by decide +kernel
theorem dX8_list_79 : decode cX8_list 79 = .ok (.istore_n 2, 1) := by decide +kernel
theorem dX8_list_80 : decode cX8_list 80 = .ok (.iinc 3 1, 3) := by decide +kernel
theorem dX8_list_83 : decode cX8_list 83 = .ok (.goto (-65), 3) := by decide +kernel
theorem dX8_list_86 : decode cX8_list 86 = .ok (.iconst 0, 1) := by decide +kernel
theorem dX8_list_87 : decode cX8_list 87 = .ok (.istore_n 3, 1) := by decide +kernel
theorem dX8_list_88 : decode cX8_list 88 = .ok (.iload_n 3, 1) := by decide +kernel
theorem dX8_list_89 : decode cX8_list 89 = .ok (.aload_n 0, 1) := by decide +kernel
theorem dX8_list_90 : decode cX8_list 90 = .ok (.getfield 76, 3) := by decide +kernel
theorem dX8_list_93 : decode cX8_list 93 = .ok (.if_icmp .ge 31, 3) := by decide +kernel
theorem dX8_list_96 : decode cX8_list 96 = .ok (.aload_n 0, 1) := by decide +kernel
theorem dX8_list_97 : decode cX8_list 97 = .ok (.getfield 7, 3) := by decide +kernel
theorem dX8_list_100 : decode cX8_list 100 = .ok (.bipush 13, 2) := by decide +kernel
theorem dX8_list_102 : decode cX8_list 102 = .ok (.iload_n 1, 1) := by decide +kernel
theorem dX8_list_103 : decode cX8_list 103 = .ok (.imul, 1) := by decide +kernel
theorem dX8_list_104 : decode cX8_list 104 = .ok (.iconst 1, 1) := by decide +kernel
theorem dX8_list_105 : decode cX8_list 105 = .ok (.iadd, 1) := by decide +kernel
theorem dX8_list_106 : decode cX8_list 106 = .ok (.iload_n 3, 1) := by decide +kernel
theorem dX8_list_107 : decode cX8_list 107 = .ok (.iadd, 1) := by decide +kernel
theorem dX8_list_108 : decode cX8_list 108 = .ok (.aload_n 0, 1) := by decide +kernel
theorem dX8_list_109 : decode cX8_list 109 = .ok (.getfield 23, 3) := by decide +kernel
theorem dX8_list_112 : decode cX8_list 112 = .ok (.iload_n 3, 1) := by decide +kernel
theorem dX8_list_113 : decode cX8_list 113 = .ok (.iaload, 1) := by decide +kernel
theorem dX8_list_114 : decode cX8_list 114 = .ok (.bipush 97, 2) := by decide +kernel
theorem dX8_list_116 : decode cX8_list 116 = .ok (.isub, 1) := by decide +kernel
theorem dX8_list_117 : decode cX8_list 117 = .ok (.iastore, 1) := by decide +kernel
theorem dX8_list_118 : decode cX8_list 118 = .ok (.iinc 3 1, 3) := by decide +kernel
theorem dX8_list_121 : decode cX8_list 121 = .ok (.goto (-33), 3) := by decide +kernel
theorem dX8_list_124 : decode cX8_list 124 = .ok (.aload_n 0, 1) := by decide +kernel
theorem dX8_list_125 : decode cX8_list 125 = .ok (.getfield 7, 3) := by decide +kernel
theorem dX8_list_128 : decode cX8_list 128 = .ok (.bipush 13, 2) := by decide +kernel
theorem dX8_list_130 : decode cX8_list 130 = .ok (.iload_n 1, 1) := by decide +kernel
theorem dX8_list_131 : decode cX8_list 131 = .ok (.imul, 1) := by decide +kernel
theorem dX8_list_132 : decode cX8_list 132 = .ok (.aload_n 0, 1) := by decide +kernel
theorem dX8_list_133 : decode cX8_list 133 = .ok (.getfield 76, 3) := by decide +kernel
theorem dX8_list_136 : decode cX8_list 136 = .ok (.iastore, 1) := by decide +kernel
theorem dX8_list_137 : decode cX8_list 137 = .ok (.aload_n 0, 1) := by decide +kernel
theorem dX8_list_138 : decode cX8_list 138 = .ok (.iconst 0, 1) := by decide +kernel
theorem dX8_list_139 : decode cX8_list 139 = .ok (.putfield 76, 3) := by decide +kernel
theorem dX8_list_142 : decode cX8_list 142 = .ok (.aload_n 0, 1) := by decide +kernel
theorem dX8_list_143 : decode cX8_list 143 = .ok (.iload_n 1, 1) := by decide +kernel
theorem dX8_list_144 : decode cX8_list 144 = .ok (.invokevirtual 68, 3) := by decide +kernel
theorem dX8_list_147 : decode cX8_list 147 = .ok (.ireturn, 1) := by decide +kernel
theorem dX8_told_0 : decode cX8_told 0 = .ok (.aload_n 0, 1) := by decide +kernel
theorem dX8_told_1 : decode cX8_told 1 = .ok (.iconst 0, 1) := by decide +kernel
theorem dX8_told_2 : decode cX8_told 2 = .ok (.putfield 61, 3) := by decide +kernel
theorem dX8_told_5 : decode cX8_told 5 = .ok (.iload_n 1, 1) := by decide +kernel
theorem dX8_told_6 : decode cX8_told 6 = .ok (.iconst 0, 1) := by decide +kernel
theorem dX8_told_7 : decode cX8_told 7 = .ok (.iconst 4, 1) := by decide +kernel
theorem dX8_told_8 : decode cX8_told 8 = .ok (.invokestatic 64, 3) := by decide +kernel
theorem dX8_told_11 : decode cX8_told 11 = .ok (.ifCond .eq 12, 3) := by decide +kernel
theorem dX8_told_14 : decode cX8_told 14 = .ok (.aload_n 0, 1) := by decide +kernel
theorem dX8_told_15 : decode cX8_told 15 = .ok (.getfield 20, 3) := by decide +kernel
theorem dX8_told_18 : decode cX8_told 18 = .ok (.iload_n 1, 1) := by decide +kernel
theorem dX8_told_19 : decode cX8_told 19 = .ok (.iaload, 1) := by decide +kernel
theorem dX8_told_20 : decode cX8_told 20 = .ok (.goto 4, 3) := by decide +kernel
theorem dX8_told_23 : decode cX8_told 23 = .ok (.iconst (-1), 1) := by decide +kernel
theorem dX8_told_24 : decode cX8_told 24 = .ok (.ireturn, 1) := by decide +kernel
theorem dX8_name_0 : decode cX8_name 0 = .ok (.aload_n 0, 1) := by decide +kernel
theorem dX8_name_1 : decode cX8_name 1 = .ok (.iconst 0, 1) := by decide +kernel
theorem dX8_name_2 : decode cX8_name 2 = .ok (.putfield 61, 3) := by decide +kernel
theorem dX8_name_5 : decode cX8_name 5 = .ok (.iload_n 1, 1) := by decide +kernel
theorem dX8_name_6 : decode cX8_name 6 = .ok (.invokestatic 124, 3) := by decide +kernel
theorem dX8_name_9 : decode cX8_name 9 = .ok (.ifCond .eq 18, 3) := by decide +kernel
theorem dX8_name_12 : decode cX8_name 12 = .ok (.iload_n 2, 1) := by decide +kernel
theorem dX8_name_13 : decode cX8_name 13 = .ok (.iconst (-1), 1) := by decide +kernel
theorem dX8_name_14 : decode cX8_name 14 = .ok (.aload_n 0, 1) := by decide +kernel
theorem dX8_name_15 : decode cX8_name 15 = .ok (.iload_n 1, 1) := by decide +kernel
theorem dX8_name_16 : decode cX8_name 16 = .ok (.invokevirtual 68, 3) := by decide +kernel
theorem dX8_name_19 : decode cX8_name 19 = .ok (.iconst 1, 1) := by decide +kernel
theorem dX8_name_20 : decode cX8_name 20 = .ok (.isub, 1) := by decide +kernel
theorem dX8_name_21 : decode cX8_name 21 = .ok (.invokestatic 64, 3) := by decide +kernel
theorem dX8_name_24 : decode cX8_name 24 = .ok (.ifCond .ne 7, 3) := by decide +kernel
theorem dX8_name_27 : decode cX8_name 27 = .ok (.iconst (-1), 1) := by decide +kernel
theorem dX8_name_28 : decode cX8_name 28 = .ok (.goto 21, 3) := by decide +kernel
theorem dX8_name_31 : decode cX8_name 31 = .ok (.iload_n 2, 1) := by decide +kernel
theorem dX8_name_32 : decode cX8_name 32 = .ok (.ifCond .ge 11, 3) := by decide +kernel
theorem dX8_name_35 : decode cX8_name 35 = .ok (.aload_n 0, 1) := by decide +kernel
theorem dX8_name_36 : decode cX8_name 36 = .ok (.iload_n 1, 1) := by decide +kernel
theorem dX8_name_37 : decode cX8_name 37 = .ok (.invokevirtual 68, 3) := by decide +kernel
theorem dX8_name_40 : decode cX8_name 40 = .ok (.goto 9, 3) := by decide +kernel
theorem dX8_name_43 : decode cX8_name 43 = .ok (.aload_n 0, 1) := by decide +kernel
theorem dX8_name_44 : decode cX8_name 44 = .ok (.iload_n 1, 1) := by decide +kernel
theorem dX8_name_45 : decode cX8_name 45 = .ok (.iload_n 2, 1) := by decide +kernel
theorem dX8_name_46 : decode cX8_name 46 = .ok (.invokevirtual 72, 3) := by decide +kernel
theorem dX8_name_49 : decode cX8_name 49 = .ok (.ireturn, 1) := by decide +kernel
theorem dX8_place_0 : decode cX8_place 0 = .ok (.aload_n 0, 1) := by decide +kernel
theorem dX8_place_1 : decode cX8_place 1 = .ok (.iconst 0, 1) := by decide +kernel
theorem dX8_place_2 : decode cX8_place 2 = .ok (.putfield 61, 3) := by decide +kernel
theorem dX8_place_5 : decode cX8_place 5 = .ok (.iload_n 1, 1) := by decide +kernel
theorem dX8_place_6 : decode cX8_place 6 = .ok (.invokestatic 124, 3) := by decide +kernel
theorem dX8_place_9 : decode cX8_place 9 = .ok (.ifCond .eq 19, 3) := by decide +kernel
theorem dX8_place_12 : decode cX8_place 12 = .ok (.iload_n 2, 1) := by decide +kernel
theorem dX8_place_13 : decode cX8_place 13 = .ok (.invokestatic 128, 3) := by decide +kernel
theorem dX8_place_16 : decode cX8_place 16 = .ok (.ifCond .eq 12, 3) := by decide +kernel
theorem dX8_place_19 : decode cX8_place 19 = .ok (.aload_n 0, 1) := by decide +kernel
theorem dX8_place_20 : decode cX8_place 20 = .ok (.iload_n 1, 1) := by decide +kernel
theorem dX8_place_21 : decode cX8_place 21 = .ok (.iload_n 2, 1) := by decide +kernel
theorem dX8_place_22 : decode cX8_place 22 = .ok (.invokevirtual 131, 3) := by decide +kernel
theorem dX8_place_25 : decode cX8_place 25 = .ok (.goto 4, 3) := by decide +kernel
theorem dX8_place_28 : decode cX8_place 28 = .ok (.iconst (-1), 1) := by decide +kernel
theorem dX8_place_29 : decode cX8_place 29 = .ok (.ireturn, 1) := by decide +kernel
theorem dX8_house_0 : decode cX8_house 0 = .ok (.aload_n 0, 1) := by decide +kernel
theorem dX8_house_1 : decode cX8_house 1 = .ok (.iconst 0, 1) := by decide +kernel
theorem dX8_house_2 : decode cX8_house 2 = .ok (.putfield 61, 3) := by decide +kernel
theorem dX8_house_5 : decode cX8_house 5 = .ok (.iload_n 1, 1) := by decide +kernel
theorem dX8_house_6 : decode cX8_house 6 = .ok (.iconst 0, 1) := by decide +kernel
theorem dX8_house_7 : decode cX8_house 7 = .ok (.iconst 5, 1) := by decide +kernel
theorem dX8_house_8 : decode cX8_house 8 = .ok (.invokestatic 64, 3) := by decide +kernel
theorem dX8_house_11 : decode cX8_house 11 = .ok (.ifCond .eq 42, 3) := by decide +kernel
theorem dX8_house_14 : decode cX8_house 14 = .ok (.iload_n 2, 1) := by decide +kernel
theorem dX8_house_15 : decode cX8_house 15 = .ok (.iconst 0, 1) := by decide +kernel
theorem dX8_house_16 : decode cX8_house 16 = .ok (.iconst 1, 1) := by decide +kernel
theorem dX8_house_17 : decode cX8_house 17 = .ok (.invokestatic 64, 3) := by decide +kernel
theorem dX8_house_20 : decode cX8_house 20 = .ok (.ifCond .eq 33, 3) := by decide +kernel
theorem dX8_house_23 : decode cX8_house 23 = .ok (.iload_n 2, 1) := by decide +kernel
theorem dX8_house_24 : decode cX8_house 24 = .ok (.ifCond .ne 16, 3) := by decide +kernel
theorem dX8_house_27 : decode cX8_house 27 = .ok (.iload_n 3, 1) := by decide +kernel
theorem dX8_house_28 : decode cX8_house 28 = .ok (.iconst 0, 1) := by decide +kernel
theorem dX8_house_29 : decode cX8_house 29 = .ok (.bipush 99, 2) := by decide +kernel
theorem dX8_house_31 : decode cX8_house 31 = .ok (.invokestatic 64, 3) := by decide +kernel
theorem dX8_house_34 : decode cX8_house 34 = .ok (.ifCond .ne 21, 3) := by decide +kernel
theorem dX8_house_37 : decode cX8_house 37 = .ok (.goto 16, 3) := by decide +kernel
theorem dX8_house_40 : decode cX8_house 40 = .ok (.iload_n 3, 1) := by decide +kernel
theorem dX8_house_41 : decode cX8_house 41 = .ok (.bipush (-9), 2) := by decide +kernel
theorem dX8_house_43 : decode cX8_house 43 = .ok (.if_icmp .eq 12, 3) := by decide +kernel
theorem dX8_house_46 : decode cX8_house 46 = .ok (.iload_n 3, 1) := by decide +kernel
theorem dX8_house_47 : decode cX8_house 47 = .ok (.invokestatic 128, 3) := by decide +kernel
theorem dX8_house_50 : decode cX8_house 50 = .ok (.ifCond .ne 5, 3) := by decide +kernel
theorem dX8_house_53 : decode cX8_house 53 = .ok (.iconst (-1), 1) := by decide +kernel
theorem dX8_house_54 : decode cX8_house 54 = .ok (.ireturn, 1) := by decide +kernel
theorem dX8_house_55 : decode cX8_house 55 = .ok (.iload_n 2, 1) := by decide +kernel
theorem dX8_house_56 : decode cX8_house 56 = .ok (.ifCond .ne 8, 3) := by decide +kernel
theorem dX8_house_59 : decode cX8_house 59 = .ok (.bipush 52, 2) := by decide +kernel
theorem dX8_house_61 : decode cX8_house 61 = .ok (.goto 5, 3) := by decide +kernel
theorem dX8_house_64 : decode cX8_house 64 = .ok (.bipush 58, 2) := by decide +kernel
theorem dX8_house_66 : decode cX8_house 66 = .ok (.iload_n 1, 1) := by decide +kernel
theorem dX8_house_67 : decode cX8_house 67 = .ok (.iadd, 1) := by decide +kernel
theorem dX8_house_68 : decode cX8_house 68 = .ok (.istore 4, 2) := by decide +kernel
theorem dX8_house_70 : decode cX8_house 70 = .ok (.aload_n 0, 1) := by decide +kernel
theorem dX8_house_71 : decode cX8_house 71 = .ok (.getfield 7, 3) := by decide +kernel
theorem dX8_house_74 : decode cX8_house 74 = .ok (.iload 4, 2) := by decide +kernel
theorem dX8_house_76 : decode cX8_house 76 = .ok (.iaload, 1) := by decide +kernel
theorem dX8_house_77 : decode cX8_house 77 = .ok (.istore 5, 2) := by decide +kernel
theorem dX8_house_79 : decode cX8_house 79 = .ok (.aload_n 0, 1) := by decide +kernel
theorem dX8_house_80 : decode cX8_house 80 = .ok (.getfield 7, 3) := by decide +kernel
theorem dX8_house_83 : decode cX8_house 83 = .ok (.iload 4, 2) := by decide +kernel
theorem dX8_house_85 : decode cX8_house 85 = .ok (.iload_n 3, 1) := by decide +kernel
theorem dX8_house_86 : decode cX8_house 86 = .ok (.iastore, 1) := by decide +kernel
theorem dX8_house_87 : decode cX8_house 87 = .ok (.iload 5, 2) := by decide +kernel
theorem dX8_house_89 : decode cX8_house 89 = .ok (.ireturn, 1) := by decide +kernel
theorem dX8_heldOf_0 : decode cX8_heldOf 0 = .ok (.iconst 0, 1) := by decide +kernel
theorem dX8_heldOf_1 : decode cX8_heldOf 1 = .ok (.istore_n 2, 1) := by decide +kernel
theorem dX8_heldOf_2 : decode cX8_heldOf 2 = .ok (.iconst 0, 1) := by decide +kernel
theorem dX8_heldOf_3 : decode cX8_heldOf 3 = .ok (.istore_n 3, 1) := by decide +kernel
theorem dX8_heldOf_4 : decode cX8_heldOf 4 = .ok (.iload_n 3, 1) := by decide +kernel
theorem dX8_heldOf_5 : decode cX8_heldOf 5 = .ok (.bipush 6, 2) := by decide +kernel
theorem dX8_heldOf_7 : decode cX8_heldOf 7 = .ok (.if_icmp .ge 38, 3) := by decide +kernel
theorem dX8_heldOf_10 : decode cX8_heldOf 10 = .ok (.iload_n 2, 1) := by decide +kernel
theorem dX8_heldOf_11 : decode cX8_heldOf 11 = .ok (.aload_n 0, 1) := by decide +kernel
theorem dX8_heldOf_12 : decode cX8_heldOf 12 = .ok (.getfield 7, 3) := by decide +kernel
theorem dX8_heldOf_15 : decode cX8_heldOf 15 = .ok (.bipush 58, 2) := by decide +kernel
theorem dX8_heldOf_17 : decode cX8_heldOf 17 = .ok (.iload_n 3, 1) := by decide +kernel
theorem dX8_heldOf_18 : decode cX8_heldOf 18 = .ok (.iadd, 1) := by decide +kernel
theorem dX8_heldOf_19 : decode cX8_heldOf 19 = .ok (.iaload, 1) := by decide +kernel
theorem dX8_heldOf_20 : decode cX8_heldOf 20 = .ok (.iload_n 1, 1) := by decide +kernel
theorem dX8_heldOf_21 : decode cX8_heldOf 21 = .ok (.if_icmp .ne 15, 3) := by decide +kernel
theorem dX8_heldOf_24 : decode cX8_heldOf 24 = .ok (.aload_n 0, 1) := by decide +kernel
theorem dX8_heldOf_25 : decode cX8_heldOf 25 = .ok (.getfield 7, 3) := by decide +kernel
theorem dX8_heldOf_28 : decode cX8_heldOf 28 = .ok (.bipush 52, 2) := by decide +kernel
theorem dX8_heldOf_30 : decode cX8_heldOf 30 = .ok (.iload_n 3, 1) := by decide +kernel
theorem dX8_heldOf_31 : decode cX8_heldOf 31 = .ok (.iadd, 1) := by decide +kernel
theorem dX8_heldOf_32 : decode cX8_heldOf 32 = .ok (.iaload, 1) := by decide +kernel
theorem dX8_heldOf_33 : decode cX8_heldOf 33 = .ok (.goto 4, 3) := by decide +kernel
theorem dX8_heldOf_36 : decode cX8_heldOf 36 = .ok (.iconst 0, 1) := by decide +kernel
theorem dX8_heldOf_37 : decode cX8_heldOf 37 = .ok (.iadd, 1) := by decide +kernel
theorem dX8_heldOf_38 : decode cX8_heldOf 38 = .ok (.istore_n 2, 1) := by decide +kernel
theorem dX8_heldOf_39 : decode cX8_heldOf 39 = .ok (.iinc 3 1, 3) := by decide +kernel
theorem dX8_heldOf_42 : decode cX8_heldOf 42 = .ok (.goto (-38), 3) := by decide +kernel
theorem dX8_heldOf_45 : decode cX8_heldOf 45 = .ok (.iload_n 2, 1) := by decide +kernel
theorem dX8_heldOf_46 : decode cX8_heldOf 46 = .ok (.ireturn, 1) := by decide +kernel
theorem dX8_held_0 : decode cX8_held 0 = .ok (.aload_n 0, 1) := by decide +kernel
theorem dX8_held_1 : decode cX8_held 1 = .ok (.iconst 0, 1) := by decide +kernel
theorem dX8_held_2 : decode cX8_held 2 = .ok (.putfield 61, 3) := by decide +kernel
theorem dX8_held_5 : decode cX8_held 5 = .ok (.iload_n 1, 1) := by decide +kernel
theorem dX8_held_6 : decode cX8_held 6 = .ok (.invokestatic 128, 3) := by decide +kernel
theorem dX8_held_9 : decode cX8_held 9 = .ok (.ifCond .eq 11, 3) := by decide +kernel
theorem dX8_held_12 : decode cX8_held 12 = .ok (.aload_n 0, 1) := by decide +kernel
theorem dX8_held_13 : decode cX8_held 13 = .ok (.iload_n 1, 1) := by decide +kernel
theorem dX8_held_14 : decode cX8_held 14 = .ok (.invokevirtual 134, 3) := by decide +kernel
theorem dX8_held_17 : decode cX8_held 17 = .ok (.goto 4, 3) := by decide +kernel
theorem dX8_held_20 : decode cX8_held 20 = .ok (.iconst (-1), 1) := by decide +kernel
theorem dX8_held_21 : decode cX8_held 21 = .ok (.ireturn, 1) := by decide +kernel
theorem dX8_found_0 : decode cX8_found 0 = .ok (.iconst 0, 1) := by decide +kernel
theorem dX8_found_1 : decode cX8_found 1 = .ok (.istore_n 2, 1) := by decide +kernel
theorem dX8_found_2 : decode cX8_found 2 = .ok (.iload_n 2, 1) := by decide +kernel
theorem dX8_found_3 : decode cX8_found 3 = .ok (.aload_n 0, 1) := by decide +kernel
theorem dX8_found_4 : decode cX8_found 4 = .ok (.getfield 137, 3) := by decide +kernel
theorem dX8_found_7 : decode cX8_found 7 = .ok (.if_icmp .ge 21, 3) := by decide +kernel
theorem dX8_found_10 : decode cX8_found 10 = .ok (.aload_n 0, 1) := by decide +kernel
theorem dX8_found_11 : decode cX8_found 11 = .ok (.getfield 33, 3) := by decide +kernel
theorem dX8_found_14 : decode cX8_found 14 = .ok (.iload_n 2, 1) := by decide +kernel
theorem dX8_found_15 : decode cX8_found 15 = .ok (.iaload, 1) := by decide +kernel
theorem dX8_found_16 : decode cX8_found 16 = .ok (.iload_n 1, 1) := by decide +kernel
theorem dX8_found_17 : decode cX8_found 17 = .ok (.if_icmp .ne 5, 3) := by decide +kernel
theorem dX8_found_20 : decode cX8_found 20 = .ok (.iload_n 2, 1) := by decide +kernel
theorem dX8_found_21 : decode cX8_found 21 = .ok (.ireturn, 1) := by decide +kernel
theorem dX8_found_22 : decode cX8_found 22 = .ok (.iinc 2 1, 3) := by decide +kernel
theorem dX8_found_25 : decode cX8_found 25 = .ok (.goto (-23), 3) := by decide +kernel
theorem dX8_found_28 : decode cX8_found 28 = .ok (.bipush (-9), 2) := by decide +kernel
theorem dX8_found_30 : decode cX8_found 30 = .ok (.ireturn, 1) := by decide +kernel
theorem dX8_drops_0 : decode cX8_drops 0 = .ok (.aload_n 0, 1) := by decide +kernel
theorem dX8_drops_1 : decode cX8_drops 1 = .ok (.getfield 36, 3) := by decide +kernel
theorem dX8_drops_4 : decode cX8_drops 4 = .ok (.iconst 2, 1) := by decide +kernel
theorem dX8_drops_5 : decode cX8_drops 5 = .ok (.dup2, 1) := by decide +kernel
theorem dX8_drops_6 : decode cX8_drops 6 = .ok (.iaload, 1) := by decide +kernel
theorem dX8_drops_7 : decode cX8_drops 7 = .ok (.iconst 1, 1) := by decide +kernel
theorem dX8_drops_8 : decode cX8_drops 8 = .ok (.aload_n 0, 1) := by decide +kernel
theorem dX8_drops_9 : decode cX8_drops 9 = .ok (.getfield 33, 3) := by decide +kernel
theorem dX8_drops_12 : decode cX8_drops 12 = .ok (.iload_n 1, 1) := by decide +kernel
theorem dX8_drops_13 : decode cX8_drops 13 = .ok (.iaload, 1) := by decide +kernel
theorem dX8_drops_14 : decode cX8_drops 14 = .ok (.ishl, 1) := by decide +kernel
theorem dX8_drops_15 : decode cX8_drops 15 = .ok (.ior, 1) := by decide +kernel
theorem dX8_drops_16 : decode cX8_drops 16 = .ok (.iastore, 1) := by decide +kernel
theorem dX8_drops_17 : decode cX8_drops 17 = .ok (.aload_n 0, 1) := by decide +kernel
theorem dX8_drops_18 : decode cX8_drops 18 = .ok (.dup, 1) := by decide +kernel
theorem dX8_drops_19 : decode cX8_drops 19 = .ok (.getfield 137, 3) := by decide +kernel
theorem dX8_drops_22 : decode cX8_drops 22 = .ok (.iconst 1, 1) := by decide +kernel
theorem dX8_drops_23 : decode cX8_drops 23 = .ok (.isub, 1) := by decide +kernel
theorem dX8_drops_24 : decode cX8_drops 24 = .ok (.putfield 137, 3) := by decide +kernel
theorem dX8_drops_27 : decode cX8_drops 27 = .ok (.iload_n 1, 1) := by decide +kernel
theorem dX8_drops_28 : decode cX8_drops 28 = .ok (.istore_n 2, 1) := by decide +kernel
theorem dX8_drops_29 : decode cX8_drops 29 = .ok (.iload_n 2, 1) := by decide +kernel
theorem dX8_drops_30 : decode cX8_drops 30 = .ok (.aload_n 0, 1) := by decide +kernel
theorem dX8_drops_31 : decode cX8_drops 31 = .ok (.getfield 137, 3) := by decide +kernel
theorem dX8_drops_34 : decode cX8_drops 34 = .ok (.if_icmp .ge 23, 3) := by decide +kernel
theorem dX8_drops_37 : decode cX8_drops 37 = .ok (.aload_n 0, 1) := by decide +kernel
theorem dX8_drops_38 : decode cX8_drops 38 = .ok (.getfield 33, 3) := by decide +kernel
theorem dX8_drops_41 : decode cX8_drops 41 = .ok (.iload_n 2, 1) := by decide +kernel
theorem dX8_drops_42 : decode cX8_drops 42 = .ok (.aload_n 0, 1) := by decide +kernel
theorem dX8_drops_43 : decode cX8_drops 43 = .ok (.getfield 33, 3) := by decide +kernel
theorem dX8_drops_46 : decode cX8_drops 46 = .ok (.iload_n 2, 1) := by decide +kernel
theorem dX8_drops_47 : decode cX8_drops 47 = .ok (.iconst 1, 1) := by decide +kernel
theorem dX8_drops_48 : decode cX8_drops 48 = .ok (.iadd, 1) := by decide +kernel
theorem dX8_drops_49 : decode cX8_drops 49 = .ok (.iaload, 1) := by decide +kernel
theorem dX8_drops_50 : decode cX8_drops 50 = .ok (.iastore, 1) := by decide +kernel
theorem dX8_drops_51 : decode cX8_drops 51 = .ok (.iinc 2 1, 3) := by decide +kernel
theorem dX8_drops_54 : decode cX8_drops 54 = .ok (.goto (-25), 3) := by decide +kernel
theorem dX8_drops_57 : decode cX8_drops 57 = .ok (.return_, 1) := by decide +kernel
theorem dX8_isWeak_0 : decode cX8_isWeak 0 = .ok (.iconst 0, 1) := by decide +kernel
theorem dX8_isWeak_1 : decode cX8_isWeak 1 = .ok (.istore_n 2, 1) := by decide +kernel
theorem dX8_isWeak_2 : decode cX8_isWeak 2 = .ok (.iconst 0, 1) := by decide +kernel
theorem dX8_isWeak_3 : decode cX8_isWeak 3 = .ok (.istore_n 3, 1) := by decide +kernel
theorem dX8_isWeak_4 : decode cX8_isWeak 4 = .ok (.iconst 0, 1) := by decide +kernel
theorem dX8_isWeak_5 : decode cX8_isWeak 5 = .ok (.istore 4, 2) := by decide +kernel
theorem dX8_isWeak_7 : decode cX8_isWeak 7 = .ok (.iload 4, 2) := by decide +kernel
theorem dX8_isWeak_9 : decode cX8_isWeak 9 = .ok (.bipush 6, 2) := by decide +kernel
theorem dX8_isWeak_11 : decode cX8_isWeak 11 = .ok (.if_icmp .ge 67, 3) := by decide +kernel
theorem dX8_isWeak_14 : decode cX8_isWeak 14 = .ok (.aload_n 0, 1) := by decide +kernel
theorem dX8_isWeak_15 : decode cX8_isWeak 15 = .ok (.getfield 7, 3) := by decide +kernel
theorem dX8_isWeak_18 : decode cX8_isWeak 18 = .ok (.bipush 58, 2) := by decide +kernel
theorem dX8_isWeak_20 : decode cX8_isWeak 20 = .ok (.iload 4, 2) := by decide +kernel
theorem dX8_isWeak_22 : decode cX8_isWeak 22 = .ok (.iadd, 1) := by decide +kernel
theorem dX8_isWeak_23 : decode cX8_isWeak 23 = .ok (.iaload, 1) := by decide +kernel
theorem dX8_isWeak_24 : decode cX8_isWeak 24 = .ok (.iload_n 1, 1) := by decide +kernel
theorem dX8_isWeak_25 : decode cX8_isWeak 25 = .ok (.if_icmp .ne 7, 3) := by decide +kernel
theorem dX8_isWeak_28 : decode cX8_isWeak 28 = .ok (.iconst 1, 1) := by decide +kernel
theorem dX8_isWeak_29 : decode cX8_isWeak 29 = .ok (.goto 4, 3) := by decide +kernel
theorem dX8_isWeak_32 : decode cX8_isWeak 32 = .ok (.iconst 0, 1) := by decide +kernel
theorem dX8_isWeak_33 : decode cX8_isWeak 33 = .ok (.istore 5, 2) := by decide +kernel
theorem dX8_isWeak_35 : decode cX8_isWeak 35 = .ok (.iload_n 2, 1) := by decide +kernel
theorem dX8_isWeak_36 : decode cX8_isWeak 36 = .ok (.iload 5, 2) := by decide +kernel
theorem dX8_isWeak_38 : decode cX8_isWeak 38 = .ok (.ior, 1) := by decide +kernel
theorem dX8_isWeak_39 : decode cX8_isWeak 39 = .ok (.istore_n 2, 1) := by decide +kernel
theorem dX8_isWeak_40 : decode cX8_isWeak 40 = .ok (.iload_n 3, 1) := by decide +kernel
theorem dX8_isWeak_41 : decode cX8_isWeak 41 = .ok (.iload 5, 2) := by decide +kernel
theorem dX8_isWeak_43 : decode cX8_isWeak 43 = .ok (.ifCond .eq 26, 3) := by decide +kernel
theorem dX8_isWeak_46 : decode cX8_isWeak 46 = .ok (.aload_n 0, 1) := by decide +kernel
theorem dX8_isWeak_47 : decode cX8_isWeak 47 = .ok (.getfield 7, 3) := by decide +kernel
theorem dX8_isWeak_50 : decode cX8_isWeak 50 = .ok (.bipush 52, 2) := by decide +kernel
theorem dX8_isWeak_52 : decode cX8_isWeak 52 = .ok (.iload 4, 2) := by decide +kernel
theorem dX8_isWeak_54 : decode cX8_isWeak 54 = .ok (.iadd, 1) := by decide +kernel
theorem dX8_isWeak_55 : decode cX8_isWeak 55 = .ok (.iaload, 1) := by decide +kernel
theorem dX8_isWeak_56 : decode cX8_isWeak 56 = .ok (.aload_n 0, 1) := by decide +kernel
theorem dX8_isWeak_57 : decode cX8_isWeak 57 = .ok (.getfield 20, 3) := by decide +kernel
theorem dX8_isWeak_60 : decode cX8_isWeak 60 = .ok (.iconst 2, 1) := by decide +kernel
theorem dX8_isWeak_61 : decode cX8_isWeak 61 = .ok (.iaload, 1) := by decide +kernel
theorem dX8_isWeak_62 : decode cX8_isWeak 62 = .ok (.if_icmp .lt 7, 3) := by decide +kernel
theorem dX8_isWeak_65 : decode cX8_isWeak 65 = .ok (.iconst 1, 1) := by decide +kernel
theorem dX8_isWeak_66 : decode cX8_isWeak 66 = .ok (.goto 4, 3) := by decide +kernel
theorem dX8_isWeak_69 : decode cX8_isWeak 69 = .ok (.iconst 0, 1) := by decide +kernel
theorem dX8_isWeak_70 : decode cX8_isWeak 70 = .ok (.ior, 1) := by decide +kernel
theorem dX8_isWeak_71 : decode cX8_isWeak 71 = .ok (.istore_n 3, 1) := by decide +kernel
theorem dX8_isWeak_72 : decode cX8_isWeak 72 = .ok (.iinc 4 1, 3) := by decide +kernel
theorem dX8_isWeak_75 : decode cX8_isWeak 75 = .ok (.goto (-68), 3) := by decide +kernel
theorem dX8_isWeak_78 : decode cX8_isWeak 78 = .ok (.iload_n 2, 1) := by decide +kernel
theorem dX8_isWeak_79 : decode cX8_isWeak 79 = .ok (.ifCond .eq 11, 3) := by decide +kernel
theorem dX8_isWeak_82 : decode cX8_isWeak 82 = .ok (.iload_n 3, 1) := by decide +kernel
theorem dX8_isWeak_83 : decode cX8_isWeak 83 = .ok (.ifCond .ne 7, 3) := by decide +kernel
theorem dX8_isWeak_86 : decode cX8_isWeak 86 = .ok (.iconst 1, 1) := by decide +kernel
theorem dX8_isWeak_87 : decode cX8_isWeak 87 = .ok (.goto 4, 3) := by decide +kernel
theorem dX8_isWeak_90 : decode cX8_isWeak 90 = .ok (.iconst 0, 1) := by decide +kernel
theorem dX8_isWeak_91 : decode cX8_isWeak 91 = .ok (.ireturn, 1) := by decide +kernel
theorem dX8_says_0 : decode cX8_says 0 = .ok (.aload_n 0, 1) := by decide +kernel
theorem dX8_says_1 : decode cX8_says 1 = .ok (.getfield 20, 3) := by decide +kernel
theorem dX8_says_4 : decode cX8_says 4 = .ok (.iconst 1, 1) := by decide +kernel
theorem dX8_says_5 : decode cX8_says 5 = .ok (.iaload, 1) := by decide +kernel
theorem dX8_says_6 : decode cX8_says 6 = .ok (.istore_n 3, 1) := by decide +kernel
theorem dX8_says_7 : decode cX8_says 7 = .ok (.aload_n 0, 1) := by decide +kernel
theorem dX8_says_8 : decode cX8_says 8 = .ok (.aload_n 0, 1) := by decide +kernel
theorem dX8_says_9 : decode cX8_says 9 = .ok (.iload_n 1, 1) := by decide +kernel
theorem dX8_says_10 : decode cX8_says 10 = .ok (.invokevirtual 68, 3) := by decide +kernel
theorem dX8_says_13 : decode cX8_says 13 = .ok (.putfield 137, 3) := by decide +kernel
theorem dX8_says_16 : decode cX8_says 16 = .ok (.iconst 0, 1) := by decide +kernel
theorem dX8_says_17 : decode cX8_says 17 = .ok (.istore 4, 2) := by decide +kernel
theorem dX8_says_19 : decode cX8_says 19 = .ok (.iload 4, 2) := by decide +kernel
theorem dX8_says_21 : decode cX8_says 21 = .ok (.aload_n 0, 1) := by decide +kernel
theorem dX8_says_22 : decode cX8_says 22 = .ok (.getfield 137, 3) := by decide +kernel
theorem dX8_says_25 : decode cX8_says 25 = .ok (.if_icmp .ge 23, 3) := by decide +kernel
theorem dX8_says_28 : decode cX8_says 28 = .ok (.aload_n 0, 1) := by decide +kernel
theorem dX8_says_29 : decode cX8_says 29 = .ok (.getfield 33, 3) := by decide +kernel
theorem dX8_says_32 : decode cX8_says 32 = .ok (.iload 4, 2) := by decide +kernel
theorem dX8_says_34 : decode cX8_says 34 = .ok (.aload_n 0, 1) := by decide +kernel
theorem dX8_says_35 : decode cX8_says 35 = .ok (.iload_n 1, 1) := by decide +kernel
theorem dX8_says_36 : decode cX8_says 36 = .ok (.iload 4, 2) := by decide +kernel
theorem dX8_says_38 : decode cX8_says 38 = .ok (.invokevirtual 72, 3) := by decide +kernel
theorem dX8_says_41 : decode cX8_says 41 = .ok (.iastore, 1) := by decide +kernel
theorem dX8_says_42 : decode cX8_says 42 = .ok (.iinc 4 1, 3) := by decide +kernel
theorem dX8_says_45 : decode cX8_says 45 = .ok (.goto (-26), 3) := by decide +kernel
theorem dX8_says_48 : decode cX8_says 48 = .ok (.iconst 0, 1) := by decide +kernel
theorem dX8_says_49 : decode cX8_says 49 = .ok (.istore 4, 2) := by decide +kernel
theorem dX8_says_51 : decode cX8_says 51 = .ok (.iload 4, 2) := by decide +kernel
theorem dX8_says_53 : decode cX8_says 53 = .ok (.iconst 3, 1) := by decide +kernel
theorem dX8_says_54 : decode cX8_says 54 = .ok (.if_icmp .ge 17, 3) := by decide +kernel
theorem dX8_says_57 : decode cX8_says 57 = .ok (.aload_n 0, 1) := by decide +kernel
theorem dX8_says_58 : decode cX8_says 58 = .ok (.getfield 36, 3) := by decide +kernel
theorem dX8_says_61 : decode cX8_says 61 = .ok (.iload 4, 2) := by decide +kernel
theorem dX8_says_63 : decode cX8_says 63 = .ok (.iconst 0, 1) := by decide +kernel
theorem dX8_says_64 : decode cX8_says 64 = .ok (.iastore, 1) := by decide +kernel
theorem dX8_says_65 : decode cX8_says 65 = .ok (.iinc 4 1, 3) := by decide +kernel
theorem dX8_says_68 : decode cX8_says 68 = .ok (.goto (-17), 3) := by decide +kernel
theorem dX8_says_71 : decode cX8_says 71 = .ok (.iconst 0, 1) := by decide +kernel
theorem dX8_says_72 : decode cX8_says 72 = .ok (.istore 4, 2) := by decide +kernel
theorem dX8_says_74 : decode cX8_says 74 = .ok (.iload 4, 2) := by decide +kernel
theorem dX8_says_76 : decode cX8_says 76 = .ok (.bipush 6, 2) := by decide +kernel
theorem dX8_says_78 : decode cX8_says 78 = .ok (.if_icmp .ge 149, 3) := by decide +kernel
theorem dX8_says_81 : decode cX8_says 81 = .ok (.aload_n 0, 1) := by decide +kernel
theorem dX8_says_82 : decode cX8_says 82 = .ok (.getfield 7, 3) := by decide +kernel
theorem dX8_says_85 : decode cX8_says 85 = .ok (.bipush 58, 2) := by decide +kernel
theorem dX8_says_87 : decode cX8_says 87 = .ok (.iload 4, 2) := by decide +kernel
theorem dX8_says_89 : decode cX8_says 89 = .ok (.iadd, 1) := by decide +kernel
theorem dX8_says_90 : decode cX8_says 90 = .ok (.iaload, 1) := by decide +kernel
theorem dX8_says_91 : decode cX8_says 91 = .ok (.istore 5, 2) := by decide +kernel
theorem dX8_says_93 : decode cX8_says 93 = .ok (.iload 5, 2) := by decide +kernel
theorem dX8_says_95 : decode cX8_says 95 = .ok (.bipush (-9), 2) := by decide +kernel
theorem dX8_says_97 : decode cX8_says 97 = .ok (.if_icmp .eq 124, 3) := by decide +kernel
theorem dX8_says_100 : decode cX8_says 100 = .ok (.iload 5, 2) := by decide +kernel
theorem dX8_says_102 : decode cX8_says 102 = .ok (.iload_n 2, 1) := by decide +kernel
theorem dX8_says_103 : decode cX8_says 103 = .ok (.if_icmp .eq 118, 3) := by decide +kernel
theorem dX8_says_106 : decode cX8_says 106 = .ok (.aload_n 0, 1) := by decide +kernel
theorem dX8_says_107 : decode cX8_says 107 = .ok (.getfield 7, 3) := by decide +kernel
theorem dX8_says_110 : decode cX8_says 110 = .ok (.bipush 52, 2) := by decide +kernel
theorem dX8_says_112 : decode cX8_says 112 = .ok (.iload 4, 2) := by decide +kernel
theorem dX8_says_114 : decode cX8_says 114 = .ok (.iadd, 1) := by decide +kernel
theorem dX8_says_115 : decode cX8_says 115 = .ok (.iaload, 1) := by decide +kernel
theorem dX8_says_116 : decode cX8_says 116 = .ok (.aload_n 0, 1) := by decide +kernel
theorem dX8_says_117 : decode cX8_says 117 = .ok (.getfield 20, 3) := by decide +kernel
theorem dX8_says_120 : decode cX8_says 120 = .ok (.iconst 3, 1) := by decide +kernel
theorem dX8_says_121 : decode cX8_says 121 = .ok (.iaload, 1) := by decide +kernel
theorem dX8_says_122 : decode cX8_says 122 = .ok (.if_icmp .lt 99, 3) := by decide +kernel
theorem dX8_says_125 : decode cX8_says 125 = .ok (.aload_n 0, 1) := by decide +kernel
theorem dX8_says_126 : decode cX8_says 126 = .ok (.iload 5, 2) := by decide +kernel
theorem dX8_says_128 : decode cX8_says 128 = .ok (.invokevirtual 140, 3) := by decide +kernel
theorem dX8_says_131 : decode cX8_says 131 = .ok (.bipush (-9), 2) := by decide +kernel
theorem dX8_says_133 : decode cX8_says 133 = .ok (.if_icmp .ne 88, 3) := by decide +kernel
theorem dX8_says_136 : decode cX8_says 136 = .ok (.iload_n 3, 1) := by decide +kernel
theorem dX8_says_137 : decode cX8_says 137 = .ok (.aload_n 0, 1) := by decide +kernel
theorem dX8_says_138 : decode cX8_says 138 = .ok (.getfield 137, 3) := by decide +kernel
theorem dX8_says_141 : decode cX8_says 141 = .ok (.if_icmp .ge 7, 3) := by decide +kernel
theorem dX8_says_144 : decode cX8_says 144 = .ok (.iload_n 3, 1) := by decide +kernel
theorem dX8_says_145 : decode cX8_says 145 = .ok (.goto 7, 3) := by decide +kernel
theorem dX8_says_148 : decode cX8_says 148 = .ok (.aload_n 0, 1) := by decide +kernel
theorem dX8_says_149 : decode cX8_says 149 = .ok (.getfield 137, 3) := by decide +kernel
theorem dX8_says_152 : decode cX8_says 152 = .ok (.istore 6, 2) := by decide +kernel
theorem dX8_says_154 : decode cX8_says 154 = .ok (.aload_n 0, 1) := by decide +kernel
theorem dX8_says_155 : decode cX8_says 155 = .ok (.getfield 137, 3) := by decide +kernel
theorem dX8_says_158 : decode cX8_says 158 = .ok (.istore 7, 2) := by decide +kernel
theorem dX8_says_160 : decode cX8_says 160 = .ok (.iload 7, 2) := by decide +kernel
theorem dX8_says_162 : decode cX8_says 162 = .ok (.iload 6, 2) := by decide +kernel
theorem dX8_says_164 : decode cX8_says 164 = .ok (.if_icmp .le 25, 3) := by decide +kernel
theorem dX8_says_167 : decode cX8_says 167 = .ok (.aload_n 0, 1) := by decide +kernel
theorem dX8_says_168 : decode cX8_says 168 = .ok (.getfield 33, 3) := by decide +kernel
theorem dX8_says_171 : decode cX8_says 171 = .ok (.iload 7, 2) := by decide +kernel
theorem dX8_says_173 : decode cX8_says 173 = .ok (.aload_n 0, 1) := by decide +kernel
theorem dX8_says_174 : decode cX8_says 174 = .ok (.getfield 33, 3) := by decide +kernel
theorem dX8_says_177 : decode cX8_says 177 = .ok (.iload 7, 2) := by decide +kernel
theorem dX8_says_179 : decode cX8_says 179 = .ok (.iconst 1, 1) := by decide +kernel
theorem dX8_says_180 : decode cX8_says 180 = .ok (.isub, 1) := by decide +kernel
theorem dX8_says_181 : decode cX8_says 181 = .ok (.iaload, 1) := by decide +kernel
theorem dX8_says_182 : decode cX8_says 182 = .ok (.iastore, 1) := by decide +kernel
theorem dX8_says_183 : decode cX8_says 183 = .ok (.iinc 7 (-1), 3) := by decide +kernel
theorem dX8_says_186 : decode cX8_says 186 = .ok (.goto (-26), 3) := by decide +kernel
theorem dX8_says_189 : decode cX8_says 189 = .ok (.aload_n 0, 1) := by decide +kernel
theorem dX8_says_190 : decode cX8_says 190 = .ok (.getfield 33, 3) := by decide +kernel
theorem dX8_says_193 : decode cX8_says 193 = .ok (.iload 6, 2) := by decide +kernel
theorem dX8_says_195 : decode cX8_says 195 = .ok (.iload 5, 2) := by decide +kernel
theorem dX8_says_197 : decode cX8_says 197 = .ok (.iastore, 1) := by decide +kernel
theorem dX8_says_198 : decode cX8_says 198 = .ok (.aload_n 0, 1) := by decide +kernel
theorem dX8_says_199 : decode cX8_says 199 = .ok (.dup, 1) := by decide +kernel
theorem dX8_says_200 : decode cX8_says 200 = .ok (.getfield 137, 3) := by decide +kernel
theorem dX8_says_203 : decode cX8_says 203 = .ok (.iconst 1, 1) := by decide +kernel
theorem dX8_says_204 : decode cX8_says 204 = .ok (.iadd, 1) := by decide +kernel
theorem dX8_says_205 : decode cX8_says 205 = .ok (.putfield 137, 3) := by decide +kernel
theorem dX8_says_208 : decode cX8_says 208 = .ok (.aload_n 0, 1) := by decide +kernel
theorem dX8_says_209 : decode cX8_says 209 = .ok (.getfield 36, 3) := by decide +kernel
theorem dX8_says_212 : decode cX8_says 212 = .ok (.iconst 0, 1) := by decide +kernel
theorem dX8_says_213 : decode cX8_says 213 = .ok (.dup2, 1) := by decide +kernel
theorem dX8_says_214 : decode cX8_says 214 = .ok (.iaload, 1) := by decide +kernel
theorem dX8_says_215 : decode cX8_says 215 = .ok (.iconst 1, 1) := by decide +kernel
theorem dX8_says_216 : decode cX8_says 216 = .ok (.iload 5, 2) := by decide +kernel
theorem dX8_says_218 : decode cX8_says 218 = .ok (.ishl, 1) := by decide +kernel
theorem dX8_says_219 : decode cX8_says 219 = .ok (.ior, 1) := by decide +kernel
theorem dX8_says_220 : decode cX8_says 220 = .ok (.iastore, 1) := by decide +kernel
theorem dX8_says_221 : decode cX8_says 221 = .ok (.iinc 4 1, 3) := by decide +kernel
theorem dX8_says_224 : decode cX8_says 224 = .ok (.goto (-150), 3) := by decide +kernel
theorem dX8_says_227 : decode cX8_says 227 = .ok (.iconst 0, 1) := by decide +kernel
theorem dX8_says_228 : decode cX8_says 228 = .ok (.istore 4, 2) := by decide +kernel
theorem dX8_says_230 : decode cX8_says 230 = .ok (.iload 4, 2) := by decide +kernel
theorem dX8_says_232 : decode cX8_says 232 = .ok (.bipush 6, 2) := by decide +kernel
theorem dX8_says_234 : decode cX8_says 234 = .ok (.if_icmp .ge 106, 3) := by decide +kernel
theorem dX8_says_237 : decode cX8_says 237 = .ok (.aload_n 0, 1) := by decide +kernel
theorem dX8_says_238 : decode cX8_says 238 = .ok (.getfield 7, 3) := by decide +kernel
theorem dX8_says_241 : decode cX8_says 241 = .ok (.bipush 58, 2) := by decide +kernel
theorem dX8_says_243 : decode cX8_says 243 = .ok (.iload 4, 2) := by decide +kernel
theorem dX8_says_245 : decode cX8_says 245 = .ok (.iadd, 1) := by decide +kernel
theorem dX8_says_246 : decode cX8_says 246 = .ok (.iaload, 1) := by decide +kernel
theorem dX8_says_247 : decode cX8_says 247 = .ok (.istore 5, 2) := by decide +kernel
theorem dX8_says_249 : decode cX8_says 249 = .ok (.iload 5, 2) := by decide +kernel
theorem dX8_says_251 : decode cX8_says 251 = .ok (.bipush (-9), 2) := by decide +kernel
theorem dX8_says_253 : decode cX8_says 253 = .ok (.if_icmp .ne 8, 3) := by decide +kernel
theorem dX8_says_256 : decode cX8_says 256 = .ok (.bipush (-9), 2) := by decide +kernel
theorem dX8_says_258 : decode cX8_says 258 = .ok (.goto 9, 3) := by decide +kernel
theorem dX8_says_261 : decode cX8_says 261 = .ok (.aload_n 0, 1) := by decide +kernel
theorem dX8_says_262 : decode cX8_says 262 = .ok (.iload 5, 2) := by decide +kernel
theorem dX8_says_264 : decode cX8_says 264 = .ok (.invokevirtual 140, 3) := by decide +kernel
theorem dX8_says_267 : decode cX8_says 267 = .ok (.istore 6, 2) := by decide +kernel
theorem dX8_says_269 : decode cX8_says 269 = .ok (.iload 6, 2) := by decide +kernel
theorem dX8_says_271 : decode cX8_says 271 = .ok (.iload_n 3, 1) := by decide +kernel
theorem dX8_says_272 : decode cX8_says 272 = .ok (.if_icmp .le 62, 3) := by decide +kernel
theorem dX8_says_275 : decode cX8_says 275 = .ok (.aload_n 0, 1) := by decide +kernel
theorem dX8_says_276 : decode cX8_says 276 = .ok (.getfield 7, 3) := by decide +kernel
theorem dX8_says_279 : decode cX8_says 279 = .ok (.bipush 52, 2) := by decide +kernel
theorem dX8_says_281 : decode cX8_says 281 = .ok (.iload 4, 2) := by decide +kernel
theorem dX8_says_283 : decode cX8_says 283 = .ok (.iadd, 1) := by decide +kernel
theorem dX8_says_284 : decode cX8_says 284 = .ok (.iaload, 1) := by decide +kernel
theorem dX8_says_285 : decode cX8_says 285 = .ok (.aload_n 0, 1) := by decide +kernel
theorem dX8_says_286 : decode cX8_says 286 = .ok (.getfield 20, 3) := by decide +kernel
theorem dX8_says_289 : decode cX8_says 289 = .ok (.iconst 4, 1) := by decide +kernel
theorem dX8_says_290 : decode cX8_says 290 = .ok (.iaload, 1) := by decide +kernel
theorem dX8_says_291 : decode cX8_says 291 = .ok (.if_icmp .lt 43, 3) := by decide +kernel
theorem dX8_says_294 : decode cX8_says 294 = .ok (.aload_n 0, 1) := by decide +kernel
theorem dX8_says_295 : decode cX8_says 295 = .ok (.getfield 33, 3) := by decide +kernel
theorem dX8_says_298 : decode cX8_says 298 = .ok (.iload 6, 2) := by decide +kernel
theorem dX8_says_300 : decode cX8_says 300 = .ok (.aload_n 0, 1) := by decide +kernel
theorem dX8_says_301 : decode cX8_says 301 = .ok (.getfield 33, 3) := by decide +kernel
theorem dX8_says_304 : decode cX8_says 304 = .ok (.iload 6, 2) := by decide +kernel
theorem dX8_says_306 : decode cX8_says 306 = .ok (.iconst 1, 1) := by decide +kernel
theorem dX8_says_307 : decode cX8_says 307 = .ok (.isub, 1) := by decide +kernel
theorem dX8_says_308 : decode cX8_says 308 = .ok (.iaload, 1) := by decide +kernel
theorem dX8_says_309 : decode cX8_says 309 = .ok (.iastore, 1) := by decide +kernel
theorem dX8_says_310 : decode cX8_says 310 = .ok (.aload_n 0, 1) := by decide +kernel
theorem dX8_says_311 : decode cX8_says 311 = .ok (.getfield 33, 3) := by decide +kernel
theorem dX8_says_314 : decode cX8_says 314 = .ok (.iload 6, 2) := by decide +kernel
theorem dX8_says_316 : decode cX8_says 316 = .ok (.iconst 1, 1) := by decide +kernel
theorem dX8_says_317 : decode cX8_says 317 = .ok (.isub, 1) := by decide +kernel
theorem dX8_says_318 : decode cX8_says 318 = .ok (.iload 5, 2) := by decide +kernel
theorem dX8_says_320 : decode cX8_says 320 = .ok (.iastore, 1) := by decide +kernel
theorem dX8_says_321 : decode cX8_says 321 = .ok (.aload_n 0, 1) := by decide +kernel
theorem dX8_says_322 : decode cX8_says 322 = .ok (.getfield 36, 3) := by decide +kernel
theorem dX8_says_325 : decode cX8_says 325 = .ok (.iconst 1, 1) := by decide +kernel
theorem dX8_says_326 : decode cX8_says 326 = .ok (.dup2, 1) := by decide +kernel
theorem dX8_says_327 : decode cX8_says 327 = .ok (.iaload, 1) := by decide +kernel
theorem dX8_says_328 : decode cX8_says 328 = .ok (.iconst 1, 1) := by decide +kernel
theorem dX8_says_329 : decode cX8_says 329 = .ok (.iload 5, 2) := by decide +kernel
theorem dX8_says_331 : decode cX8_says 331 = .ok (.ishl, 1) := by decide +kernel
theorem dX8_says_332 : decode cX8_says 332 = .ok (.ior, 1) := by decide +kernel
theorem dX8_says_333 : decode cX8_says 333 = .ok (.iastore, 1) := by decide +kernel
theorem dX8_says_334 : decode cX8_says 334 = .ok (.iinc 4 1, 3) := by decide +kernel
theorem dX8_says_337 : decode cX8_says 337 = .ok (.goto (-107), 3) := by decide +kernel
theorem dX8_says_340 : decode cX8_says 340 = .ok (.aload_n 0, 1) := by decide +kernel
theorem dX8_says_341 : decode cX8_says 341 = .ok (.getfield 137, 3) := by decide +kernel
theorem dX8_says_344 : decode cX8_says 344 = .ok (.iconst 1, 1) := by decide +kernel
theorem dX8_says_345 : decode cX8_says 345 = .ok (.isub, 1) := by decide +kernel
theorem dX8_says_346 : decode cX8_says 346 = .ok (.istore 4, 2) := by decide +kernel
theorem dX8_says_348 : decode cX8_says 348 = .ok (.iload 4, 2) := by decide +kernel
theorem dX8_says_350 : decode cX8_says 350 = .ok (.iload_n 3, 1) := by decide +kernel
theorem dX8_says_351 : decode cX8_says 351 = .ok (.if_icmp .lt 29, 3) := by decide +kernel
theorem dX8_says_354 : decode cX8_says 354 = .ok (.aload_n 0, 1) := by decide +kernel
theorem dX8_says_355 : decode cX8_says 355 = .ok (.aload_n 0, 1) := by decide +kernel
theorem dX8_says_356 : decode cX8_says 356 = .ok (.getfield 33, 3) := by decide +kernel
theorem dX8_says_359 : decode cX8_says 359 = .ok (.iload 4, 2) := by decide +kernel
theorem dX8_says_361 : decode cX8_says 361 = .ok (.iaload, 1) := by decide +kernel
theorem dX8_says_362 : decode cX8_says 362 = .ok (.invokevirtual 143, 3) := by decide +kernel
theorem dX8_says_365 : decode cX8_says 365 = .ok (.ifCond .eq 9, 3) := by decide +kernel
theorem dX8_says_368 : decode cX8_says 368 = .ok (.aload_n 0, 1) := by decide +kernel
theorem dX8_says_369 : decode cX8_says 369 = .ok (.iload 4, 2) := by decide +kernel
theorem dX8_says_371 : decode cX8_says 371 = .ok (.invokevirtual 146, 3) := by decide +kernel
theorem dX8_says_374 : decode cX8_says 374 = .ok (.iinc 4 (-1), 3) := by decide +kernel
theorem dX8_says_377 : decode cX8_says 377 = .ok (.goto (-29), 3) := by decide +kernel
theorem dX8_says_380 : decode cX8_says 380 = .ok (.iload_n 2, 1) := by decide +kernel
theorem dX8_says_381 : decode cX8_says 381 = .ok (.bipush (-9), 2) := by decide +kernel
theorem dX8_says_383 : decode cX8_says 383 = .ok (.if_icmp .eq 23, 3) := by decide +kernel
theorem dX8_says_386 : decode cX8_says 386 = .ok (.aload_n 0, 1) := by decide +kernel
theorem dX8_says_387 : decode cX8_says 387 = .ok (.getfield 33, 3) := by decide +kernel
theorem dX8_says_390 : decode cX8_says 390 = .ok (.aload_n 0, 1) := by decide +kernel
theorem dX8_says_391 : decode cX8_says 391 = .ok (.getfield 137, 3) := by decide +kernel
theorem dX8_says_394 : decode cX8_says 394 = .ok (.iload_n 2, 1) := by decide +kernel
theorem dX8_says_395 : decode cX8_says 395 = .ok (.iastore, 1) := by decide +kernel
theorem dX8_says_396 : decode cX8_says 396 = .ok (.aload_n 0, 1) := by decide +kernel
theorem dX8_says_397 : decode cX8_says 397 = .ok (.dup, 1) := by decide +kernel
theorem dX8_says_398 : decode cX8_says 398 = .ok (.getfield 137, 3) := by decide +kernel
theorem dX8_says_401 : decode cX8_says 401 = .ok (.iconst 1, 1) := by decide +kernel
theorem dX8_says_402 : decode cX8_says 402 = .ok (.iadd, 1) := by decide +kernel
theorem dX8_says_403 : decode cX8_says 403 = .ok (.putfield 137, 3) := by decide +kernel
theorem dX8_says_406 : decode cX8_says 406 = .ok (.iconst 1, 1) := by decide +kernel
theorem dX8_says_407 : decode cX8_says 407 = .ok (.istore 4, 2) := by decide +kernel
theorem dX8_says_409 : decode cX8_says 409 = .ok (.iload 4, 2) := by decide +kernel
theorem dX8_says_411 : decode cX8_says 411 = .ok (.ifCond .eq 109, 3) := by decide +kernel
theorem dX8_says_414 : decode cX8_says 414 = .ok (.aload_n 0, 1) := by decide +kernel
theorem dX8_says_415 : decode cX8_says 415 = .ok (.getfield 137, 3) := by decide +kernel
theorem dX8_says_418 : decode cX8_says 418 = .ok (.aload_n 0, 1) := by decide +kernel
theorem dX8_says_419 : decode cX8_says 419 = .ok (.getfield 20, 3) := by decide +kernel
theorem dX8_says_422 : decode cX8_says 422 = .ok (.iconst 0, 1) := by decide +kernel
theorem dX8_says_423 : decode cX8_says 423 = .ok (.iaload, 1) := by decide +kernel
theorem dX8_says_424 : decode cX8_says 424 = .ok (.if_icmp .le 96, 3) := by decide +kernel
theorem dX8_says_427 : decode cX8_says 427 = .ok (.bipush (-9), 2) := by decide +kernel
theorem dX8_says_429 : decode cX8_says 429 = .ok (.istore 5, 2) := by decide +kernel
theorem dX8_says_431 : decode cX8_says 431 = .ok (.iload_n 3, 1) := by decide +kernel
theorem dX8_says_432 : decode cX8_says 432 = .ok (.istore 6, 2) := by decide +kernel
theorem dX8_says_434 : decode cX8_says 434 = .ok (.iload 6, 2) := by decide +kernel
theorem dX8_says_436 : decode cX8_says 436 = .ok (.aload_n 0, 1) := by decide +kernel
theorem dX8_says_437 : decode cX8_says 437 = .ok (.getfield 137, 3) := by decide +kernel
theorem dX8_says_440 : decode cX8_says 440 = .ok (.iconst 1, 1) := by decide +kernel
theorem dX8_says_441 : decode cX8_says 441 = .ok (.isub, 1) := by decide +kernel
theorem dX8_says_442 : decode cX8_says 442 = .ok (.if_icmp .ge 50, 3) := by decide +kernel
theorem dX8_says_445 : decode cX8_says 445 = .ok (.iload 5, 2) := by decide +kernel
theorem dX8_says_447 : decode cX8_says 447 = .ok (.bipush (-9), 2) := by decide +kernel
theorem dX8_says_449 : decode cX8_says 449 = .ok (.if_icmp .eq 28, 3) := by decide +kernel
theorem dX8_says_452 : decode cX8_says 452 = .ok (.aload_n 0, 1) := by decide +kernel
theorem dX8_says_453 : decode cX8_says 453 = .ok (.aload_n 0, 1) := by decide +kernel
theorem dX8_says_454 : decode cX8_says 454 = .ok (.getfield 33, 3) := by decide +kernel
theorem dX8_says_457 : decode cX8_says 457 = .ok (.iload 6, 2) := by decide +kernel
theorem dX8_says_459 : decode cX8_says 459 = .ok (.iaload, 1) := by decide +kernel
theorem dX8_says_460 : decode cX8_says 460 = .ok (.invokevirtual 134, 3) := by decide +kernel
theorem dX8_says_463 : decode cX8_says 463 = .ok (.aload_n 0, 1) := by decide +kernel
theorem dX8_says_464 : decode cX8_says 464 = .ok (.aload_n 0, 1) := by decide +kernel
theorem dX8_says_465 : decode cX8_says 465 = .ok (.getfield 33, 3) := by decide +kernel
theorem dX8_says_468 : decode cX8_says 468 = .ok (.iload 5, 2) := by decide +kernel
theorem dX8_says_470 : decode cX8_says 470 = .ok (.iaload, 1) := by decide +kernel
theorem dX8_says_471 : decode cX8_says 471 = .ok (.invokevirtual 134, 3) := by decide +kernel
theorem dX8_says_474 : decode cX8_says 474 = .ok (.if_icmp .ge 8, 3) := by decide +kernel
theorem dX8_says_477 : decode cX8_says 477 = .ok (.iload 6, 2) := by decide +kernel
theorem dX8_says_479 : decode cX8_says 479 = .ok (.goto 5, 3) := by decide +kernel
theorem dX8_says_482 : decode cX8_says 482 = .ok (.iload 5, 2) := by decide +kernel
theorem dX8_says_484 : decode cX8_says 484 = .ok (.istore 5, 2) := by decide +kernel
theorem dX8_says_486 : decode cX8_says 486 = .ok (.iinc 6 1, 3) := by decide +kernel
theorem dX8_says_489 : decode cX8_says 489 = .ok (.goto (-55), 3) := by decide +kernel
theorem dX8_says_492 : decode cX8_says 492 = .ok (.iload 5, 2) := by decide +kernel
theorem dX8_says_494 : decode cX8_says 494 = .ok (.bipush (-9), 2) := by decide +kernel
theorem dX8_says_496 : decode cX8_says 496 = .ok (.if_icmp .eq 7, 3) := by decide +kernel
theorem dX8_says_499 : decode cX8_says 499 = .ok (.iconst 1, 1) := by decide +kernel
theorem dX8_says_500 : decode cX8_says 500 = .ok (.goto 4, 3) := by decide +kernel
theorem dX8_says_503 : decode cX8_says 503 = .ok (.iconst 0, 1) := by decide +kernel
theorem dX8_says_504 : decode cX8_says 504 = .ok (.istore 4, 2) := by decide +kernel
theorem dX8_says_506 : decode cX8_says 506 = .ok (.iload 4, 2) := by decide +kernel
theorem dX8_says_508 : decode cX8_says 508 = .ok (.ifCond .eq 9, 3) := by decide +kernel
theorem dX8_says_511 : decode cX8_says 511 = .ok (.aload_n 0, 1) := by decide +kernel
theorem dX8_says_512 : decode cX8_says 512 = .ok (.iload 5, 2) := by decide +kernel
theorem dX8_says_514 : decode cX8_says 514 = .ok (.invokevirtual 146, 3) := by decide +kernel
theorem dX8_says_517 : decode cX8_says 517 = .ok (.goto (-108), 3) := by decide +kernel
theorem dX8_says_520 : decode cX8_says 520 = .ok (.return_, 1) := by decide +kernel
theorem dX8_say_0 : decode cX8_say 0 = .ok (.aload_n 0, 1) := by decide +kernel
theorem dX8_say_1 : decode cX8_say 1 = .ok (.iconst 0, 1) := by decide +kernel
theorem dX8_say_2 : decode cX8_say 2 = .ok (.putfield 61, 3) := by decide +kernel
theorem dX8_say_5 : decode cX8_say 5 = .ok (.iload_n 1, 1) := by decide +kernel
theorem dX8_say_6 : decode cX8_say 6 = .ok (.invokestatic 124, 3) := by decide +kernel
theorem dX8_say_9 : decode cX8_say 9 = .ok (.ifCond .eq 16, 3) := by decide +kernel
theorem dX8_say_12 : decode cX8_say 12 = .ok (.iload_n 2, 1) := by decide +kernel
theorem dX8_say_13 : decode cX8_say 13 = .ok (.bipush (-9), 2) := by decide +kernel
theorem dX8_say_15 : decode cX8_say 15 = .ok (.if_icmp .eq 12, 3) := by decide +kernel
theorem dX8_say_18 : decode cX8_say 18 = .ok (.iload_n 2, 1) := by decide +kernel
theorem dX8_say_19 : decode cX8_say 19 = .ok (.invokestatic 128, 3) := by decide +kernel
theorem dX8_say_22 : decode cX8_say 22 = .ok (.ifCond .ne 5, 3) := by decide +kernel
theorem dX8_say_25 : decode cX8_say 25 = .ok (.iconst (-1), 1) := by decide +kernel
theorem dX8_say_26 : decode cX8_say 26 = .ok (.ireturn, 1) := by decide +kernel
theorem dX8_say_27 : decode cX8_say 27 = .ok (.iload_n 2, 1) := by decide +kernel
theorem dX8_say_28 : decode cX8_say 28 = .ok (.bipush (-9), 2) := by decide +kernel
theorem dX8_say_30 : decode cX8_say 30 = .ok (.if_icmp .eq 17, 3) := by decide +kernel
theorem dX8_say_33 : decode cX8_say 33 = .ok (.aload_n 0, 1) := by decide +kernel
theorem dX8_say_34 : decode cX8_say 34 = .ok (.iload_n 1, 1) := by decide +kernel
theorem dX8_say_35 : decode cX8_say 35 = .ok (.iload_n 2, 1) := by decide +kernel
theorem dX8_say_36 : decode cX8_say 36 = .ok (.invokevirtual 131, 3) := by decide +kernel
theorem dX8_say_39 : decode cX8_say 39 = .ok (.bipush (-9), 2) := by decide +kernel
theorem dX8_say_41 : decode cX8_say 41 = .ok (.if_icmp .eq 6, 3) := by decide +kernel
theorem dX8_say_44 : decode cX8_say 44 = .ok (.bipush (-2), 2) := by decide +kernel
theorem dX8_say_46 : decode cX8_say 46 = .ok (.ireturn, 1) := by decide +kernel
theorem dX8_say_47 : decode cX8_say 47 = .ok (.aload_n 0, 1) := by decide +kernel
theorem dX8_say_48 : decode cX8_say 48 = .ok (.iload_n 1, 1) := by decide +kernel
theorem dX8_say_49 : decode cX8_say 49 = .ok (.iload_n 2, 1) := by decide +kernel
theorem dX8_say_50 : decode cX8_say 50 = .ok (.invokevirtual 150, 3) := by decide +kernel
theorem dX8_say_53 : decode cX8_say 53 = .ok (.aload_n 0, 1) := by decide +kernel
theorem dX8_say_54 : decode cX8_say 54 = .ok (.getfield 7, 3) := by decide +kernel
theorem dX8_say_57 : decode cX8_say 57 = .ok (.bipush 13, 2) := by decide +kernel
theorem dX8_say_59 : decode cX8_say 59 = .ok (.iload_n 1, 1) := by decide +kernel
theorem dX8_say_60 : decode cX8_say 60 = .ok (.imul, 1) := by decide +kernel
theorem dX8_say_61 : decode cX8_say 61 = .ok (.aload_n 0, 1) := by decide +kernel
theorem dX8_say_62 : decode cX8_say 62 = .ok (.getfield 137, 3) := by decide +kernel
theorem dX8_say_65 : decode cX8_say 65 = .ok (.iastore, 1) := by decide +kernel
theorem dX8_say_66 : decode cX8_say 66 = .ok (.iconst 0, 1) := by decide +kernel
theorem dX8_say_67 : decode cX8_say 67 = .ok (.istore_n 3, 1) := by decide +kernel
theorem dX8_say_68 : decode cX8_say 68 = .ok (.iload_n 3, 1) := by decide +kernel
theorem dX8_say_69 : decode cX8_say 69 = .ok (.aload_n 0, 1) := by decide +kernel
theorem dX8_say_70 : decode cX8_say 70 = .ok (.getfield 137, 3) := by decide +kernel
theorem dX8_say_73 : decode cX8_say 73 = .ok (.if_icmp .ge 28, 3) := by decide +kernel
theorem dX8_say_76 : decode cX8_say 76 = .ok (.aload_n 0, 1) := by decide +kernel
theorem dX8_say_77 : decode cX8_say 77 = .ok (.getfield 7, 3) := by decide +kernel
theorem dX8_say_80 : decode cX8_say 80 = .ok (.bipush 13, 2) := by decide +kernel
theorem dX8_say_82 : decode cX8_say 82 = .ok (.iload_n 1, 1) := by decide +kernel
theorem dX8_say_83 : decode cX8_say 83 = .ok (.imul, 1) := by decide +kernel
theorem dX8_say_84 : decode cX8_say 84 = .ok (.iconst 1, 1) := by decide +kernel
theorem dX8_say_85 : decode cX8_say 85 = .ok (.iadd, 1) := by decide +kernel
theorem dX8_say_86 : decode cX8_say 86 = .ok (.iload_n 3, 1) := by decide +kernel
theorem dX8_say_87 : decode cX8_say 87 = .ok (.iadd, 1) := by decide +kernel
theorem dX8_say_88 : decode cX8_say 88 = .ok (.aload_n 0, 1) := by decide +kernel
theorem dX8_say_89 : decode cX8_say 89 = .ok (.getfield 33, 3) := by decide +kernel
theorem dX8_say_92 : decode cX8_say 92 = .ok (.iload_n 3, 1) := by decide +kernel
theorem dX8_say_93 : decode cX8_say 93 = .ok (.iaload, 1) := by decide +kernel
theorem dX8_say_94 : decode cX8_say 94 = .ok (.iastore, 1) := by decide +kernel
theorem dX8_say_95 : decode cX8_say 95 = .ok (.iinc 3 1, 3) := by decide +kernel
theorem dX8_say_98 : decode cX8_say 98 = .ok (.goto (-30), 3) := by decide +kernel
theorem dX8_say_101 : decode cX8_say 101 = .ok (.iconst 0, 1) := by decide +kernel
theorem dX8_say_102 : decode cX8_say 102 = .ok (.istore_n 3, 1) := by decide +kernel
theorem dX8_say_103 : decode cX8_say 103 = .ok (.iload_n 3, 1) := by decide +kernel
theorem dX8_say_104 : decode cX8_say 104 = .ok (.iconst 3, 1) := by decide +kernel
theorem dX8_say_105 : decode cX8_say 105 = .ok (.if_icmp .ge 21, 3) := by decide +kernel
theorem dX8_say_108 : decode cX8_say 108 = .ok (.aload_n 0, 1) := by decide +kernel
theorem dX8_say_109 : decode cX8_say 109 = .ok (.getfield 39, 3) := by decide +kernel
theorem dX8_say_112 : decode cX8_say 112 = .ok (.iload_n 3, 1) := by decide +kernel
theorem dX8_say_113 : decode cX8_say 113 = .ok (.aload_n 0, 1) := by decide +kernel
theorem dX8_say_114 : decode cX8_say 114 = .ok (.getfield 36, 3) := by decide +kernel
theorem dX8_say_117 : decode cX8_say 117 = .ok (.iload_n 3, 1) := by decide +kernel
theorem dX8_say_118 : decode cX8_say 118 = .ok (.iaload, 1) := by decide +kernel
theorem dX8_say_119 : decode cX8_say 119 = .ok (.iastore, 1) := by decide +kernel
theorem dX8_say_120 : decode cX8_say 120 = .ok (.iinc 3 1, 3) := by decide +kernel
theorem dX8_say_123 : decode cX8_say 123 = .ok (.goto (-20), 3) := by decide +kernel
theorem dX8_say_126 : decode cX8_say 126 = .ok (.aload_n 0, 1) := by decide +kernel
theorem dX8_say_127 : decode cX8_say 127 = .ok (.getfield 137, 3) := by decide +kernel
theorem dX8_say_130 : decode cX8_say 130 = .ok (.ireturn, 1) := by decide +kernel
theorem dX8_said_0 : decode cX8_said 0 = .ok (.aload_n 0, 1) := by decide +kernel
theorem dX8_said_1 : decode cX8_said 1 = .ok (.iconst 0, 1) := by decide +kernel
theorem dX8_said_2 : decode cX8_said 2 = .ok (.putfield 61, 3) := by decide +kernel
theorem dX8_said_5 : decode cX8_said 5 = .ok (.iload_n 1, 1) := by decide +kernel
theorem dX8_said_6 : decode cX8_said 6 = .ok (.iconst 0, 1) := by decide +kernel
theorem dX8_said_7 : decode cX8_said 7 = .ok (.iconst 2, 1) := by decide +kernel
theorem dX8_said_8 : decode cX8_said 8 = .ok (.invokestatic 64, 3) := by decide +kernel
theorem dX8_said_11 : decode cX8_said 11 = .ok (.ifCond .eq 12, 3) := by decide +kernel
theorem dX8_said_14 : decode cX8_said 14 = .ok (.aload_n 0, 1) := by decide +kernel
theorem dX8_said_15 : decode cX8_said 15 = .ok (.getfield 39, 3) := by decide +kernel
theorem dX8_said_18 : decode cX8_said 18 = .ok (.iload_n 1, 1) := by decide +kernel
theorem dX8_said_19 : decode cX8_said 19 = .ok (.iaload, 1) := by decide +kernel
theorem dX8_said_20 : decode cX8_said 20 = .ok (.goto 4, 3) := by decide +kernel
theorem dX8_said_23 : decode cX8_said 23 = .ok (.iconst (-1), 1) := by decide +kernel
theorem dX8_said_24 : decode cX8_said 24 = .ok (.ireturn, 1) := by decide +kernel
theorem dX8_foretold_0 : decode cX8_foretold 0 = .ok (.aload_n 0, 1) := by decide +kernel
theorem dX8_foretold_1 : decode cX8_foretold 1 = .ok (.iconst 0, 1) := by decide +kernel
theorem dX8_foretold_2 : decode cX8_foretold 2 = .ok (.putfield 61, 3) := by decide +kernel
theorem dX8_foretold_5 : decode cX8_foretold 5 = .ok (.iload_n 1, 1) := by decide +kernel
theorem dX8_foretold_6 : decode cX8_foretold 6 = .ok (.invokestatic 124, 3) := by decide +kernel
theorem dX8_foretold_9 : decode cX8_foretold 9 = .ok (.ifCond .eq 32, 3) := by decide +kernel
theorem dX8_foretold_12 : decode cX8_foretold 12 = .ok (.iload_n 2, 1) := by decide +kernel
theorem dX8_foretold_13 : decode cX8_foretold 13 = .ok (.iconst 0, 1) := by decide +kernel
theorem dX8_foretold_14 : decode cX8_foretold 14 = .ok (.iconst 5, 1) := by decide +kernel
theorem dX8_foretold_15 : decode cX8_foretold 15 = .ok (.invokestatic 64, 3) := by decide +kernel
theorem dX8_foretold_18 : decode cX8_foretold 18 = .ok (.ifCond .eq 23, 3) := by decide +kernel
theorem dX8_foretold_21 : decode cX8_foretold 21 = .ok (.iload_n 3, 1) := by decide +kernel
theorem dX8_foretold_22 : decode cX8_foretold 22 = .ok (.iconst 0, 1) := by decide +kernel
theorem dX8_foretold_23 : decode cX8_foretold 23 = .ok (.bipush 99, 2) := by decide +kernel
theorem dX8_foretold_25 : decode cX8_foretold 25 = .ok (.invokestatic 64, 3) := by decide +kernel
theorem dX8_foretold_28 : decode cX8_foretold 28 = .ok (.ifCond .eq 13, 3) := by decide +kernel
theorem dX8_foretold_31 : decode cX8_foretold 31 = .ok (.iload 4, 2) := by decide +kernel
theorem dX8_foretold_33 : decode cX8_foretold 33 = .ok (.iconst 0, 1) := by decide +kernel
theorem dX8_foretold_34 : decode cX8_foretold 34 = .ok (.iconst 2, 1) := by decide +kernel
theorem dX8_foretold_35 : decode cX8_foretold 35 = .ok (.invokestatic 64, 3) := by decide +kernel
theorem dX8_foretold_38 : decode cX8_foretold 38 = .ok (.ifCond .ne 5, 3) := by decide +kernel
theorem dX8_foretold_41 : decode cX8_foretold 41 = .ok (.iconst (-1), 1) := by decide +kernel
theorem dX8_foretold_42 : decode cX8_foretold 42 = .ok (.ireturn, 1) := by decide +kernel
theorem dX8_foretold_43 : decode cX8_foretold 43 = .ok (.aload_n 0, 1) := by decide +kernel
theorem dX8_foretold_44 : decode cX8_foretold 44 = .ok (.getfield 7, 3) := by decide +kernel
theorem dX8_foretold_47 : decode cX8_foretold 47 = .ok (.bipush 52, 2) := by decide +kernel
theorem dX8_foretold_49 : decode cX8_foretold 49 = .ok (.iload_n 2, 1) := by decide +kernel
theorem dX8_foretold_50 : decode cX8_foretold 50 = .ok (.iadd, 1) := by decide +kernel
theorem dX8_foretold_51 : decode cX8_foretold 51 = .ok (.iaload, 1) := by decide +kernel
theorem dX8_foretold_52 : decode cX8_foretold 52 = .ok (.istore 5, 2) := by decide +kernel
theorem dX8_foretold_54 : decode cX8_foretold 54 = .ok (.aload_n 0, 1) := by decide +kernel
theorem dX8_foretold_55 : decode cX8_foretold 55 = .ok (.getfield 7, 3) := by decide +kernel
theorem dX8_foretold_58 : decode cX8_foretold 58 = .ok (.bipush 52, 2) := by decide +kernel
theorem dX8_foretold_60 : decode cX8_foretold 60 = .ok (.iload_n 2, 1) := by decide +kernel
theorem dX8_foretold_61 : decode cX8_foretold 61 = .ok (.iadd, 1) := by decide +kernel
theorem dX8_foretold_62 : decode cX8_foretold 62 = .ok (.iload_n 3, 1) := by decide +kernel
theorem dX8_foretold_63 : decode cX8_foretold 63 = .ok (.iastore, 1) := by decide +kernel
theorem dX8_foretold_64 : decode cX8_foretold 64 = .ok (.aload_n 0, 1) := by decide +kernel
theorem dX8_foretold_65 : decode cX8_foretold 65 = .ok (.iload_n 1, 1) := by decide +kernel
theorem dX8_foretold_66 : decode cX8_foretold 66 = .ok (.bipush (-9), 2) := by decide +kernel
theorem dX8_foretold_68 : decode cX8_foretold 68 = .ok (.invokevirtual 150, 3) := by decide +kernel
theorem dX8_foretold_71 : decode cX8_foretold 71 = .ok (.aload_n 0, 1) := by decide +kernel
theorem dX8_foretold_72 : decode cX8_foretold 72 = .ok (.getfield 7, 3) := by decide +kernel
theorem dX8_foretold_75 : decode cX8_foretold 75 = .ok (.bipush 52, 2) := by decide +kernel
theorem dX8_foretold_77 : decode cX8_foretold 77 = .ok (.iload_n 2, 1) := by decide +kernel
theorem dX8_foretold_78 : decode cX8_foretold 78 = .ok (.iadd, 1) := by decide +kernel
theorem dX8_foretold_79 : decode cX8_foretold 79 = .ok (.iload 5, 2) := by decide +kernel
theorem dX8_foretold_81 : decode cX8_foretold 81 = .ok (.iastore, 1) := by decide +kernel
theorem dX8_foretold_82 : decode cX8_foretold 82 = .ok (.aload_n 0, 1) := by decide +kernel
theorem dX8_foretold_83 : decode cX8_foretold 83 = .ok (.getfield 36, 3) := by decide +kernel
theorem dX8_foretold_86 : decode cX8_foretold 86 = .ok (.iload 4, 2) := by decide +kernel
theorem dX8_foretold_88 : decode cX8_foretold 88 = .ok (.iaload, 1) := by decide +kernel
theorem dX8_foretold_89 : decode cX8_foretold 89 = .ok (.ireturn, 1) := by decide +kernel
theorem dX8_setOf_0 : decode cX8_setOf 0 = .ok (.iconst 0, 1) := by decide +kernel
theorem dX8_setOf_1 : decode cX8_setOf 1 = .ok (.istore_n 2, 1) := by decide +kernel
theorem dX8_setOf_2 : decode cX8_setOf 2 = .ok (.iconst 0, 1) := by decide +kernel
theorem dX8_setOf_3 : decode cX8_setOf 3 = .ok (.istore_n 3, 1) := by decide +kernel
theorem dX8_setOf_4 : decode cX8_setOf 4 = .ok (.iload_n 3, 1) := by decide +kernel
theorem dX8_setOf_5 : decode cX8_setOf 5 = .ok (.aload_n 0, 1) := by decide +kernel
theorem dX8_setOf_6 : decode cX8_setOf 6 = .ok (.iload_n 1, 1) := by decide +kernel
theorem dX8_setOf_7 : decode cX8_setOf 7 = .ok (.invokevirtual 68, 3) := by decide +kernel
theorem dX8_setOf_10 : decode cX8_setOf 10 = .ok (.if_icmp .ge 20, 3) := by decide +kernel
theorem dX8_setOf_13 : decode cX8_setOf 13 = .ok (.iload_n 2, 1) := by decide +kernel
theorem dX8_setOf_14 : decode cX8_setOf 14 = .ok (.iconst 1, 1) := by decide +kernel
theorem dX8_setOf_15 : decode cX8_setOf 15 = .ok (.aload_n 0, 1) := by decide +kernel
theorem dX8_setOf_16 : decode cX8_setOf 16 = .ok (.iload_n 1, 1) := by decide +kernel
theorem dX8_setOf_17 : decode cX8_setOf 17 = .ok (.iload_n 3, 1) := by decide +kernel
theorem dX8_setOf_18 : decode cX8_setOf 18 = .ok (.invokevirtual 72, 3) := by decide +kernel
theorem dX8_setOf_21 : decode cX8_setOf 21 = .ok (.ishl, 1) := by decide +kernel
theorem dX8_setOf_22 : decode cX8_setOf 22 = .ok (.ior, 1) := by decide +kernel
theorem dX8_setOf_23 : decode cX8_setOf 23 = .ok (.istore_n 2, 1) := by decide +kernel
theorem dX8_setOf_24 : decode cX8_setOf 24 = .ok (.iinc 3 1, 3) := by decide +kernel
theorem dX8_setOf_27 : decode cX8_setOf 27 = .ok (.goto (-23), 3) := by decide +kernel
theorem dX8_setOf_30 : decode cX8_setOf 30 = .ok (.iload_n 2, 1) := by decide +kernel
theorem dX8_setOf_31 : decode cX8_setOf 31 = .ok (.ireturn, 1) := by decide +kernel
theorem dX8_ones_0 : decode cX8_ones 0 = .ok (.iconst 0, 1) := by decide +kernel
theorem dX8_ones_1 : decode cX8_ones 1 = .ok (.istore_n 1, 1) := by decide +kernel
theorem dX8_ones_2 : decode cX8_ones 2 = .ok (.iconst 0, 1) := by decide +kernel
theorem dX8_ones_3 : decode cX8_ones 3 = .ok (.istore_n 2, 1) := by decide +kernel
theorem dX8_ones_4 : decode cX8_ones 4 = .ok (.iload_n 2, 1) := by decide +kernel
theorem dX8_ones_5 : decode cX8_ones 5 = .ok (.bipush 26, 2) := by decide +kernel
theorem dX8_ones_7 : decode cX8_ones 7 = .ok (.if_icmp .ge 17, 3) := by decide +kernel
theorem dX8_ones_10 : decode cX8_ones 10 = .ok (.iload_n 1, 1) := by decide +kernel
theorem dX8_ones_11 : decode cX8_ones 11 = .ok (.iload_n 0, 1) := by decide +kernel
theorem dX8_ones_12 : decode cX8_ones 12 = .ok (.iload_n 2, 1) := by decide +kernel
theorem dX8_ones_13 : decode cX8_ones 13 = .ok (.ishr, 1) := by decide +kernel
theorem dX8_ones_14 : decode cX8_ones 14 = .ok (.iconst 1, 1) := by decide +kernel
theorem dX8_ones_15 : decode cX8_ones 15 = .ok (.iand, 1) := by decide +kernel
theorem dX8_ones_16 : decode cX8_ones 16 = .ok (.iadd, 1) := by decide +kernel
theorem dX8_ones_17 : decode cX8_ones 17 = .ok (.istore_n 1, 1) := by decide +kernel
theorem dX8_ones_18 : decode cX8_ones 18 = .ok (.iinc 2 1, 3) := by decide +kernel
theorem dX8_ones_21 : decode cX8_ones 21 = .ok (.goto (-17), 3) := by decide +kernel
theorem dX8_ones_24 : decode cX8_ones 24 = .ok (.iload_n 1, 1) := by decide +kernel
theorem dX8_ones_25 : decode cX8_ones 25 = .ok (.ireturn, 1) := by decide +kernel
theorem dX8_longest_0 : decode cX8_longest 0 = .ok (.iconst 0, 1) := by decide +kernel
theorem dX8_longest_1 : decode cX8_longest 1 = .ok (.istore_n 3, 1) := by decide +kernel
theorem dX8_longest_2 : decode cX8_longest 2 = .ok (.iload_n 3, 1) := by decide +kernel
theorem dX8_longest_3 : decode cX8_longest 3 = .ok (.sipush 169, 3) := by decide +kernel
theorem dX8_longest_6 : decode cX8_longest 6 = .ok (.if_icmp .ge 16, 3) := by decide +kernel
theorem dX8_longest_9 : decode cX8_longest 9 = .ok (.aload_n 0, 1) := by decide +kernel
theorem dX8_longest_10 : decode cX8_longest 10 = .ok (.getfield 52, 3) := by decide +kernel
theorem dX8_longest_13 : decode cX8_longest 13 = .ok (.iload_n 3, 1) := by decide +kernel
theorem dX8_longest_14 : decode cX8_longest 14 = .ok (.iconst 0, 1) := by decide +kernel
theorem dX8_longest_15 : decode cX8_longest 15 = .ok (.iastore, 1) := by decide +kernel
theorem dX8_longest_16 : decode cX8_longest 16 = .ok (.iinc 3 1, 3) := by decide +kernel
theorem dX8_longest_19 : decode cX8_longest 19 = .ok (.goto (-17), 3) := by decide +kernel
theorem dX8_longest_22 : decode cX8_longest 22 = .ok (.iconst 1, 1) := by decide +kernel
theorem dX8_longest_23 : decode cX8_longest 23 = .ok (.istore_n 3, 1) := by decide +kernel
theorem dX8_longest_24 : decode cX8_longest 24 = .ok (.iload_n 3, 1) := by decide +kernel
theorem dX8_longest_25 : decode cX8_longest 25 = .ok (.aload_n 0, 1) := by decide +kernel
theorem dX8_longest_26 : decode cX8_longest 26 = .ok (.iload_n 1, 1) := by decide +kernel
theorem dX8_longest_27 : decode cX8_longest 27 = .ok (.invokevirtual 68, 3) := by decide +kernel
theorem dX8_longest_30 : decode cX8_longest 30 = .ok (.if_icmp .gt 147, 3) := by decide +kernel
theorem dX8_longest_33 : decode cX8_longest 33 = .ok (.iconst 1, 1) := by decide +kernel
theorem dX8_longest_34 : decode cX8_longest 34 = .ok (.istore 4, 2) := by decide +kernel
theorem dX8_longest_36 : decode cX8_longest 36 = .ok (.iload 4, 2) := by decide +kernel
theorem dX8_longest_38 : decode cX8_longest 38 = .ok (.aload_n 0, 1) := by decide +kernel
theorem dX8_longest_39 : decode cX8_longest 39 = .ok (.iload_n 2, 1) := by decide +kernel
theorem dX8_longest_40 : decode cX8_longest 40 = .ok (.invokevirtual 68, 3) := by decide +kernel
theorem dX8_longest_43 : decode cX8_longest 43 = .ok (.if_icmp .gt 128, 3) := by decide +kernel
theorem dX8_longest_46 : decode cX8_longest 46 = .ok (.aload_n 0, 1) := by decide +kernel
theorem dX8_longest_47 : decode cX8_longest 47 = .ok (.getfield 52, 3) := by decide +kernel
theorem dX8_longest_50 : decode cX8_longest 50 = .ok (.bipush 13, 2) := by decide +kernel
theorem dX8_longest_52 : decode cX8_longest 52 = .ok (.iload_n 3, 1) := by decide +kernel
theorem dX8_longest_53 : decode cX8_longest 53 = .ok (.iconst 1, 1) := by decide +kernel
theorem dX8_longest_54 : decode cX8_longest 54 = .ok (.isub, 1) := by decide +kernel
theorem dX8_longest_55 : decode cX8_longest 55 = .ok (.imul, 1) := by decide +kernel
theorem dX8_longest_56 : decode cX8_longest 56 = .ok (.iload 4, 2) := by decide +kernel
theorem dX8_longest_58 : decode cX8_longest 58 = .ok (.iadd, 1) := by decide +kernel
theorem dX8_longest_59 : decode cX8_longest 59 = .ok (.iaload, 1) := by decide +kernel
theorem dX8_longest_60 : decode cX8_longest 60 = .ok (.aload_n 0, 1) := by decide +kernel
theorem dX8_longest_61 : decode cX8_longest 61 = .ok (.getfield 52, 3) := by decide +kernel
theorem dX8_longest_64 : decode cX8_longest 64 = .ok (.bipush 13, 2) := by decide +kernel
theorem dX8_longest_66 : decode cX8_longest 66 = .ok (.iload_n 3, 1) := by decide +kernel
theorem dX8_longest_67 : decode cX8_longest 67 = .ok (.imul, 1) := by decide +kernel
theorem dX8_longest_68 : decode cX8_longest 68 = .ok (.iload 4, 2) := by decide +kernel
theorem dX8_longest_70 : decode cX8_longest 70 = .ok (.iadd, 1) := by decide +kernel
theorem dX8_longest_71 : decode cX8_longest 71 = .ok (.iconst 1, 1) := by decide +kernel
theorem dX8_longest_72 : decode cX8_longest 72 = .ok (.isub, 1) := by decide +kernel
theorem dX8_longest_73 : decode cX8_longest 73 = .ok (.iaload, 1) := by decide +kernel
theorem dX8_longest_74 : decode cX8_longest 74 = .ok (.if_icmp .le 20, 3) := by decide +kernel
theorem dX8_longest_77 : decode cX8_longest 77 = .ok (.aload_n 0, 1) := by decide +kernel
theorem dX8_longest_78 : decode cX8_longest 78 = .ok (.getfield 52, 3) := by decide +kernel
theorem dX8_longest_81 : decode cX8_longest 81 = .ok (.bipush 13, 2) := by decide +kernel
theorem dX8_longest_83 : decode cX8_longest 83 = .ok (.iload_n 3, 1) := by decide +kernel
theorem dX8_longest_84 : decode cX8_longest 84 = .ok (.iconst 1, 1) := by decide +kernel
theorem dX8_longest_85 : decode cX8_longest 85 = .ok (.isub, 1) := by decide +kernel
theorem dX8_longest_86 : decode cX8_longest 86 = .ok (.imul, 1) := by decide +kernel
theorem dX8_longest_87 : decode cX8_longest 87 = .ok (.iload 4, 2) := by decide +kernel
theorem dX8_longest_89 : decode cX8_longest 89 = .ok (.iadd, 1) := by decide +kernel
theorem dX8_longest_90 : decode cX8_longest 90 = .ok (.iaload, 1) := by decide +kernel
theorem dX8_longest_91 : decode cX8_longest 91 = .ok (.goto 17, 3) := by decide +kernel
theorem dX8_longest_94 : decode cX8_longest 94 = .ok (.aload_n 0, 1) := by decide +kernel
theorem dX8_longest_95 : decode cX8_longest 95 = .ok (.getfield 52, 3) := by decide +kernel
theorem dX8_longest_98 : decode cX8_longest 98 = .ok (.bipush 13, 2) := by decide +kernel
theorem dX8_longest_100 : decode cX8_longest 100 = .ok (.iload_n 3, 1) := by decide +kernel
theorem dX8_longest_101 : decode cX8_longest 101 = .ok (.imul, 1) := by decide +kernel
theorem dX8_longest_102 : decode cX8_longest 102 = .ok (.iload 4, 2) := by decide +kernel
theorem dX8_longest_104 : decode cX8_longest 104 = .ok (.iadd, 1) := by decide +kernel
theorem dX8_longest_105 : decode cX8_longest 105 = .ok (.iconst 1, 1) := by decide +kernel
theorem dX8_longest_106 : decode cX8_longest 106 = .ok (.isub, 1) := by decide +kernel
theorem dX8_longest_107 : decode cX8_longest 107 = .ok (.iaload, 1) := by decide +kernel
theorem dX8_longest_108 : decode cX8_longest 108 = .ok (.istore 5, 2) := by decide +kernel
theorem dX8_longest_110 : decode cX8_longest 110 = .ok (.aload_n 0, 1) := by decide +kernel
theorem dX8_longest_111 : decode cX8_longest 111 = .ok (.getfield 52, 3) := by decide +kernel
theorem dX8_longest_114 : decode cX8_longest 114 = .ok (.bipush 13, 2) := by decide +kernel
theorem dX8_longest_116 : decode cX8_longest 116 = .ok (.iload_n 3, 1) := by decide +kernel
theorem dX8_longest_117 : decode cX8_longest 117 = .ok (.imul, 1) := by decide +kernel
theorem dX8_longest_118 : decode cX8_longest 118 = .ok (.iload 4, 2) := by decide +kernel
theorem dX8_longest_120 : decode cX8_longest 120 = .ok (.iadd, 1) := by decide +kernel
theorem dX8_longest_121 : decode cX8_longest 121 = .ok (.aload_n 0, 1) := by decide +kernel
theorem dX8_longest_122 : decode cX8_longest 122 = .ok (.iload_n 1, 1) := by decide +kernel
theorem dX8_longest_123 : decode cX8_longest 123 = .ok (.iload_n 3, 1) := by decide +kernel
theorem dX8_longest_124 : decode cX8_longest 124 = .ok (.iconst 1, 1) := by decide +kernel
theorem dX8_longest_125 : decode cX8_longest 125 = .ok (.isub, 1) := by decide +kernel
theorem dX8_longest_126 : decode cX8_longest 126 = .ok (.invokevirtual 72, 3) := by decide +kernel
theorem dX8_longest_129 : decode cX8_longest 129 = .ok (.aload_n 0, 1) := by decide +kernel
theorem dX8_longest_130 : decode cX8_longest 130 = .ok (.iload_n 2, 1) := by decide +kernel
theorem dX8_longest_131 : decode cX8_longest 131 = .ok (.iload 4, 2) := by decide +kernel
theorem dX8_longest_133 : decode cX8_longest 133 = .ok (.iconst 1, 1) := by decide +kernel
theorem dX8_longest_134 : decode cX8_longest 134 = .ok (.isub, 1) := by decide +kernel
theorem dX8_longest_135 : decode cX8_longest 135 = .ok (.invokevirtual 72, 3) := by decide +kernel
theorem dX8_longest_138 : decode cX8_longest 138 = .ok (.if_icmp .ne 24, 3) := by decide +kernel
theorem dX8_longest_141 : decode cX8_longest 141 = .ok (.aload_n 0, 1) := by decide +kernel
theorem dX8_longest_142 : decode cX8_longest 142 = .ok (.getfield 52, 3) := by decide +kernel
theorem dX8_longest_145 : decode cX8_longest 145 = .ok (.bipush 13, 2) := by decide +kernel
theorem dX8_longest_147 : decode cX8_longest 147 = .ok (.iload_n 3, 1) := by decide +kernel
theorem dX8_longest_148 : decode cX8_longest 148 = .ok (.iconst 1, 1) := by decide +kernel
theorem dX8_longest_149 : decode cX8_longest 149 = .ok (.isub, 1) := by decide +kernel
theorem dX8_longest_150 : decode cX8_longest 150 = .ok (.imul, 1) := by decide +kernel
theorem dX8_longest_151 : decode cX8_longest 151 = .ok (.iload 4, 2) := by decide +kernel
theorem dX8_longest_153 : decode cX8_longest 153 = .ok (.iadd, 1) := by decide +kernel
theorem dX8_longest_154 : decode cX8_longest 154 = .ok (.iconst 1, 1) := by decide +kernel
theorem dX8_longest_155 : decode cX8_longest 155 = .ok (.isub, 1) := by decide +kernel
theorem dX8_longest_156 : decode cX8_longest 156 = .ok (.iaload, 1) := by decide +kernel
theorem dX8_longest_157 : decode cX8_longest 157 = .ok (.iconst 1, 1) := by decide +kernel
theorem dX8_longest_158 : decode cX8_longest 158 = .ok (.iadd, 1) := by decide +kernel
theorem dX8_longest_159 : decode cX8_longest 159 = .ok (.goto 5, 3) := by decide +kernel
theorem dX8_longest_162 : decode cX8_longest 162 = .ok (.iload 5, 2) := by decide +kernel
theorem dX8_longest_164 : decode cX8_longest 164 = .ok (.iastore, 1) := by decide +kernel
theorem dX8_longest_165 : decode cX8_longest 165 = .ok (.iinc 4 1, 3) := by decide +kernel
theorem dX8_longest_168 : decode cX8_longest 168 = .ok (.goto (-132), 3) := by decide +kernel
theorem dX8_longest_171 : decode cX8_longest 171 = .ok (.iinc 3 1, 3) := by decide +kernel
theorem dX8_longest_174 : decode cX8_longest 174 = .ok (.goto (-150), 3) := by decide +kernel
theorem dX8_longest_177 : decode cX8_longest 177 = .ok (.aload_n 0, 1) := by decide +kernel
theorem dX8_longest_178 : decode cX8_longest 178 = .ok (.getfield 52, 3) := by decide +kernel
theorem dX8_longest_181 : decode cX8_longest 181 = .ok (.bipush 13, 2) := by decide +kernel
theorem dX8_longest_183 : decode cX8_longest 183 = .ok (.aload_n 0, 1) := by decide +kernel
theorem dX8_longest_184 : decode cX8_longest 184 = .ok (.iload_n 1, 1) := by decide +kernel
theorem dX8_longest_185 : decode cX8_longest 185 = .ok (.invokevirtual 68, 3) := by decide +kernel
theorem dX8_longest_188 : decode cX8_longest 188 = .ok (.imul, 1) := by decide +kernel
theorem dX8_longest_189 : decode cX8_longest 189 = .ok (.aload_n 0, 1) := by decide +kernel
theorem dX8_longest_190 : decode cX8_longest 190 = .ok (.iload_n 2, 1) := by decide +kernel
theorem dX8_longest_191 : decode cX8_longest 191 = .ok (.invokevirtual 68, 3) := by decide +kernel
theorem dX8_longest_194 : decode cX8_longest 194 = .ok (.iadd, 1) := by decide +kernel
theorem dX8_longest_195 : decode cX8_longest 195 = .ok (.iaload, 1) := by decide +kernel
theorem dX8_longest_196 : decode cX8_longest 196 = .ok (.ireturn, 1) := by decide +kernel
theorem dX8_both_0 : decode cX8_both 0 = .ok (.aload_n 0, 1) := by decide +kernel
theorem dX8_both_1 : decode cX8_both 1 = .ok (.iconst 0, 1) := by decide +kernel
theorem dX8_both_2 : decode cX8_both 2 = .ok (.putfield 61, 3) := by decide +kernel
theorem dX8_both_5 : decode cX8_both 5 = .ok (.iload_n 1, 1) := by decide +kernel
theorem dX8_both_6 : decode cX8_both 6 = .ok (.invokestatic 124, 3) := by decide +kernel
theorem dX8_both_9 : decode cX8_both 9 = .ok (.ifCond .eq 19, 3) := by decide +kernel
theorem dX8_both_12 : decode cX8_both 12 = .ok (.iload_n 2, 1) := by decide +kernel
theorem dX8_both_13 : decode cX8_both 13 = .ok (.invokestatic 124, 3) := by decide +kernel
theorem dX8_both_16 : decode cX8_both 16 = .ok (.ifCond .eq 12, 3) := by decide +kernel
theorem dX8_both_19 : decode cX8_both 19 = .ok (.iload_n 3, 1) := by decide +kernel
theorem dX8_both_20 : decode cX8_both 20 = .ok (.iconst 0, 1) := by decide +kernel
theorem dX8_both_21 : decode cX8_both 21 = .ok (.iconst 3, 1) := by decide +kernel
theorem dX8_both_22 : decode cX8_both 22 = .ok (.invokestatic 64, 3) := by decide +kernel
theorem dX8_both_25 : decode cX8_both 25 = .ok (.ifCond .ne 5, 3) := by decide +kernel
theorem dX8_both_28 : decode cX8_both 28 = .ok (.iconst (-1), 1) := by decide +kernel
theorem dX8_both_29 : decode cX8_both 29 = .ok (.ireturn, 1) := by decide +kernel
theorem dX8_both_30 : decode cX8_both 30 = .ok (.aload_n 0, 1) := by decide +kernel
theorem dX8_both_31 : decode cX8_both 31 = .ok (.iload_n 1, 1) := by decide +kernel
theorem dX8_both_32 : decode cX8_both 32 = .ok (.invokevirtual 154, 3) := by decide +kernel
theorem dX8_both_35 : decode cX8_both 35 = .ok (.istore 4, 2) := by decide +kernel
theorem dX8_both_37 : decode cX8_both 37 = .ok (.aload_n 0, 1) := by decide +kernel
theorem dX8_both_38 : decode cX8_both 38 = .ok (.iload_n 2, 1) := by decide +kernel
theorem dX8_both_39 : decode cX8_both 39 = .ok (.invokevirtual 154, 3) := by decide +kernel
theorem dX8_both_42 : decode cX8_both 42 = .ok (.istore 5, 2) := by decide +kernel
theorem dX8_both_44 : decode cX8_both 44 = .ok (.iload_n 3, 1) := by decide +kernel
theorem dX8_both_45 : decode cX8_both 45 = .ok (.ifCond .ne 13, 3) := by decide +kernel
theorem dX8_both_48 : decode cX8_both 48 = .ok (.iload 4, 2) := by decide +kernel
theorem dX8_both_50 : decode cX8_both 50 = .ok (.iload 5, 2) := by decide +kernel
theorem dX8_both_52 : decode cX8_both 52 = .ok (.iconst (-1), 1) := by decide +kernel
theorem dX8_both_53 : decode cX8_both 53 = .ok (.ixor, 1) := by decide +kernel
theorem dX8_both_54 : decode cX8_both 54 = .ok (.iand, 1) := by decide +kernel
theorem dX8_both_55 : decode cX8_both 55 = .ok (.goto 47, 3) := by decide +kernel
theorem dX8_both_58 : decode cX8_both 58 = .ok (.iload_n 3, 1) := by decide +kernel
theorem dX8_both_59 : decode cX8_both 59 = .ok (.iconst 1, 1) := by decide +kernel
theorem dX8_both_60 : decode cX8_both 60 = .ok (.if_icmp .ne 13, 3) := by decide +kernel
theorem dX8_both_63 : decode cX8_both 63 = .ok (.iload 5, 2) := by decide +kernel
theorem dX8_both_65 : decode cX8_both 65 = .ok (.iload 4, 2) := by decide +kernel
theorem dX8_both_67 : decode cX8_both 67 = .ok (.iconst (-1), 1) := by decide +kernel
theorem dX8_both_68 : decode cX8_both 68 = .ok (.ixor, 1) := by decide +kernel
theorem dX8_both_69 : decode cX8_both 69 = .ok (.iand, 1) := by decide +kernel
theorem dX8_both_70 : decode cX8_both 70 = .ok (.goto 32, 3) := by decide +kernel
theorem dX8_both_73 : decode cX8_both 73 = .ok (.iload_n 3, 1) := by decide +kernel
theorem dX8_both_74 : decode cX8_both 74 = .ok (.iconst 2, 1) := by decide +kernel
theorem dX8_both_75 : decode cX8_both 75 = .ok (.if_icmp .ne 12, 3) := by decide +kernel
theorem dX8_both_78 : decode cX8_both 78 = .ok (.aload_n 0, 1) := by decide +kernel
theorem dX8_both_79 : decode cX8_both 79 = .ok (.iload_n 1, 1) := by decide +kernel
theorem dX8_both_80 : decode cX8_both 80 = .ok (.iload_n 2, 1) := by decide +kernel
theorem dX8_both_81 : decode cX8_both 81 = .ok (.invokevirtual 157, 3) := by decide +kernel
theorem dX8_both_84 : decode cX8_both 84 = .ok (.goto 18, 3) := by decide +kernel
theorem dX8_both_87 : decode cX8_both 87 = .ok (.iload 4, 2) := by decide +kernel
theorem dX8_both_89 : decode cX8_both 89 = .ok (.iload 5, 2) := by decide +kernel
theorem dX8_both_91 : decode cX8_both 91 = .ok (.iand, 1) := by decide +kernel
theorem dX8_both_92 : decode cX8_both 92 = .ok (.invokestatic 160, 3) := by decide +kernel
theorem dX8_both_95 : decode cX8_both 95 = .ok (.aload_n 0, 1) := by decide +kernel
theorem dX8_both_96 : decode cX8_both 96 = .ok (.iload_n 1, 1) := by decide +kernel
theorem dX8_both_97 : decode cX8_both 97 = .ok (.iload_n 2, 1) := by decide +kernel
theorem dX8_both_98 : decode cX8_both 98 = .ok (.invokevirtual 157, 3) := by decide +kernel
theorem dX8_both_101 : decode cX8_both 101 = .ok (.isub, 1) := by decide +kernel
theorem dX8_both_102 : decode cX8_both 102 = .ok (.ireturn, 1) := by decide +kernel
theorem dX8_number_0 : decode cX8_number 0 = .ok (.iconst 0, 1) := by decide +kernel
theorem dX8_number_1 : decode cX8_number 1 = .ok (.istore_n 2, 1) := by decide +kernel
theorem dX8_number_2 : decode cX8_number 2 = .ok (.iload_n 2, 1) := by decide +kernel
theorem dX8_number_3 : decode cX8_number 3 = .ok (.aload_n 0, 1) := by decide +kernel
theorem dX8_number_4 : decode cX8_number 4 = .ok (.getfield 163, 3) := by decide +kernel
theorem dX8_number_7 : decode cX8_number 7 = .ok (.if_icmp .ge 21, 3) := by decide +kernel
theorem dX8_number_10 : decode cX8_number 10 = .ok (.aload_n 0, 1) := by decide +kernel
theorem dX8_number_11 : decode cX8_number 11 = .ok (.getfield 42, 3) := by decide +kernel
theorem dX8_number_14 : decode cX8_number 14 = .ok (.iload_n 2, 1) := by decide +kernel
theorem dX8_number_15 : decode cX8_number 15 = .ok (.iaload, 1) := by decide +kernel
theorem dX8_number_16 : decode cX8_number 16 = .ok (.iload_n 1, 1) := by decide +kernel
theorem dX8_number_17 : decode cX8_number 17 = .ok (.if_icmp .ne 5, 3) := by decide +kernel
theorem dX8_number_20 : decode cX8_number 20 = .ok (.iload_n 2, 1) := by decide +kernel
theorem dX8_number_21 : decode cX8_number 21 = .ok (.ireturn, 1) := by decide +kernel
theorem dX8_number_22 : decode cX8_number 22 = .ok (.iinc 2 1, 3) := by decide +kernel
theorem dX8_number_25 : decode cX8_number 25 = .ok (.goto (-23), 3) := by decide +kernel
theorem dX8_number_28 : decode cX8_number 28 = .ok (.bipush (-9), 2) := by decide +kernel
theorem dX8_number_30 : decode cX8_number 30 = .ok (.ireturn, 1) := by decide +kernel
theorem dX8_gathers_0 : decode cX8_gathers 0 = .ok (.aload_n 0, 1) := by decide +kernel
theorem dX8_gathers_1 : decode cX8_gathers 1 = .ok (.iconst 0, 1) := by decide +kernel
theorem dX8_gathers_2 : decode cX8_gathers 2 = .ok (.putfield 163, 3) := by decide +kernel
theorem dX8_gathers_5 : decode cX8_gathers 5 = .ok (.iconst 0, 1) := by decide +kernel
theorem dX8_gathers_6 : decode cX8_gathers 6 = .ok (.istore_n 2, 1) := by decide +kernel
theorem dX8_gathers_7 : decode cX8_gathers 7 = .ok (.iload_n 2, 1) := by decide +kernel
theorem dX8_gathers_8 : decode cX8_gathers 8 = .ok (.iconst 4, 1) := by decide +kernel
theorem dX8_gathers_9 : decode cX8_gathers 9 = .ok (.if_icmp .ge 123, 3) := by decide +kernel
theorem dX8_gathers_12 : decode cX8_gathers 12 = .ok (.iconst 0, 1) := by decide +kernel
theorem dX8_gathers_13 : decode cX8_gathers 13 = .ok (.istore_n 3, 1) := by decide +kernel
theorem dX8_gathers_14 : decode cX8_gathers 14 = .ok (.iload_n 3, 1) := by decide +kernel
theorem dX8_gathers_15 : decode cX8_gathers 15 = .ok (.aload_n 0, 1) := by decide +kernel
theorem dX8_gathers_16 : decode cX8_gathers 16 = .ok (.iload_n 2, 1) := by decide +kernel
theorem dX8_gathers_17 : decode cX8_gathers 17 = .ok (.invokevirtual 68, 3) := by decide +kernel
theorem dX8_gathers_20 : decode cX8_gathers 20 = .ok (.if_icmp .ge 106, 3) := by decide +kernel
theorem dX8_gathers_23 : decode cX8_gathers 23 = .ok (.iload_n 1, 1) := by decide +kernel
theorem dX8_gathers_24 : decode cX8_gathers 24 = .ok (.iload_n 2, 1) := by decide +kernel
theorem dX8_gathers_25 : decode cX8_gathers 25 = .ok (.ishr, 1) := by decide +kernel
theorem dX8_gathers_26 : decode cX8_gathers 26 = .ok (.iconst 1, 1) := by decide +kernel
theorem dX8_gathers_27 : decode cX8_gathers 27 = .ok (.iand, 1) := by decide +kernel
theorem dX8_gathers_28 : decode cX8_gathers 28 = .ok (.iconst 1, 1) := by decide +kernel
theorem dX8_gathers_29 : decode cX8_gathers 29 = .ok (.if_icmp .ne 97, 3) := by decide +kernel
theorem dX8_gathers_32 : decode cX8_gathers 32 = .ok (.aload_n 0, 1) := by decide +kernel
theorem dX8_gathers_33 : decode cX8_gathers 33 = .ok (.aload_n 0, 1) := by decide +kernel
theorem dX8_gathers_34 : decode cX8_gathers 34 = .ok (.iload_n 2, 1) := by decide +kernel
theorem dX8_gathers_35 : decode cX8_gathers 35 = .ok (.iload_n 3, 1) := by decide +kernel
theorem dX8_gathers_36 : decode cX8_gathers 36 = .ok (.invokevirtual 72, 3) := by decide +kernel
theorem dX8_gathers_39 : decode cX8_gathers 39 = .ok (.invokevirtual 166, 3) := by decide +kernel
theorem dX8_gathers_42 : decode cX8_gathers 42 = .ok (.istore 4, 2) := by decide +kernel
theorem dX8_gathers_44 : decode cX8_gathers 44 = .ok (.iload 4, 2) := by decide +kernel
theorem dX8_gathers_46 : decode cX8_gathers 46 = .ok (.bipush (-9), 2) := by decide +kernel
theorem dX8_gathers_48 : decode cX8_gathers 48 = .ok (.if_icmp .ne 40, 3) := by decide +kernel
theorem dX8_gathers_51 : decode cX8_gathers 51 = .ok (.aload_n 0, 1) := by decide +kernel
theorem dX8_gathers_52 : decode cX8_gathers 52 = .ok (.getfield 163, 3) := by decide +kernel
theorem dX8_gathers_55 : decode cX8_gathers 55 = .ok (.istore 4, 2) := by decide +kernel
theorem dX8_gathers_57 : decode cX8_gathers 57 = .ok (.aload_n 0, 1) := by decide +kernel
theorem dX8_gathers_58 : decode cX8_gathers 58 = .ok (.getfield 42, 3) := by decide +kernel
theorem dX8_gathers_61 : decode cX8_gathers 61 = .ok (.iload 4, 2) := by decide +kernel
theorem dX8_gathers_63 : decode cX8_gathers 63 = .ok (.aload_n 0, 1) := by decide +kernel
theorem dX8_gathers_64 : decode cX8_gathers 64 = .ok (.iload_n 2, 1) := by decide +kernel
theorem dX8_gathers_65 : decode cX8_gathers 65 = .ok (.iload_n 3, 1) := by decide +kernel
theorem dX8_gathers_66 : decode cX8_gathers 66 = .ok (.invokevirtual 72, 3) := by decide +kernel
theorem dX8_gathers_69 : decode cX8_gathers 69 = .ok (.iastore, 1) := by decide +kernel
theorem dX8_gathers_70 : decode cX8_gathers 70 = .ok (.aload_n 0, 1) := by decide +kernel
theorem dX8_gathers_71 : decode cX8_gathers 71 = .ok (.getfield 45, 3) := by decide +kernel
theorem dX8_gathers_74 : decode cX8_gathers 74 = .ok (.iload 4, 2) := by decide +kernel
theorem dX8_gathers_76 : decode cX8_gathers 76 = .ok (.iconst 0, 1) := by decide +kernel
theorem dX8_gathers_77 : decode cX8_gathers 77 = .ok (.iastore, 1) := by decide +kernel
theorem dX8_gathers_78 : decode cX8_gathers 78 = .ok (.aload_n 0, 1) := by decide +kernel
theorem dX8_gathers_79 : decode cX8_gathers 79 = .ok (.dup, 1) := by decide +kernel
theorem dX8_gathers_80 : decode cX8_gathers 80 = .ok (.getfield 163, 3) := by decide +kernel
theorem dX8_gathers_83 : decode cX8_gathers 83 = .ok (.iconst 1, 1) := by decide +kernel
theorem dX8_gathers_84 : decode cX8_gathers 84 = .ok (.iadd, 1) := by decide +kernel
theorem dX8_gathers_85 : decode cX8_gathers 85 = .ok (.putfield 163, 3) := by decide +kernel
theorem dX8_gathers_88 : decode cX8_gathers 88 = .ok (.aload_n 0, 1) := by decide +kernel
theorem dX8_gathers_89 : decode cX8_gathers 89 = .ok (.getfield 45, 3) := by decide +kernel
theorem dX8_gathers_92 : decode cX8_gathers 92 = .ok (.iload 4, 2) := by decide +kernel
theorem dX8_gathers_94 : decode cX8_gathers 94 = .ok (.dup2, 1) := by decide +kernel
theorem dX8_gathers_95 : decode cX8_gathers 95 = .ok (.iaload, 1) := by decide +kernel
theorem dX8_gathers_96 : decode cX8_gathers 96 = .ok (.iload_n 3, 1) := by decide +kernel
theorem dX8_gathers_97 : decode cX8_gathers 97 = .ok (.ifCond .le 20, 3) := by decide +kernel
theorem dX8_gathers_100 : decode cX8_gathers 100 = .ok (.iconst 1, 1) := by decide +kernel
theorem dX8_gathers_101 : decode cX8_gathers 101 = .ok (.aload_n 0, 1) := by decide +kernel
theorem dX8_gathers_102 : decode cX8_gathers 102 = .ok (.aload_n 0, 1) := by decide +kernel
theorem dX8_gathers_103 : decode cX8_gathers 103 = .ok (.iload_n 2, 1) := by decide +kernel
theorem dX8_gathers_104 : decode cX8_gathers 104 = .ok (.iload_n 3, 1) := by decide +kernel
theorem dX8_gathers_105 : decode cX8_gathers 105 = .ok (.iconst 1, 1) := by decide +kernel
theorem dX8_gathers_106 : decode cX8_gathers 106 = .ok (.isub, 1) := by decide +kernel
theorem dX8_gathers_107 : decode cX8_gathers 107 = .ok (.invokevirtual 72, 3) := by decide +kernel
theorem dX8_gathers_110 : decode cX8_gathers 110 = .ok (.invokevirtual 166, 3) := by decide +kernel
theorem dX8_gathers_113 : decode cX8_gathers 113 = .ok (.ishl, 1) := by decide +kernel
theorem dX8_gathers_114 : decode cX8_gathers 114 = .ok (.goto 4, 3) := by decide +kernel
theorem dX8_gathers_117 : decode cX8_gathers 117 = .ok (.iconst 0, 1) := by decide +kernel
theorem dX8_gathers_118 : decode cX8_gathers 118 = .ok (.ior, 1) := by decide +kernel
theorem dX8_gathers_119 : decode cX8_gathers 119 = .ok (.iastore, 1) := by decide +kernel
theorem dX8_gathers_120 : decode cX8_gathers 120 = .ok (.iinc 3 1, 3) := by decide +kernel
theorem dX8_gathers_123 : decode cX8_gathers 123 = .ok (.goto (-109), 3) := by decide +kernel
theorem dX8_gathers_126 : decode cX8_gathers 126 = .ok (.iinc 2 1, 3) := by decide +kernel
theorem dX8_gathers_129 : decode cX8_gathers 129 = .ok (.goto (-122), 3) := by decide +kernel
theorem dX8_gathers_132 : decode cX8_gathers 132 = .ok (.return_, 1) := by decide +kernel
theorem dX8_counts_0 : decode cX8_counts 0 = .ok (.iconst 0, 1) := by decide +kernel
theorem dX8_counts_1 : decode cX8_counts 1 = .ok (.istore_n 1, 1) := by decide +kernel
theorem dX8_counts_2 : decode cX8_counts 2 = .ok (.iload_n 1, 1) := by decide +kernel
theorem dX8_counts_3 : decode cX8_counts 3 = .ok (.iconst 1, 1) := by decide +kernel
theorem dX8_counts_4 : decode cX8_counts 4 = .ok (.aload_n 0, 1) := by decide +kernel
theorem dX8_counts_5 : decode cX8_counts 5 = .ok (.getfield 163, 3) := by decide +kernel
theorem dX8_counts_8 : decode cX8_counts 8 = .ok (.ishl, 1) := by decide +kernel
theorem dX8_counts_9 : decode cX8_counts 9 = .ok (.if_icmp .ge 81, 3) := by decide +kernel
theorem dX8_counts_12 : decode cX8_counts 12 = .ok (.aload_n 0, 1) := by decide +kernel
theorem dX8_counts_13 : decode cX8_counts 13 = .ok (.getfield 48, 3) := by decide +kernel
theorem dX8_counts_16 : decode cX8_counts 16 = .ok (.iload_n 1, 1) := by decide +kernel
theorem dX8_counts_17 : decode cX8_counts 17 = .ok (.iload_n 1, 1) := by decide +kernel
theorem dX8_counts_18 : decode cX8_counts 18 = .ok (.ifCond .ne 7, 3) := by decide +kernel
theorem dX8_counts_21 : decode cX8_counts 21 = .ok (.lconst 1, 1) := by decide +kernel
theorem dX8_counts_22 : decode cX8_counts 22 = .ok (.goto 4, 3) := by decide +kernel
theorem dX8_counts_25 : decode cX8_counts 25 = .ok (.lconst 0, 1) := by decide +kernel
theorem dX8_counts_26 : decode cX8_counts 26 = .ok (.lastore, 1) := by decide +kernel
theorem dX8_counts_27 : decode cX8_counts 27 = .ok (.iconst 0, 1) := by decide +kernel
theorem dX8_counts_28 : decode cX8_counts 28 = .ok (.istore_n 2, 1) := by decide +kernel
theorem dX8_counts_29 : decode cX8_counts 29 = .ok (.iload_n 2, 1) := by decide +kernel
theorem dX8_counts_30 : decode cX8_counts 30 = .ok (.aload_n 0, 1) := by decide +kernel
theorem dX8_counts_31 : decode cX8_counts 31 = .ok (.getfield 163, 3) := by decide +kernel
theorem dX8_counts_34 : decode cX8_counts 34 = .ok (.if_icmp .ge 50, 3) := by decide +kernel
theorem dX8_counts_37 : decode cX8_counts 37 = .ok (.iload_n 1, 1) := by decide +kernel
theorem dX8_counts_38 : decode cX8_counts 38 = .ok (.iconst 1, 1) := by decide +kernel
theorem dX8_counts_39 : decode cX8_counts 39 = .ok (.iload_n 2, 1) := by decide +kernel
theorem dX8_counts_40 : decode cX8_counts 40 = .ok (.ishl, 1) := by decide +kernel
theorem dX8_counts_41 : decode cX8_counts 41 = .ok (.iconst (-1), 1) := by decide +kernel
theorem dX8_counts_42 : decode cX8_counts 42 = .ok (.ixor, 1) := by decide +kernel
theorem dX8_counts_43 : decode cX8_counts 43 = .ok (.iand, 1) := by decide +kernel
theorem dX8_counts_44 : decode cX8_counts 44 = .ok (.istore_n 3, 1) := by decide +kernel
theorem dX8_counts_45 : decode cX8_counts 45 = .ok (.iload_n 3, 1) := by decide +kernel
theorem dX8_counts_46 : decode cX8_counts 46 = .ok (.iload_n 1, 1) := by decide +kernel
theorem dX8_counts_47 : decode cX8_counts 47 = .ok (.if_icmp .eq 31, 3) := by decide +kernel
theorem dX8_counts_50 : decode cX8_counts 50 = .ok (.aload_n 0, 1) := by decide +kernel
theorem dX8_counts_51 : decode cX8_counts 51 = .ok (.getfield 45, 3) := by decide +kernel
theorem dX8_counts_54 : decode cX8_counts 54 = .ok (.iload_n 2, 1) := by decide +kernel
theorem dX8_counts_55 : decode cX8_counts 55 = .ok (.iaload, 1) := by decide +kernel
theorem dX8_counts_56 : decode cX8_counts 56 = .ok (.iload_n 3, 1) := by decide +kernel
theorem dX8_counts_57 : decode cX8_counts 57 = .ok (.iconst (-1), 1) := by decide +kernel
theorem dX8_counts_58 : decode cX8_counts 58 = .ok (.ixor, 1) := by decide +kernel
theorem dX8_counts_59 : decode cX8_counts 59 = .ok (.iand, 1) := by decide +kernel
theorem dX8_counts_60 : decode cX8_counts 60 = .ok (.ifCond .ne 18, 3) := by decide +kernel
theorem dX8_counts_63 : decode cX8_counts 63 = .ok (.aload_n 0, 1) := by decide +kernel
theorem dX8_counts_64 : decode cX8_counts 64 = .ok (.getfield 48, 3) := by decide +kernel
theorem dX8_counts_67 : decode cX8_counts 67 = .ok (.iload_n 1, 1) := by decide +kernel
theorem dX8_counts_68 : decode cX8_counts 68 = .ok (.dup2, 1) := by decide +kernel
theorem dX8_counts_69 : decode cX8_counts 69 = .ok (.laload, 1) := by decide +kernel
theorem dX8_counts_70 : decode cX8_counts 70 = .ok (.aload_n 0, 1) := by decide +kernel
theorem dX8_counts_71 : decode cX8_counts 71 = .ok (.getfield 48, 3) := by decide +kernel
theorem dX8_counts_74 : decode cX8_counts 74 = .ok (.iload_n 3, 1) := by decide +kernel
theorem dX8_counts_75 : decode cX8_counts 75 = .ok (.laload, 1) := by decide +kernel
theorem dX8_counts_76 : decode cX8_counts 76 = .ok (.ladd, 1) := by decide +kernel
theorem dX8_counts_77 : decode cX8_counts 77 = .ok (.lastore, 1) := by decide +kernel
theorem dX8_counts_78 : decode cX8_counts 78 = .ok (.iinc 2 1, 3) := by decide +kernel
theorem dX8_counts_81 : decode cX8_counts 81 = .ok (.goto (-52), 3) := by decide +kernel
theorem dX8_counts_84 : decode cX8_counts 84 = .ok (.iinc 1 1, 3) := by decide +kernel
theorem dX8_counts_87 : decode cX8_counts 87 = .ok (.goto (-85), 3) := by decide +kernel
theorem dX8_counts_90 : decode cX8_counts 90 = .ok (.aload_n 0, 1) := by decide +kernel
theorem dX8_counts_91 : decode cX8_counts 91 = .ok (.getfield 48, 3) := by decide +kernel
theorem dX8_counts_94 : decode cX8_counts 94 = .ok (.iconst 1, 1) := by decide +kernel
theorem dX8_counts_95 : decode cX8_counts 95 = .ok (.aload_n 0, 1) := by decide +kernel
theorem dX8_counts_96 : decode cX8_counts 96 = .ok (.getfield 163, 3) := by decide +kernel
theorem dX8_counts_99 : decode cX8_counts 99 = .ok (.ishl, 1) := by decide +kernel
theorem dX8_counts_100 : decode cX8_counts 100 = .ok (.iconst 1, 1) := by decide +kernel
theorem dX8_counts_101 : decode cX8_counts 101 = .ok (.isub, 1) := by decide +kernel
theorem dX8_counts_102 : decode cX8_counts 102 = .ok (.laload, 1) := by decide +kernel
theorem dX8_counts_103 : decode cX8_counts 103 = .ok (.lreturn, 1) := by decide +kernel
theorem dX8_isSet_0 : decode cX8_isSet 0 = .ok (.iload_n 0, 1) := by decide +kernel
theorem dX8_isSet_1 : decode cX8_isSet 1 = .ok (.iconst 1, 1) := by decide +kernel
theorem dX8_isSet_2 : decode cX8_isSet 2 = .ok (.bipush 15, 2) := by decide +kernel
theorem dX8_isSet_4 : decode cX8_isSet 4 = .ok (.invokestatic 64, 3) := by decide +kernel
theorem dX8_isSet_7 : decode cX8_isSet 7 = .ok (.ireturn, 1) := by decide +kernel
theorem dX8_orders_0 : decode cX8_orders 0 = .ok (.aload_n 0, 1) := by decide +kernel
theorem dX8_orders_1 : decode cX8_orders 1 = .ok (.iconst 0, 1) := by decide +kernel
theorem dX8_orders_2 : decode cX8_orders 2 = .ok (.putfield 61, 3) := by decide +kernel
theorem dX8_orders_5 : decode cX8_orders 5 = .ok (.iload_n 1, 1) := by decide +kernel
theorem dX8_orders_6 : decode cX8_orders 6 = .ok (.invokestatic 169, 3) := by decide +kernel
theorem dX8_orders_9 : decode cX8_orders 9 = .ok (.ifCond .ne 7, 3) := by decide +kernel
theorem dX8_orders_12 : decode cX8_orders 12 = .ok (.ldc2_w 172, 3) := by decide +kernel
theorem dX8_orders_15 : decode cX8_orders 15 = .ok (.lreturn, 1) := by decide +kernel
theorem dX8_orders_16 : decode cX8_orders 16 = .ok (.aload_n 0, 1) := by decide +kernel
theorem dX8_orders_17 : decode cX8_orders 17 = .ok (.iload_n 1, 1) := by decide +kernel
theorem dX8_orders_18 : decode cX8_orders 18 = .ok (.invokevirtual 174, 3) := by decide +kernel
theorem dX8_orders_21 : decode cX8_orders 21 = .ok (.aload_n 0, 1) := by decide +kernel
theorem dX8_orders_22 : decode cX8_orders 22 = .ok (.getfield 163, 3) := by decide +kernel
theorem dX8_orders_25 : decode cX8_orders 25 = .ok (.bipush 12, 2) := by decide +kernel
theorem dX8_orders_27 : decode cX8_orders 27 = .ok (.if_icmp .le 9, 3) := by decide +kernel
theorem dX8_orders_30 : decode cX8_orders 30 = .ok (.ldc2_w 177, 3) := by decide +kernel
theorem dX8_orders_33 : decode cX8_orders 33 = .ok (.goto 7, 3) := by decide +kernel
theorem dX8_orders_36 : decode cX8_orders 36 = .ok (.aload_n 0, 1) := by decide +kernel
theorem dX8_orders_37 : decode cX8_orders 37 = .ok (.invokevirtual 179, 3) := by decide +kernel
theorem dX8_orders_40 : decode cX8_orders 40 = .ok (.lreturn, 1) := by decide +kernel
theorem dX8_quarrel_0 : decode cX8_quarrel 0 = .ok (.aload_n 0, 1) := by decide +kernel
theorem dX8_quarrel_1 : decode cX8_quarrel 1 = .ok (.iconst 0, 1) := by decide +kernel
theorem dX8_quarrel_2 : decode cX8_quarrel 2 = .ok (.putfield 61, 3) := by decide +kernel
theorem dX8_quarrel_5 : decode cX8_quarrel 5 = .ok (.iload_n 1, 1) := by decide +kernel
theorem dX8_quarrel_6 : decode cX8_quarrel 6 = .ok (.invokestatic 169, 3) := by decide +kernel
theorem dX8_quarrel_9 : decode cX8_quarrel 9 = .ok (.ifCond .eq 12, 3) := by decide +kernel
theorem dX8_quarrel_12 : decode cX8_quarrel 12 = .ok (.iload_n 2, 1) := by decide +kernel
theorem dX8_quarrel_13 : decode cX8_quarrel 13 = .ok (.iconst 0, 1) := by decide +kernel
theorem dX8_quarrel_14 : decode cX8_quarrel 14 = .ok (.iconst 1, 1) := by decide +kernel
theorem dX8_quarrel_15 : decode cX8_quarrel 15 = .ok (.invokestatic 64, 3) := by decide +kernel
theorem dX8_quarrel_18 : decode cX8_quarrel 18 = .ok (.ifCond .ne 5, 3) := by decide +kernel
theorem dX8_quarrel_21 : decode cX8_quarrel 21 = .ok (.iconst (-1), 1) := by decide +kernel
theorem dX8_quarrel_22 : decode cX8_quarrel 22 = .ok (.ireturn, 1) := by decide +kernel
theorem dX8_quarrel_23 : decode cX8_quarrel 23 = .ok (.aload_n 0, 1) := by decide +kernel
theorem dX8_quarrel_24 : decode cX8_quarrel 24 = .ok (.iload_n 1, 1) := by decide +kernel
theorem dX8_quarrel_25 : decode cX8_quarrel 25 = .ok (.invokevirtual 174, 3) := by decide +kernel
theorem dX8_quarrel_28 : decode cX8_quarrel 28 = .ok (.aload_n 0, 1) := by decide +kernel
theorem dX8_quarrel_29 : decode cX8_quarrel 29 = .ok (.getfield 163, 3) := by decide +kernel
theorem dX8_quarrel_32 : decode cX8_quarrel 32 = .ok (.bipush 12, 2) := by decide +kernel
theorem dX8_quarrel_34 : decode cX8_quarrel 34 = .ok (.if_icmp .le 6, 3) := by decide +kernel
theorem dX8_quarrel_37 : decode cX8_quarrel 37 = .ok (.bipush (-2), 2) := by decide +kernel
theorem dX8_quarrel_39 : decode cX8_quarrel 39 = .ok (.ireturn, 1) := by decide +kernel
theorem dX8_quarrel_40 : decode cX8_quarrel 40 = .ok (.bipush (-9), 2) := by decide +kernel
theorem dX8_quarrel_42 : decode cX8_quarrel 42 = .ok (.istore_n 3, 1) := by decide +kernel
theorem dX8_quarrel_43 : decode cX8_quarrel 43 = .ok (.iconst 1, 1) := by decide +kernel
theorem dX8_quarrel_44 : decode cX8_quarrel 44 = .ok (.istore 4, 2) := by decide +kernel
theorem dX8_quarrel_46 : decode cX8_quarrel 46 = .ok (.iload 4, 2) := by decide +kernel
theorem dX8_quarrel_48 : decode cX8_quarrel 48 = .ok (.bipush 16, 2) := by decide +kernel
theorem dX8_quarrel_50 : decode cX8_quarrel 50 = .ok (.if_icmp .ge 58, 3) := by decide +kernel
theorem dX8_quarrel_53 : decode cX8_quarrel 53 = .ok (.iload 4, 2) := by decide +kernel
theorem dX8_quarrel_55 : decode cX8_quarrel 55 = .ok (.iload_n 1, 1) := by decide +kernel
theorem dX8_quarrel_56 : decode cX8_quarrel 56 = .ok (.iconst (-1), 1) := by decide +kernel
theorem dX8_quarrel_57 : decode cX8_quarrel 57 = .ok (.ixor, 1) := by decide +kernel
theorem dX8_quarrel_58 : decode cX8_quarrel 58 = .ok (.iand, 1) := by decide +kernel
theorem dX8_quarrel_59 : decode cX8_quarrel 59 = .ok (.ifCond .ne 43, 3) := by decide +kernel
theorem dX8_quarrel_62 : decode cX8_quarrel 62 = .ok (.iload_n 3, 1) := by decide +kernel
theorem dX8_quarrel_63 : decode cX8_quarrel 63 = .ok (.bipush (-9), 2) := by decide +kernel
theorem dX8_quarrel_65 : decode cX8_quarrel 65 = .ok (.if_icmp .eq 15, 3) := by decide +kernel
theorem dX8_quarrel_68 : decode cX8_quarrel 68 = .ok (.iload 4, 2) := by decide +kernel
theorem dX8_quarrel_70 : decode cX8_quarrel 70 = .ok (.invokestatic 160, 3) := by decide +kernel
theorem dX8_quarrel_73 : decode cX8_quarrel 73 = .ok (.iload_n 3, 1) := by decide +kernel
theorem dX8_quarrel_74 : decode cX8_quarrel 74 = .ok (.invokestatic 160, 3) := by decide +kernel
theorem dX8_quarrel_77 : decode cX8_quarrel 77 = .ok (.if_icmp .ge 25, 3) := by decide +kernel
theorem dX8_quarrel_80 : decode cX8_quarrel 80 = .ok (.aload_n 0, 1) := by decide +kernel
theorem dX8_quarrel_81 : decode cX8_quarrel 81 = .ok (.iload 4, 2) := by decide +kernel
theorem dX8_quarrel_83 : decode cX8_quarrel 83 = .ok (.invokevirtual 174, 3) := by decide +kernel
theorem dX8_quarrel_86 : decode cX8_quarrel 86 = .ok (.aload_n 0, 1) := by decide +kernel
theorem dX8_quarrel_87 : decode cX8_quarrel 87 = .ok (.invokevirtual 179, 3) := by decide +kernel
theorem dX8_quarrel_90 : decode cX8_quarrel 90 = .ok (.lconst 0, 1) := by decide +kernel
theorem dX8_quarrel_91 : decode cX8_quarrel 91 = .ok (.lcmp, 1) := by decide +kernel
theorem dX8_quarrel_92 : decode cX8_quarrel 92 = .ok (.ifCond .ne 8, 3) := by decide +kernel
theorem dX8_quarrel_95 : decode cX8_quarrel 95 = .ok (.iload 4, 2) := by decide +kernel
theorem dX8_quarrel_97 : decode cX8_quarrel 97 = .ok (.goto 4, 3) := by decide +kernel
theorem dX8_quarrel_100 : decode cX8_quarrel 100 = .ok (.iload_n 3, 1) := by decide +kernel
theorem dX8_quarrel_101 : decode cX8_quarrel 101 = .ok (.istore_n 3, 1) := by decide +kernel
theorem dX8_quarrel_102 : decode cX8_quarrel 102 = .ok (.iinc 4 1, 3) := by decide +kernel
theorem dX8_quarrel_105 : decode cX8_quarrel 105 = .ok (.goto (-59), 3) := by decide +kernel
theorem dX8_quarrel_108 : decode cX8_quarrel 108 = .ok (.iload_n 3, 1) := by decide +kernel
theorem dX8_quarrel_109 : decode cX8_quarrel 109 = .ok (.bipush (-9), 2) := by decide +kernel
theorem dX8_quarrel_111 : decode cX8_quarrel 111 = .ok (.if_icmp .eq 8, 3) := by decide +kernel
theorem dX8_quarrel_114 : decode cX8_quarrel 114 = .ok (.iload_n 2, 1) := by decide +kernel
theorem dX8_quarrel_115 : decode cX8_quarrel 115 = .ok (.iconst 1, 1) := by decide +kernel
theorem dX8_quarrel_116 : decode cX8_quarrel 116 = .ok (.if_icmp .ne 7, 3) := by decide +kernel
theorem dX8_quarrel_119 : decode cX8_quarrel 119 = .ok (.iload_n 3, 1) := by decide +kernel
theorem dX8_quarrel_120 : decode cX8_quarrel 120 = .ok (.goto 7, 3) := by decide +kernel
theorem dX8_quarrel_123 : decode cX8_quarrel 123 = .ok (.iload_n 3, 1) := by decide +kernel
theorem dX8_quarrel_124 : decode cX8_quarrel 124 = .ok (.invokestatic 160, 3) := by decide +kernel
theorem dX8_quarrel_127 : decode cX8_quarrel 127 = .ok (.ireturn, 1) := by decide +kernel
theorem dX8_ahead_0 : decode cX8_ahead 0 = .ok (.aload_n 0, 1) := by decide +kernel
theorem dX8_ahead_1 : decode cX8_ahead 1 = .ok (.iconst 0, 1) := by decide +kernel
theorem dX8_ahead_2 : decode cX8_ahead 2 = .ok (.putfield 61, 3) := by decide +kernel
theorem dX8_ahead_5 : decode cX8_ahead 5 = .ok (.iload_n 1, 1) := by decide +kernel
theorem dX8_ahead_6 : decode cX8_ahead 6 = .ok (.invokestatic 169, 3) := by decide +kernel
theorem dX8_ahead_9 : decode cX8_ahead 9 = .ok (.ifCond .eq 22, 3) := by decide +kernel
theorem dX8_ahead_12 : decode cX8_ahead 12 = .ok (.iload_n 2, 1) := by decide +kernel
theorem dX8_ahead_13 : decode cX8_ahead 13 = .ok (.invokestatic 128, 3) := by decide +kernel
theorem dX8_ahead_16 : decode cX8_ahead 16 = .ok (.ifCond .eq 15, 3) := by decide +kernel
theorem dX8_ahead_19 : decode cX8_ahead 19 = .ok (.iload_n 3, 1) := by decide +kernel
theorem dX8_ahead_20 : decode cX8_ahead 20 = .ok (.invokestatic 128, 3) := by decide +kernel
theorem dX8_ahead_23 : decode cX8_ahead 23 = .ok (.ifCond .eq 8, 3) := by decide +kernel
theorem dX8_ahead_26 : decode cX8_ahead 26 = .ok (.iload_n 2, 1) := by decide +kernel
theorem dX8_ahead_27 : decode cX8_ahead 27 = .ok (.iload_n 3, 1) := by decide +kernel
theorem dX8_ahead_28 : decode cX8_ahead 28 = .ok (.if_icmp .ne 5, 3) := by decide +kernel
theorem dX8_ahead_31 : decode cX8_ahead 31 = .ok (.iconst (-1), 1) := by decide +kernel
theorem dX8_ahead_32 : decode cX8_ahead 32 = .ok (.ireturn, 1) := by decide +kernel
theorem dX8_ahead_33 : decode cX8_ahead 33 = .ok (.aload_n 0, 1) := by decide +kernel
theorem dX8_ahead_34 : decode cX8_ahead 34 = .ok (.iload_n 1, 1) := by decide +kernel
theorem dX8_ahead_35 : decode cX8_ahead 35 = .ok (.invokevirtual 174, 3) := by decide +kernel
theorem dX8_ahead_38 : decode cX8_ahead 38 = .ok (.aload_n 0, 1) := by decide +kernel
theorem dX8_ahead_39 : decode cX8_ahead 39 = .ok (.iload_n 2, 1) := by decide +kernel
theorem dX8_ahead_40 : decode cX8_ahead 40 = .ok (.invokevirtual 166, 3) := by decide +kernel
theorem dX8_ahead_43 : decode cX8_ahead 43 = .ok (.istore 4, 2) := by decide +kernel
theorem dX8_ahead_45 : decode cX8_ahead 45 = .ok (.aload_n 0, 1) := by decide +kernel
theorem dX8_ahead_46 : decode cX8_ahead 46 = .ok (.iload_n 3, 1) := by decide +kernel
theorem dX8_ahead_47 : decode cX8_ahead 47 = .ok (.invokevirtual 166, 3) := by decide +kernel
theorem dX8_ahead_50 : decode cX8_ahead 50 = .ok (.istore 5, 2) := by decide +kernel
theorem dX8_ahead_52 : decode cX8_ahead 52 = .ok (.iload 4, 2) := by decide +kernel
theorem dX8_ahead_54 : decode cX8_ahead 54 = .ok (.bipush (-9), 2) := by decide +kernel
theorem dX8_ahead_56 : decode cX8_ahead 56 = .ok (.if_icmp .eq 10, 3) := by decide +kernel
theorem dX8_ahead_59 : decode cX8_ahead 59 = .ok (.iload 5, 2) := by decide +kernel
theorem dX8_ahead_61 : decode cX8_ahead 61 = .ok (.bipush (-9), 2) := by decide +kernel
theorem dX8_ahead_63 : decode cX8_ahead 63 = .ok (.if_icmp .ne 5, 3) := by decide +kernel
theorem dX8_ahead_66 : decode cX8_ahead 66 = .ok (.iconst (-1), 1) := by decide +kernel
theorem dX8_ahead_67 : decode cX8_ahead 67 = .ok (.ireturn, 1) := by decide +kernel
theorem dX8_ahead_68 : decode cX8_ahead 68 = .ok (.aload_n 0, 1) := by decide +kernel
theorem dX8_ahead_69 : decode cX8_ahead 69 = .ok (.getfield 163, 3) := by decide +kernel
theorem dX8_ahead_72 : decode cX8_ahead 72 = .ok (.bipush 12, 2) := by decide +kernel
theorem dX8_ahead_74 : decode cX8_ahead 74 = .ok (.if_icmp .gt 12, 3) := by decide +kernel
theorem dX8_ahead_77 : decode cX8_ahead 77 = .ok (.aload_n 0, 1) := by decide +kernel
theorem dX8_ahead_78 : decode cX8_ahead 78 = .ok (.invokevirtual 179, 3) := by decide +kernel
theorem dX8_ahead_81 : decode cX8_ahead 81 = .ok (.lconst 0, 1) := by decide +kernel
theorem dX8_ahead_82 : decode cX8_ahead 82 = .ok (.lcmp, 1) := by decide +kernel
theorem dX8_ahead_83 : decode cX8_ahead 83 = .ok (.ifCond .ne 6, 3) := by decide +kernel
theorem dX8_ahead_86 : decode cX8_ahead 86 = .ok (.bipush (-2), 2) := by decide +kernel
theorem dX8_ahead_88 : decode cX8_ahead 88 = .ok (.ireturn, 1) := by decide +kernel
theorem dX8_ahead_89 : decode cX8_ahead 89 = .ok (.iconst 1, 1) := by decide +kernel
theorem dX8_ahead_90 : decode cX8_ahead 90 = .ok (.istore 6, 2) := by decide +kernel
theorem dX8_ahead_92 : decode cX8_ahead 92 = .ok (.iload 6, 2) := by decide +kernel
theorem dX8_ahead_94 : decode cX8_ahead 94 = .ok (.ifCond .eq 117, 3) := by decide +kernel
theorem dX8_ahead_97 : decode cX8_ahead 97 = .ok (.iconst 0, 1) := by decide +kernel
theorem dX8_ahead_98 : decode cX8_ahead 98 = .ok (.istore 6, 2) := by decide +kernel
theorem dX8_ahead_100 : decode cX8_ahead 100 = .ok (.iconst 0, 1) := by decide +kernel
theorem dX8_ahead_101 : decode cX8_ahead 101 = .ok (.istore 7, 2) := by decide +kernel
theorem dX8_ahead_103 : decode cX8_ahead 103 = .ok (.iload 7, 2) := by decide +kernel
theorem dX8_ahead_105 : decode cX8_ahead 105 = .ok (.aload_n 0, 1) := by decide +kernel
theorem dX8_ahead_106 : decode cX8_ahead 106 = .ok (.getfield 163, 3) := by decide +kernel
theorem dX8_ahead_109 : decode cX8_ahead 109 = .ok (.if_icmp .ge 99, 3) := by decide +kernel
theorem dX8_ahead_112 : decode cX8_ahead 112 = .ok (.aload_n 0, 1) := by decide +kernel
theorem dX8_ahead_113 : decode cX8_ahead 113 = .ok (.getfield 45, 3) := by decide +kernel
theorem dX8_ahead_116 : decode cX8_ahead 116 = .ok (.iload 7, 2) := by decide +kernel
theorem dX8_ahead_118 : decode cX8_ahead 118 = .ok (.iaload, 1) := by decide +kernel
theorem dX8_ahead_119 : decode cX8_ahead 119 = .ok (.istore 8, 2) := by decide +kernel
theorem dX8_ahead_121 : decode cX8_ahead 121 = .ok (.iconst 0, 1) := by decide +kernel
theorem dX8_ahead_122 : decode cX8_ahead 122 = .ok (.istore 9, 2) := by decide +kernel
theorem dX8_ahead_124 : decode cX8_ahead 124 = .ok (.iload 9, 2) := by decide +kernel
theorem dX8_ahead_126 : decode cX8_ahead 126 = .ok (.aload_n 0, 1) := by decide +kernel
theorem dX8_ahead_127 : decode cX8_ahead 127 = .ok (.getfield 163, 3) := by decide +kernel
theorem dX8_ahead_130 : decode cX8_ahead 130 = .ok (.if_icmp .ge 41, 3) := by decide +kernel
theorem dX8_ahead_133 : decode cX8_ahead 133 = .ok (.iload 8, 2) := by decide +kernel
theorem dX8_ahead_135 : decode cX8_ahead 135 = .ok (.aload_n 0, 1) := by decide +kernel
theorem dX8_ahead_136 : decode cX8_ahead 136 = .ok (.getfield 45, 3) := by decide +kernel
theorem dX8_ahead_139 : decode cX8_ahead 139 = .ok (.iload 7, 2) := by decide +kernel
theorem dX8_ahead_141 : decode cX8_ahead 141 = .ok (.iaload, 1) := by decide +kernel
theorem dX8_ahead_142 : decode cX8_ahead 142 = .ok (.iload 9, 2) := by decide +kernel
theorem dX8_ahead_144 : decode cX8_ahead 144 = .ok (.ishr, 1) := by decide +kernel
theorem dX8_ahead_145 : decode cX8_ahead 145 = .ok (.iconst 1, 1) := by decide +kernel
theorem dX8_ahead_146 : decode cX8_ahead 146 = .ok (.iand, 1) := by decide +kernel
theorem dX8_ahead_147 : decode cX8_ahead 147 = .ok (.iconst 1, 1) := by decide +kernel
theorem dX8_ahead_148 : decode cX8_ahead 148 = .ok (.if_icmp .ne 13, 3) := by decide +kernel
theorem dX8_ahead_151 : decode cX8_ahead 151 = .ok (.aload_n 0, 1) := by decide +kernel
theorem dX8_ahead_152 : decode cX8_ahead 152 = .ok (.getfield 45, 3) := by decide +kernel
theorem dX8_ahead_155 : decode cX8_ahead 155 = .ok (.iload 9, 2) := by decide +kernel
theorem dX8_ahead_157 : decode cX8_ahead 157 = .ok (.iaload, 1) := by decide +kernel
theorem dX8_ahead_158 : decode cX8_ahead 158 = .ok (.goto 4, 3) := by decide +kernel
theorem dX8_ahead_161 : decode cX8_ahead 161 = .ok (.iconst 0, 1) := by decide +kernel
theorem dX8_ahead_162 : decode cX8_ahead 162 = .ok (.ior, 1) := by decide +kernel
theorem dX8_ahead_163 : decode cX8_ahead 163 = .ok (.istore 8, 2) := by decide +kernel
theorem dX8_ahead_165 : decode cX8_ahead 165 = .ok (.iinc 9 1, 3) := by decide +kernel
theorem dX8_ahead_168 : decode cX8_ahead 168 = .ok (.goto (-44), 3) := by decide +kernel
theorem dX8_ahead_171 : decode cX8_ahead 171 = .ok (.iload 6, 2) := by decide +kernel
theorem dX8_ahead_173 : decode cX8_ahead 173 = .ok (.iload 8, 2) := by decide +kernel
theorem dX8_ahead_175 : decode cX8_ahead 175 = .ok (.aload_n 0, 1) := by decide +kernel
theorem dX8_ahead_176 : decode cX8_ahead 176 = .ok (.getfield 45, 3) := by decide +kernel
theorem dX8_ahead_179 : decode cX8_ahead 179 = .ok (.iload 7, 2) := by decide +kernel
theorem dX8_ahead_181 : decode cX8_ahead 181 = .ok (.iaload, 1) := by decide +kernel
theorem dX8_ahead_182 : decode cX8_ahead 182 = .ok (.if_icmp .eq 7, 3) := by decide +kernel
theorem dX8_ahead_185 : decode cX8_ahead 185 = .ok (.iconst 1, 1) := by decide +kernel
theorem dX8_ahead_186 : decode cX8_ahead 186 = .ok (.goto 4, 3) := by decide +kernel
theorem dX8_ahead_189 : decode cX8_ahead 189 = .ok (.iconst 0, 1) := by decide +kernel
theorem dX8_ahead_190 : decode cX8_ahead 190 = .ok (.ior, 1) := by decide +kernel
theorem dX8_ahead_191 : decode cX8_ahead 191 = .ok (.istore 6, 2) := by decide +kernel
theorem dX8_ahead_193 : decode cX8_ahead 193 = .ok (.aload_n 0, 1) := by decide +kernel
theorem dX8_ahead_194 : decode cX8_ahead 194 = .ok (.getfield 45, 3) := by decide +kernel
theorem dX8_ahead_197 : decode cX8_ahead 197 = .ok (.iload 7, 2) := by decide +kernel
theorem dX8_ahead_199 : decode cX8_ahead 199 = .ok (.iload 8, 2) := by decide +kernel
theorem dX8_ahead_201 : decode cX8_ahead 201 = .ok (.iastore, 1) := by decide +kernel
theorem dX8_ahead_202 : decode cX8_ahead 202 = .ok (.iinc 7 1, 3) := by decide +kernel
theorem dX8_ahead_205 : decode cX8_ahead 205 = .ok (.goto (-102), 3) := by decide +kernel
theorem dX8_ahead_208 : decode cX8_ahead 208 = .ok (.goto (-116), 3) := by decide +kernel
theorem dX8_ahead_211 : decode cX8_ahead 211 = .ok (.aload_n 0, 1) := by decide +kernel
theorem dX8_ahead_212 : decode cX8_ahead 212 = .ok (.getfield 45, 3) := by decide +kernel
theorem dX8_ahead_215 : decode cX8_ahead 215 = .ok (.iload 5, 2) := by decide +kernel
theorem dX8_ahead_217 : decode cX8_ahead 217 = .ok (.iaload, 1) := by decide +kernel
theorem dX8_ahead_218 : decode cX8_ahead 218 = .ok (.iload 4, 2) := by decide +kernel
theorem dX8_ahead_220 : decode cX8_ahead 220 = .ok (.ishr, 1) := by decide +kernel
theorem dX8_ahead_221 : decode cX8_ahead 221 = .ok (.iconst 1, 1) := by decide +kernel
theorem dX8_ahead_222 : decode cX8_ahead 222 = .ok (.iand, 1) := by decide +kernel
theorem dX8_ahead_223 : decode cX8_ahead 223 = .ok (.iconst 1, 1) := by decide +kernel
theorem dX8_ahead_224 : decode cX8_ahead 224 = .ok (.if_icmp .ne 7, 3) := by decide +kernel
theorem dX8_ahead_227 : decode cX8_ahead 227 = .ok (.iconst 1, 1) := by decide +kernel
theorem dX8_ahead_228 : decode cX8_ahead 228 = .ok (.goto 24, 3) := by decide +kernel
theorem dX8_ahead_231 : decode cX8_ahead 231 = .ok (.aload_n 0, 1) := by decide +kernel
