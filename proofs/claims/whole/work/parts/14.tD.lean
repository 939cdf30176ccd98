theorem d_X7_bringsOut_0 : decode cX7_bringsOut 0 = .ok (.iconst 0, 1) := by decide +kernel
theorem d_X7_bringsOut_1 : decode cX7_bringsOut 1 = .ok (.istore_n 3, 1) := by decide +kernel
theorem d_X7_bringsOut_2 : decode cX7_bringsOut 2 = .ok (.iload_n 3, 1) := by decide +kernel
theorem d_X7_bringsOut_3 : decode cX7_bringsOut 3 = .ok (.bipush 6, 2) := by decide +kernel
theorem d_X7_bringsOut_5 : decode cX7_bringsOut 5 = .ok (.if_icmp .ge 16, 3) := by decide +kernel
theorem d_X7_bringsOut_8 : decode cX7_bringsOut 8 = .ok (.aload_n 0, 1) := by decide +kernel
theorem d_X7_bringsOut_9 : decode cX7_bringsOut 9 = .ok (.getfield 49, 3) := by decide +kernel
theorem d_X7_bringsOut_12 : decode cX7_bringsOut 12 = .ok (.iload_n 3, 1) := by decide +kernel
theorem d_X7_bringsOut_13 : decode cX7_bringsOut 13 = .ok (.iconst 0, 1) := by decide +kernel
theorem d_X7_bringsOut_14 : decode cX7_bringsOut 14 = .ok (.iastore, 1) := by decide +kernel
theorem d_X7_bringsOut_15 : decode cX7_bringsOut 15 = .ok (.iinc 3 1, 3) := by decide +kernel
theorem d_X7_bringsOut_18 : decode cX7_bringsOut 18 = .ok (.goto (-16), 3) := by decide +kernel
theorem d_X7_bringsOut_21 : decode cX7_bringsOut 21 = .ok (.iconst 0, 1) := by decide +kernel
theorem d_X7_bringsOut_22 : decode cX7_bringsOut 22 = .ok (.istore_n 3, 1) := by decide +kernel
theorem d_X7_bringsOut_23 : decode cX7_bringsOut 23 = .ok (.iload_n 3, 1) := by decide +kernel
theorem d_X7_bringsOut_24 : decode cX7_bringsOut 24 = .ok (.iconst 4, 1) := by decide +kernel
theorem d_X7_bringsOut_25 : decode cX7_bringsOut 25 = .ok (.if_icmp .ge 16, 3) := by decide +kernel
theorem d_X7_bringsOut_28 : decode cX7_bringsOut 28 = .ok (.aload_n 0, 1) := by decide +kernel
theorem d_X7_bringsOut_29 : decode cX7_bringsOut 29 = .ok (.getfield 52, 3) := by decide +kernel
theorem d_X7_bringsOut_32 : decode cX7_bringsOut 32 = .ok (.iload_n 3, 1) := by decide +kernel
theorem d_X7_bringsOut_33 : decode cX7_bringsOut 33 = .ok (.iconst 0, 1) := by decide +kernel
theorem d_X7_bringsOut_34 : decode cX7_bringsOut 34 = .ok (.iastore, 1) := by decide +kernel
theorem d_X7_bringsOut_35 : decode cX7_bringsOut 35 = .ok (.iinc 3 1, 3) := by decide +kernel
theorem d_X7_bringsOut_38 : decode cX7_bringsOut 38 = .ok (.goto (-15), 3) := by decide +kernel
theorem d_X7_bringsOut_41 : decode cX7_bringsOut 41 = .ok (.iconst 0, 1) := by decide +kernel
theorem d_X7_bringsOut_42 : decode cX7_bringsOut 42 = .ok (.istore_n 3, 1) := by decide +kernel
theorem d_X7_bringsOut_43 : decode cX7_bringsOut 43 = .ok (.aload_n 0, 1) := by decide +kernel
theorem d_X7_bringsOut_44 : decode cX7_bringsOut 44 = .ok (.getfield 43, 3) := by decide +kernel
theorem d_X7_bringsOut_47 : decode cX7_bringsOut 47 = .ok (.iconst 0, 1) := by decide +kernel
theorem d_X7_bringsOut_48 : decode cX7_bringsOut 48 = .ok (.iconst (-1), 1) := by decide +kernel
theorem d_X7_bringsOut_49 : decode cX7_bringsOut 49 = .ok (.iastore, 1) := by decide +kernel
theorem d_X7_bringsOut_50 : decode cX7_bringsOut 50 = .ok (.aload_n 0, 1) := by decide +kernel
theorem d_X7_bringsOut_51 : decode cX7_bringsOut 51 = .ok (.getfield 46, 3) := by decide +kernel
theorem d_X7_bringsOut_54 : decode cX7_bringsOut 54 = .ok (.iconst 0, 1) := by decide +kernel
theorem d_X7_bringsOut_55 : decode cX7_bringsOut 55 = .ok (.aload_n 0, 1) := by decide +kernel
theorem d_X7_bringsOut_56 : decode cX7_bringsOut 56 = .ok (.getfield 7, 3) := by decide +kernel
theorem d_X7_bringsOut_59 : decode cX7_bringsOut 59 = .ok (.iconst 1, 1) := by decide +kernel
theorem d_X7_bringsOut_60 : decode cX7_bringsOut 60 = .ok (.iload_n 1, 1) := by decide +kernel
theorem d_X7_bringsOut_61 : decode cX7_bringsOut 61 = .ok (.iadd, 1) := by decide +kernel
theorem d_X7_bringsOut_62 : decode cX7_bringsOut 62 = .ok (.iaload, 1) := by decide +kernel
theorem d_X7_bringsOut_63 : decode cX7_bringsOut 63 = .ok (.iastore, 1) := by decide +kernel
theorem d_X7_bringsOut_64 : decode cX7_bringsOut 64 = .ok (.iload_n 3, 1) := by decide +kernel
theorem d_X7_bringsOut_65 : decode cX7_bringsOut 65 = .ok (.ifCond .lt 269, 3) := by decide +kernel
theorem d_X7_bringsOut_68 : decode cX7_bringsOut 68 = .ok (.iload_n 3, 1) := by decide +kernel
theorem d_X7_bringsOut_69 : decode cX7_bringsOut 69 = .ok (.iload_n 2, 1) := by decide +kernel
theorem d_X7_bringsOut_70 : decode cX7_bringsOut 70 = .ok (.if_icmp .ne 26, 3) := by decide +kernel
theorem d_X7_bringsOut_73 : decode cX7_bringsOut 73 = .ok (.aload_n 0, 1) := by decide +kernel
theorem d_X7_bringsOut_74 : decode cX7_bringsOut 74 = .ok (.getfield 46, 3) := by decide +kernel
theorem d_X7_bringsOut_77 : decode cX7_bringsOut 77 = .ok (.iload_n 3, 1) := by decide +kernel
theorem d_X7_bringsOut_78 : decode cX7_bringsOut 78 = .ok (.iaload, 1) := by decide +kernel
theorem d_X7_bringsOut_79 : decode cX7_bringsOut 79 = .ok (.aload_n 0, 1) := by decide +kernel
theorem d_X7_bringsOut_80 : decode cX7_bringsOut 80 = .ok (.getfield 16, 3) := by decide +kernel
theorem d_X7_bringsOut_83 : decode cX7_bringsOut 83 = .ok (.iload_n 1, 1) := by decide +kernel
theorem d_X7_bringsOut_84 : decode cX7_bringsOut 84 = .ok (.iaload, 1) := by decide +kernel
theorem d_X7_bringsOut_85 : decode cX7_bringsOut 85 = .ok (.if_icmp .lt 5, 3) := by decide +kernel
theorem d_X7_bringsOut_88 : decode cX7_bringsOut 88 = .ok (.iconst 1, 1) := by decide +kernel
theorem d_X7_bringsOut_89 : decode cX7_bringsOut 89 = .ok (.ireturn, 1) := by decide +kernel
theorem d_X7_bringsOut_90 : decode cX7_bringsOut 90 = .ok (.iinc 3 (-1), 3) := by decide +kernel
theorem d_X7_bringsOut_93 : decode cX7_bringsOut 93 = .ok (.goto (-29), 3) := by decide +kernel
theorem d_X7_bringsOut_96 : decode cX7_bringsOut 96 = .ok (.aload_n 0, 1) := by decide +kernel
theorem d_X7_bringsOut_97 : decode cX7_bringsOut 97 = .ok (.getfield 43, 3) := by decide +kernel
theorem d_X7_bringsOut_100 : decode cX7_bringsOut 100 = .ok (.iload_n 3, 1) := by decide +kernel
theorem d_X7_bringsOut_101 : decode cX7_bringsOut 101 = .ok (.iaload, 1) := by decide +kernel
theorem d_X7_bringsOut_102 : decode cX7_bringsOut 102 = .ok (.ifCond .lt 43, 3) := by decide +kernel
theorem d_X7_bringsOut_105 : decode cX7_bringsOut 105 = .ok (.aload_n 0, 1) := by decide +kernel
theorem d_X7_bringsOut_106 : decode cX7_bringsOut 106 = .ok (.getfield 52, 3) := by decide +kernel
theorem d_X7_bringsOut_109 : decode cX7_bringsOut 109 = .ok (.aload_n 0, 1) := by decide +kernel
theorem d_X7_bringsOut_110 : decode cX7_bringsOut 110 = .ok (.getfield 43, 3) := by decide +kernel
theorem d_X7_bringsOut_113 : decode cX7_bringsOut 113 = .ok (.iload_n 3, 1) := by decide +kernel
theorem d_X7_bringsOut_114 : decode cX7_bringsOut 114 = .ok (.iaload, 1) := by decide +kernel
theorem d_X7_bringsOut_115 : decode cX7_bringsOut 115 = .ok (.aload_n 0, 1) := by decide +kernel
theorem d_X7_bringsOut_116 : decode cX7_bringsOut 116 = .ok (.getfield 89, 3) := by decide +kernel
theorem d_X7_bringsOut_119 : decode cX7_bringsOut 119 = .ok (.idiv, 1) := by decide +kernel
theorem d_X7_bringsOut_120 : decode cX7_bringsOut 120 = .ok (.dup2, 1) := by decide +kernel
theorem d_X7_bringsOut_121 : decode cX7_bringsOut 121 = .ok (.iaload, 1) := by decide +kernel
theorem d_X7_bringsOut_122 : decode cX7_bringsOut 122 = .ok (.iconst 1, 1) := by decide +kernel
theorem d_X7_bringsOut_123 : decode cX7_bringsOut 123 = .ok (.isub, 1) := by decide +kernel
theorem d_X7_bringsOut_124 : decode cX7_bringsOut 124 = .ok (.iastore, 1) := by decide +kernel
theorem d_X7_bringsOut_125 : decode cX7_bringsOut 125 = .ok (.aload_n 0, 1) := by decide +kernel
theorem d_X7_bringsOut_126 : decode cX7_bringsOut 126 = .ok (.getfield 49, 3) := by decide +kernel
theorem d_X7_bringsOut_129 : decode cX7_bringsOut 129 = .ok (.aload_n 0, 1) := by decide +kernel
theorem d_X7_bringsOut_130 : decode cX7_bringsOut 130 = .ok (.getfield 43, 3) := by decide +kernel
theorem d_X7_bringsOut_133 : decode cX7_bringsOut 133 = .ok (.iload_n 3, 1) := by decide +kernel
theorem d_X7_bringsOut_134 : decode cX7_bringsOut 134 = .ok (.iaload, 1) := by decide +kernel
theorem d_X7_bringsOut_135 : decode cX7_bringsOut 135 = .ok (.aload_n 0, 1) := by decide +kernel
theorem d_X7_bringsOut_136 : decode cX7_bringsOut 136 = .ok (.getfield 89, 3) := by decide +kernel
theorem d_X7_bringsOut_139 : decode cX7_bringsOut 139 = .ok (.irem, 1) := by decide +kernel
theorem d_X7_bringsOut_140 : decode cX7_bringsOut 140 = .ok (.dup2, 1) := by decide +kernel
theorem d_X7_bringsOut_141 : decode cX7_bringsOut 141 = .ok (.iaload, 1) := by decide +kernel
theorem d_X7_bringsOut_142 : decode cX7_bringsOut 142 = .ok (.iconst 1, 1) := by decide +kernel
theorem d_X7_bringsOut_143 : decode cX7_bringsOut 143 = .ok (.isub, 1) := by decide +kernel
theorem d_X7_bringsOut_144 : decode cX7_bringsOut 144 = .ok (.iastore, 1) := by decide +kernel
theorem d_X7_bringsOut_145 : decode cX7_bringsOut 145 = .ok (.aload_n 0, 1) := by decide +kernel
theorem d_X7_bringsOut_146 : decode cX7_bringsOut 146 = .ok (.getfield 43, 3) := by decide +kernel
theorem d_X7_bringsOut_149 : decode cX7_bringsOut 149 = .ok (.iload_n 3, 1) := by decide +kernel
theorem d_X7_bringsOut_150 : decode cX7_bringsOut 150 = .ok (.iaload, 1) := by decide +kernel
theorem d_X7_bringsOut_151 : decode cX7_bringsOut 151 = .ok (.iconst 1, 1) := by decide +kernel
theorem d_X7_bringsOut_152 : decode cX7_bringsOut 152 = .ok (.iadd, 1) := by decide +kernel
theorem d_X7_bringsOut_153 : decode cX7_bringsOut 153 = .ok (.istore 4, 2) := by decide +kernel
theorem d_X7_bringsOut_155 : decode cX7_bringsOut 155 = .ok (.iload 4, 2) := by decide +kernel
theorem d_X7_bringsOut_157 : decode cX7_bringsOut 157 = .ok (.aload_n 0, 1) := by decide +kernel
theorem d_X7_bringsOut_158 : decode cX7_bringsOut 158 = .ok (.getfield 92, 3) := by decide +kernel
theorem d_X7_bringsOut_161 : decode cX7_bringsOut 161 = .ok (.aload_n 0, 1) := by decide +kernel
theorem d_X7_bringsOut_162 : decode cX7_bringsOut 162 = .ok (.getfield 89, 3) := by decide +kernel
theorem d_X7_bringsOut_165 : decode cX7_bringsOut 165 = .ok (.imul, 1) := by decide +kernel
theorem d_X7_bringsOut_166 : decode cX7_bringsOut 166 = .ok (.if_icmp .ge 39, 3) := by decide +kernel
theorem d_X7_bringsOut_169 : decode cX7_bringsOut 169 = .ok (.aload_n 0, 1) := by decide +kernel
theorem d_X7_bringsOut_170 : decode cX7_bringsOut 170 = .ok (.getfield 52, 3) := by decide +kernel
theorem d_X7_bringsOut_173 : decode cX7_bringsOut 173 = .ok (.iload 4, 2) := by decide +kernel
theorem d_X7_bringsOut_175 : decode cX7_bringsOut 175 = .ok (.aload_n 0, 1) := by decide +kernel
theorem d_X7_bringsOut_176 : decode cX7_bringsOut 176 = .ok (.getfield 89, 3) := by decide +kernel
theorem d_X7_bringsOut_179 : decode cX7_bringsOut 179 = .ok (.idiv, 1) := by decide +kernel
theorem d_X7_bringsOut_180 : decode cX7_bringsOut 180 = .ok (.iaload, 1) := by decide +kernel
theorem d_X7_bringsOut_181 : decode cX7_bringsOut 181 = .ok (.aload_n 0, 1) := by decide +kernel
theorem d_X7_bringsOut_182 : decode cX7_bringsOut 182 = .ok (.getfield 7, 3) := by decide +kernel
theorem d_X7_bringsOut_185 : decode cX7_bringsOut 185 = .ok (.bipush 79, 2) := by decide +kernel
theorem d_X7_bringsOut_187 : decode cX7_bringsOut 187 = .ok (.iload 4, 2) := by decide +kernel
theorem d_X7_bringsOut_189 : decode cX7_bringsOut 189 = .ok (.aload_n 0, 1) := by decide +kernel
theorem d_X7_bringsOut_190 : decode cX7_bringsOut 190 = .ok (.getfield 89, 3) := by decide +kernel
theorem d_X7_bringsOut_193 : decode cX7_bringsOut 193 = .ok (.idiv, 1) := by decide +kernel
theorem d_X7_bringsOut_194 : decode cX7_bringsOut 194 = .ok (.iadd, 1) := by decide +kernel
theorem d_X7_bringsOut_195 : decode cX7_bringsOut 195 = .ok (.iaload, 1) := by decide +kernel
theorem d_X7_bringsOut_196 : decode cX7_bringsOut 196 = .ok (.if_icmp .lt 9, 3) := by decide +kernel
theorem d_X7_bringsOut_199 : decode cX7_bringsOut 199 = .ok (.iinc 4 1, 3) := by decide +kernel
theorem d_X7_bringsOut_202 : decode cX7_bringsOut 202 = .ok (.goto (-47), 3) := by decide +kernel
theorem d_X7_bringsOut_205 : decode cX7_bringsOut 205 = .ok (.aload_n 0, 1) := by decide +kernel
theorem d_X7_bringsOut_206 : decode cX7_bringsOut 206 = .ok (.getfield 43, 3) := by decide +kernel
theorem d_X7_bringsOut_209 : decode cX7_bringsOut 209 = .ok (.iload_n 3, 1) := by decide +kernel
theorem d_X7_bringsOut_210 : decode cX7_bringsOut 210 = .ok (.iload 4, 2) := by decide +kernel
theorem d_X7_bringsOut_212 : decode cX7_bringsOut 212 = .ok (.iastore, 1) := by decide +kernel
theorem d_X7_bringsOut_213 : decode cX7_bringsOut 213 = .ok (.iload 4, 2) := by decide +kernel
theorem d_X7_bringsOut_215 : decode cX7_bringsOut 215 = .ok (.aload_n 0, 1) := by decide +kernel
theorem d_X7_bringsOut_216 : decode cX7_bringsOut 216 = .ok (.getfield 92, 3) := by decide +kernel
theorem d_X7_bringsOut_219 : decode cX7_bringsOut 219 = .ok (.aload_n 0, 1) := by decide +kernel
theorem d_X7_bringsOut_220 : decode cX7_bringsOut 220 = .ok (.getfield 89, 3) := by decide +kernel
theorem d_X7_bringsOut_223 : decode cX7_bringsOut 223 = .ok (.imul, 1) := by decide +kernel
theorem d_X7_bringsOut_224 : decode cX7_bringsOut 224 = .ok (.if_icmp .ne 9, 3) := by decide +kernel
theorem d_X7_bringsOut_227 : decode cX7_bringsOut 227 = .ok (.iinc 3 (-1), 3) := by decide +kernel
theorem d_X7_bringsOut_230 : decode cX7_bringsOut 230 = .ok (.goto 101, 3) := by decide +kernel
theorem d_X7_bringsOut_233 : decode cX7_bringsOut 233 = .ok (.iload 4, 2) := by decide +kernel
theorem d_X7_bringsOut_235 : decode cX7_bringsOut 235 = .ok (.aload_n 0, 1) := by decide +kernel
theorem d_X7_bringsOut_236 : decode cX7_bringsOut 236 = .ok (.getfield 89, 3) := by decide +kernel
theorem d_X7_bringsOut_239 : decode cX7_bringsOut 239 = .ok (.idiv, 1) := by decide +kernel
theorem d_X7_bringsOut_240 : decode cX7_bringsOut 240 = .ok (.istore 5, 2) := by decide +kernel
theorem d_X7_bringsOut_242 : decode cX7_bringsOut 242 = .ok (.iload 4, 2) := by decide +kernel
theorem d_X7_bringsOut_244 : decode cX7_bringsOut 244 = .ok (.aload_n 0, 1) := by decide +kernel
theorem d_X7_bringsOut_245 : decode cX7_bringsOut 245 = .ok (.getfield 89, 3) := by decide +kernel
theorem d_X7_bringsOut_248 : decode cX7_bringsOut 248 = .ok (.irem, 1) := by decide +kernel
theorem d_X7_bringsOut_249 : decode cX7_bringsOut 249 = .ok (.istore 6, 2) := by decide +kernel
theorem d_X7_bringsOut_251 : decode cX7_bringsOut 251 = .ok (.aload_n 0, 1) := by decide +kernel
theorem d_X7_bringsOut_252 : decode cX7_bringsOut 252 = .ok (.getfield 46, 3) := by decide +kernel
theorem d_X7_bringsOut_255 : decode cX7_bringsOut 255 = .ok (.iload_n 3, 1) := by decide +kernel
theorem d_X7_bringsOut_256 : decode cX7_bringsOut 256 = .ok (.iconst 1, 1) := by decide +kernel
theorem d_X7_bringsOut_257 : decode cX7_bringsOut 257 = .ok (.iadd, 1) := by decide +kernel
theorem d_X7_bringsOut_258 : decode cX7_bringsOut 258 = .ok (.aload_n 0, 1) := by decide +kernel
theorem d_X7_bringsOut_259 : decode cX7_bringsOut 259 = .ok (.getfield 46, 3) := by decide +kernel
theorem d_X7_bringsOut_262 : decode cX7_bringsOut 262 = .ok (.iload_n 3, 1) := by decide +kernel
theorem d_X7_bringsOut_263 : decode cX7_bringsOut 263 = .ok (.iaload, 1) := by decide +kernel
theorem d_X7_bringsOut_264 : decode cX7_bringsOut 264 = .ok (.aload_n 0, 1) := by decide +kernel
theorem d_X7_bringsOut_265 : decode cX7_bringsOut 265 = .ok (.iload 5, 2) := by decide +kernel
theorem d_X7_bringsOut_267 : decode cX7_bringsOut 267 = .ok (.iload_n 1, 1) := by decide +kernel
theorem d_X7_bringsOut_268 : decode cX7_bringsOut 268 = .ok (.iload 6, 2) := by decide +kernel
theorem d_X7_bringsOut_270 : decode cX7_bringsOut 270 = .ok (.invokevirtual 175, 3) := by decide +kernel
theorem d_X7_bringsOut_273 : decode cX7_bringsOut 273 = .ok (.aload_n 0, 1) := by decide +kernel
theorem d_X7_bringsOut_274 : decode cX7_bringsOut 274 = .ok (.iconst 0, 1) := by decide +kernel
theorem d_X7_bringsOut_275 : decode cX7_bringsOut 275 = .ok (.iload_n 1, 1) := by decide +kernel
theorem d_X7_bringsOut_276 : decode cX7_bringsOut 276 = .ok (.iload 6, 2) := by decide +kernel
theorem d_X7_bringsOut_278 : decode cX7_bringsOut 278 = .ok (.invokevirtual 179, 3) := by decide +kernel
theorem d_X7_bringsOut_281 : decode cX7_bringsOut 281 = .ok (.aload_n 0, 1) := by decide +kernel
theorem d_X7_bringsOut_282 : decode cX7_bringsOut 282 = .ok (.getfield 49, 3) := by decide +kernel
theorem d_X7_bringsOut_285 : decode cX7_bringsOut 285 = .ok (.iload 6, 2) := by decide +kernel
theorem d_X7_bringsOut_287 : decode cX7_bringsOut 287 = .ok (.iaload, 1) := by decide +kernel
theorem d_X7_bringsOut_288 : decode cX7_bringsOut 288 = .ok (.iadd, 1) := by decide +kernel
theorem d_X7_bringsOut_289 : decode cX7_bringsOut 289 = .ok (.invokestatic 182, 3) := by decide +kernel
theorem d_X7_bringsOut_292 : decode cX7_bringsOut 292 = .ok (.iadd, 1) := by decide +kernel
theorem d_X7_bringsOut_293 : decode cX7_bringsOut 293 = .ok (.iastore, 1) := by decide +kernel
theorem d_X7_bringsOut_294 : decode cX7_bringsOut 294 = .ok (.aload_n 0, 1) := by decide +kernel
theorem d_X7_bringsOut_295 : decode cX7_bringsOut 295 = .ok (.getfield 52, 3) := by decide +kernel
theorem d_X7_bringsOut_298 : decode cX7_bringsOut 298 = .ok (.iload 5, 2) := by decide +kernel
theorem d_X7_bringsOut_300 : decode cX7_bringsOut 300 = .ok (.dup2, 1) := by decide +kernel
theorem d_X7_bringsOut_301 : decode cX7_bringsOut 301 = .ok (.iaload, 1) := by decide +kernel
theorem d_X7_bringsOut_302 : decode cX7_bringsOut 302 = .ok (.iconst 1, 1) := by decide +kernel
theorem d_X7_bringsOut_303 : decode cX7_bringsOut 303 = .ok (.iadd, 1) := by decide +kernel
theorem d_X7_bringsOut_304 : decode cX7_bringsOut 304 = .ok (.iastore, 1) := by decide +kernel
theorem d_X7_bringsOut_305 : decode cX7_bringsOut 305 = .ok (.aload_n 0, 1) := by decide +kernel
theorem d_X7_bringsOut_306 : decode cX7_bringsOut 306 = .ok (.getfield 49, 3) := by decide +kernel
theorem d_X7_bringsOut_309 : decode cX7_bringsOut 309 = .ok (.iload 6, 2) := by decide +kernel
theorem d_X7_bringsOut_311 : decode cX7_bringsOut 311 = .ok (.dup2, 1) := by decide +kernel
theorem d_X7_bringsOut_312 : decode cX7_bringsOut 312 = .ok (.iaload, 1) := by decide +kernel
theorem d_X7_bringsOut_313 : decode cX7_bringsOut 313 = .ok (.iconst 1, 1) := by decide +kernel
theorem d_X7_bringsOut_314 : decode cX7_bringsOut 314 = .ok (.iadd, 1) := by decide +kernel
theorem d_X7_bringsOut_315 : decode cX7_bringsOut 315 = .ok (.iastore, 1) := by decide +kernel
theorem d_X7_bringsOut_316 : decode cX7_bringsOut 316 = .ok (.iinc 3 1, 3) := by decide +kernel
theorem d_X7_bringsOut_319 : decode cX7_bringsOut 319 = .ok (.iload_n 3, 1) := by decide +kernel
theorem d_X7_bringsOut_320 : decode cX7_bringsOut 320 = .ok (.iload_n 2, 1) := by decide +kernel
theorem d_X7_bringsOut_321 : decode cX7_bringsOut 321 = .ok (.if_icmp .ge 10, 3) := by decide +kernel
theorem d_X7_bringsOut_324 : decode cX7_bringsOut 324 = .ok (.aload_n 0, 1) := by decide +kernel
theorem d_X7_bringsOut_325 : decode cX7_bringsOut 325 = .ok (.getfield 43, 3) := by decide +kernel
theorem d_X7_bringsOut_328 : decode cX7_bringsOut 328 = .ok (.iload_n 3, 1) := by decide +kernel
theorem d_X7_bringsOut_329 : decode cX7_bringsOut 329 = .ok (.iconst (-1), 1) := by decide +kernel
theorem d_X7_bringsOut_330 : decode cX7_bringsOut 330 = .ok (.iastore, 1) := by decide +kernel
theorem d_X7_bringsOut_331 : decode cX7_bringsOut 331 = .ok (.goto (-267), 3) := by decide +kernel
theorem d_X7_bringsOut_334 : decode cX7_bringsOut 334 = .ok (.iconst 0, 1) := by decide +kernel
theorem d_X7_bringsOut_335 : decode cX7_bringsOut 335 = .ok (.ireturn, 1) := by decide +kernel
def t_X7_bringsOut_0 : List (Nat × QO) := [(0, o_k 0 1), (1, o_is 3 2), (2, o_il 3 3), (3, o_k 6 5), (5, o_ic (fun x y => decide (y ≤ x)) 21 8), (8, o_al 0 9), (9, o_gf 7 26 12), (12, o_il 3 13), (13, o_k 0 14), (14, o_iast 15), (15, o_inc 3 1 18), (18, o_goto 2)]
theorem ts_X7_bringsOut_0 (sx : QX) : ∀ q ∈ t_X7_bringsOut_0, q_Snd sx RX7 cX7_bringsOut 7 (some .boolean) q.1 q.2 := List.forall_mem_cons.mpr ⟨s_iconst d_X7_bringsOut_0 rfl, List.forall_mem_cons.mpr ⟨s_istore_n d_X7_bringsOut_1 rfl (by decide), List.forall_mem_cons.mpr ⟨s_iload_n d_X7_bringsOut_2 rfl, List.forall_mem_cons.mpr ⟨s_bipush d_X7_bringsOut_3 rfl, List.forall_mem_cons.mpr ⟨s_ic_ge d_X7_bringsOut_5 (by decide), List.forall_mem_cons.mpr ⟨s_aload_n d_X7_bringsOut_8 rfl, List.forall_mem_cons.mpr ⟨s_gf d_X7_bringsOut_9 rfl (by decide) n_X7 in_X7 rfl k_4_55, List.forall_mem_cons.mpr ⟨s_iload_n d_X7_bringsOut_12 rfl, List.forall_mem_cons.mpr ⟨s_iconst d_X7_bringsOut_13 rfl, List.forall_mem_cons.mpr ⟨s_iast d_X7_bringsOut_14, List.forall_mem_cons.mpr ⟨s_iinc d_X7_bringsOut_15 rfl (by decide), List.forall_mem_cons.mpr ⟨s_goto d_X7_bringsOut_18 (by decide), fun _ h => absurd h List.not_mem_nil⟩⟩⟩⟩⟩⟩⟩⟩⟩⟩⟩⟩
def t_X7_bringsOut_1 : List (Nat × QO) := [(21, o_k 0 22), (22, o_is 3 23), (23, o_il 3 24), (24, o_k 4 25), (25, o_ic (fun x y => decide (y ≤ x)) 41 28), (28, o_al 0 29), (29, o_gf 7 27 32), (32, o_il 3 33), (33, o_k 0 34), (34, o_iast 35), (35, o_inc 3 1 38), (38, o_goto 23)]
theorem ts_X7_bringsOut_1 (sx : QX) : ∀ q ∈ t_X7_bringsOut_1, q_Snd sx RX7 cX7_bringsOut 7 (some .boolean) q.1 q.2 := List.forall_mem_cons.mpr ⟨s_iconst d_X7_bringsOut_21 rfl, List.forall_mem_cons.mpr ⟨s_istore_n d_X7_bringsOut_22 rfl (by decide), List.forall_mem_cons.mpr ⟨s_iload_n d_X7_bringsOut_23 rfl, List.forall_mem_cons.mpr ⟨s_iconst d_X7_bringsOut_24 rfl, List.forall_mem_cons.mpr ⟨s_ic_ge d_X7_bringsOut_25 (by decide), List.forall_mem_cons.mpr ⟨s_aload_n d_X7_bringsOut_28 rfl, List.forall_mem_cons.mpr ⟨s_gf d_X7_bringsOut_29 rfl (by decide) n_X7 in_X7 rfl k_4_56, List.forall_mem_cons.mpr ⟨s_iload_n d_X7_bringsOut_32 rfl, List.forall_mem_cons.mpr ⟨s_iconst d_X7_bringsOut_33 rfl, List.forall_mem_cons.mpr ⟨s_iast d_X7_bringsOut_34, List.forall_mem_cons.mpr ⟨s_iinc d_X7_bringsOut_35 rfl (by decide), List.forall_mem_cons.mpr ⟨s_goto d_X7_bringsOut_38 (by decide), fun _ h => absurd h List.not_mem_nil⟩⟩⟩⟩⟩⟩⟩⟩⟩⟩⟩⟩
def t_X7_bringsOut_2 : List (Nat × QO) := [(41, o_k 0 42), (42, o_is 3 43), (43, o_al 0 44), (44, o_gf 7 24 47), (47, o_k 0 48), (48, o_k (-1) 49), (49, o_iast 50), (50, o_al 0 51), (51, o_gf 7 25 54), (54, o_k 0 55), (55, o_al 0 56), (56, o_gf 7 0 59)]
theorem ts_X7_bringsOut_2 (sx : QX) : ∀ q ∈ t_X7_bringsOut_2, q_Snd sx RX7 cX7_bringsOut 7 (some .boolean) q.1 q.2 := List.forall_mem_cons.mpr ⟨s_iconst d_X7_bringsOut_41 rfl, List.forall_mem_cons.mpr ⟨s_istore_n d_X7_bringsOut_42 rfl (by decide), List.forall_mem_cons.mpr ⟨s_aload_n d_X7_bringsOut_43 rfl, List.forall_mem_cons.mpr ⟨s_gf d_X7_bringsOut_44 rfl (by decide) n_X7 in_X7 rfl k_4_53, List.forall_mem_cons.mpr ⟨s_iconst d_X7_bringsOut_47 rfl, List.forall_mem_cons.mpr ⟨s_iconst d_X7_bringsOut_48 rfl, List.forall_mem_cons.mpr ⟨s_iast d_X7_bringsOut_49, List.forall_mem_cons.mpr ⟨s_aload_n d_X7_bringsOut_50 rfl, List.forall_mem_cons.mpr ⟨s_gf d_X7_bringsOut_51 rfl (by decide) n_X7 in_X7 rfl k_4_54, List.forall_mem_cons.mpr ⟨s_iconst d_X7_bringsOut_54 rfl, List.forall_mem_cons.mpr ⟨s_aload_n d_X7_bringsOut_55 rfl, List.forall_mem_cons.mpr ⟨s_gf d_X7_bringsOut_56 rfl (by decide) n_X7 in_X7 rfl k_4_29, fun _ h => absurd h List.not_mem_nil⟩⟩⟩⟩⟩⟩⟩⟩⟩⟩⟩⟩
def t_X7_bringsOut_3 : List (Nat × QO) := [(59, o_k 1 60), (60, o_il 1 61), (61, o_b (fun x y => x + y) 62), (62, o_iald 63), (63, o_iast 64), (64, o_il 3 65), (65, o_if (fun x => decide (x < 0)) 334 68), (68, o_il 3 69), (69, o_il 2 70), (70, o_ic (fun x y => decide (x ≠ y)) 96 73), (73, o_al 0 74), (74, o_gf 7 25 77)]
theorem ts_X7_bringsOut_3 (sx : QX) : ∀ q ∈ t_X7_bringsOut_3, q_Snd sx RX7 cX7_bringsOut 7 (some .boolean) q.1 q.2 := List.forall_mem_cons.mpr ⟨s_iconst d_X7_bringsOut_59 rfl, List.forall_mem_cons.mpr ⟨s_iload_n d_X7_bringsOut_60 rfl, List.forall_mem_cons.mpr ⟨s_iadd d_X7_bringsOut_61, List.forall_mem_cons.mpr ⟨s_iald d_X7_bringsOut_62, List.forall_mem_cons.mpr ⟨s_iast d_X7_bringsOut_63, List.forall_mem_cons.mpr ⟨s_iload_n d_X7_bringsOut_64 rfl, List.forall_mem_cons.mpr ⟨s_if_lt d_X7_bringsOut_65 (by decide), List.forall_mem_cons.mpr ⟨s_iload_n d_X7_bringsOut_68 rfl, List.forall_mem_cons.mpr ⟨s_iload_n d_X7_bringsOut_69 rfl, List.forall_mem_cons.mpr ⟨s_ic_ne d_X7_bringsOut_70 (by decide), List.forall_mem_cons.mpr ⟨s_aload_n d_X7_bringsOut_73 rfl, List.forall_mem_cons.mpr ⟨s_gf d_X7_bringsOut_74 rfl (by decide) n_X7 in_X7 rfl k_4_54, fun _ h => absurd h List.not_mem_nil⟩⟩⟩⟩⟩⟩⟩⟩⟩⟩⟩⟩
def t_X7_bringsOut_4 : List (Nat × QO) := [(77, o_il 3 78), (78, o_iald 79), (79, o_al 0 80), (80, o_gf 7 5 83), (83, o_il 1 84), (84, o_iald 85), (85, o_ic (fun x y => decide (x < y)) 90 88), (88, o_k 1 89), (89, o_ir true), (90, o_inc 3 (-1) 93), (93, o_goto 64), (96, o_al 0 97)]
theorem ts_X7_bringsOut_4 (sx : QX) : ∀ q ∈ t_X7_bringsOut_4, q_Snd sx RX7 cX7_bringsOut 7 (some .boolean) q.1 q.2 := List.forall_mem_cons.mpr ⟨s_iload_n d_X7_bringsOut_77 rfl, List.forall_mem_cons.mpr ⟨s_iald d_X7_bringsOut_78, List.forall_mem_cons.mpr ⟨s_aload_n d_X7_bringsOut_79 rfl, List.forall_mem_cons.mpr ⟨s_gf d_X7_bringsOut_80 rfl (by decide) n_X7 in_X7 rfl k_4_34, List.forall_mem_cons.mpr ⟨s_iload_n d_X7_bringsOut_83 rfl, List.forall_mem_cons.mpr ⟨s_iald d_X7_bringsOut_84, List.forall_mem_cons.mpr ⟨s_ic_lt d_X7_bringsOut_85 (by decide), List.forall_mem_cons.mpr ⟨s_iconst d_X7_bringsOut_88 rfl, List.forall_mem_cons.mpr ⟨s_zr d_X7_bringsOut_89 rfl, List.forall_mem_cons.mpr ⟨s_iinc d_X7_bringsOut_90 rfl (by decide), List.forall_mem_cons.mpr ⟨s_goto d_X7_bringsOut_93 (by decide), List.forall_mem_cons.mpr ⟨s_aload_n d_X7_bringsOut_96 rfl, fun _ h => absurd h List.not_mem_nil⟩⟩⟩⟩⟩⟩⟩⟩⟩⟩⟩⟩
def t_X7_bringsOut_5 : List (Nat × QO) := [(97, o_gf 7 24 100), (100, o_il 3 101), (101, o_iald 102), (102, o_if (fun x => decide (x < 0)) 145 105), (105, o_al 0 106), (106, o_gf 7 27 109), (109, o_al 0 110), (110, o_gf 7 24 113), (113, o_il 3 114), (114, o_iald 115), (115, o_al 0 116), (116, o_gf 7 6 119)]
theorem ts_X7_bringsOut_5 (sx : QX) : ∀ q ∈ t_X7_bringsOut_5, q_Snd sx RX7 cX7_bringsOut 7 (some .boolean) q.1 q.2 := List.forall_mem_cons.mpr ⟨s_gf d_X7_bringsOut_97 rfl (by decide) n_X7 in_X7 rfl k_4_53, List.forall_mem_cons.mpr ⟨s_iload_n d_X7_bringsOut_100 rfl, List.forall_mem_cons.mpr ⟨s_iald d_X7_bringsOut_101, List.forall_mem_cons.mpr ⟨s_if_lt d_X7_bringsOut_102 (by decide), List.forall_mem_cons.mpr ⟨s_aload_n d_X7_bringsOut_105 rfl, List.forall_mem_cons.mpr ⟨s_gf d_X7_bringsOut_106 rfl (by decide) n_X7 in_X7 rfl k_4_56, List.forall_mem_cons.mpr ⟨s_aload_n d_X7_bringsOut_109 rfl, List.forall_mem_cons.mpr ⟨s_gf d_X7_bringsOut_110 rfl (by decide) n_X7 in_X7 rfl k_4_53, List.forall_mem_cons.mpr ⟨s_iload_n d_X7_bringsOut_113 rfl, List.forall_mem_cons.mpr ⟨s_iald d_X7_bringsOut_114, List.forall_mem_cons.mpr ⟨s_aload_n d_X7_bringsOut_115 rfl, List.forall_mem_cons.mpr ⟨s_gf d_X7_bringsOut_116 rfl (by decide) n_X7 in_X7 rfl k_4_35, fun _ h => absurd h List.not_mem_nil⟩⟩⟩⟩⟩⟩⟩⟩⟩⟩⟩⟩
def t_X7_bringsOut_6 : List (Nat × QO) := [(119, o_bz (fun x y => x / y) 120), (120, o_dup2 121), (121, o_iald 122), (122, o_k 1 123), (123, o_b (fun x y => x - y) 124), (124, o_iast 125), (125, o_al 0 126), (126, o_gf 7 26 129), (129, o_al 0 130), (130, o_gf 7 24 133), (133, o_il 3 134), (134, o_iald 135)]
theorem ts_X7_bringsOut_6 (sx : QX) : ∀ q ∈ t_X7_bringsOut_6, q_Snd sx RX7 cX7_bringsOut 7 (some .boolean) q.1 q.2 := List.forall_mem_cons.mpr ⟨s_idiv d_X7_bringsOut_119, List.forall_mem_cons.mpr ⟨s_dup2 d_X7_bringsOut_120, List.forall_mem_cons.mpr ⟨s_iald d_X7_bringsOut_121, List.forall_mem_cons.mpr ⟨s_iconst d_X7_bringsOut_122 rfl, List.forall_mem_cons.mpr ⟨s_isub d_X7_bringsOut_123, List.forall_mem_cons.mpr ⟨s_iast d_X7_bringsOut_124, List.forall_mem_cons.mpr ⟨s_aload_n d_X7_bringsOut_125 rfl, List.forall_mem_cons.mpr ⟨s_gf d_X7_bringsOut_126 rfl (by decide) n_X7 in_X7 rfl k_4_55, List.forall_mem_cons.mpr ⟨s_aload_n d_X7_bringsOut_129 rfl, List.forall_mem_cons.mpr ⟨s_gf d_X7_bringsOut_130 rfl (by decide) n_X7 in_X7 rfl k_4_53, List.forall_mem_cons.mpr ⟨s_iload_n d_X7_bringsOut_133 rfl, List.forall_mem_cons.mpr ⟨s_iald d_X7_bringsOut_134, fun _ h => absurd h List.not_mem_nil⟩⟩⟩⟩⟩⟩⟩⟩⟩⟩⟩⟩
def t_X7_bringsOut_7 : List (Nat × QO) := [(135, o_al 0 136), (136, o_gf 7 6 139), (139, o_bz (fun x y => x - x / y * y) 140), (140, o_dup2 141), (141, o_iald 142), (142, o_k 1 143), (143, o_b (fun x y => x - y) 144), (144, o_iast 145), (145, o_al 0 146), (146, o_gf 7 24 149), (149, o_il 3 150), (150, o_iald 151)]
theorem ts_X7_bringsOut_7 (sx : QX) : ∀ q ∈ t_X7_bringsOut_7, q_Snd sx RX7 cX7_bringsOut 7 (some .boolean) q.1 q.2 := List.forall_mem_cons.mpr ⟨s_aload_n d_X7_bringsOut_135 rfl, List.forall_mem_cons.mpr ⟨s_gf d_X7_bringsOut_136 rfl (by decide) n_X7 in_X7 rfl k_4_35, List.forall_mem_cons.mpr ⟨s_irem d_X7_bringsOut_139, List.forall_mem_cons.mpr ⟨s_dup2 d_X7_bringsOut_140, List.forall_mem_cons.mpr ⟨s_iald d_X7_bringsOut_141, List.forall_mem_cons.mpr ⟨s_iconst d_X7_bringsOut_142 rfl, List.forall_mem_cons.mpr ⟨s_isub d_X7_bringsOut_143, List.forall_mem_cons.mpr ⟨s_iast d_X7_bringsOut_144, List.forall_mem_cons.mpr ⟨s_aload_n d_X7_bringsOut_145 rfl, List.forall_mem_cons.mpr ⟨s_gf d_X7_bringsOut_146 rfl (by decide) n_X7 in_X7 rfl k_4_53, List.forall_mem_cons.mpr ⟨s_iload_n d_X7_bringsOut_149 rfl, List.forall_mem_cons.mpr ⟨s_iald d_X7_bringsOut_150, fun _ h => absurd h List.not_mem_nil⟩⟩⟩⟩⟩⟩⟩⟩⟩⟩⟩⟩
def t_X7_bringsOut_8 : List (Nat × QO) := [(151, o_k 1 152), (152, o_b (fun x y => x + y) 153), (153, o_is 4 155), (155, o_il 4 157), (157, o_al 0 158), (158, o_gf 7 8 161), (161, o_al 0 162), (162, o_gf 7 6 165), (165, o_b (fun x y => x * y) 166), (166, o_ic (fun x y => decide (y ≤ x)) 205 169), (169, o_al 0 170), (170, o_gf 7 27 173)]
theorem ts_X7_bringsOut_8 (sx : QX) : ∀ q ∈ t_X7_bringsOut_8, q_Snd sx RX7 cX7_bringsOut 7 (some .boolean) q.1 q.2 := List.forall_mem_cons.mpr ⟨s_iconst d_X7_bringsOut_151 rfl, List.forall_mem_cons.mpr ⟨s_iadd d_X7_bringsOut_152, List.forall_mem_cons.mpr ⟨s_istore d_X7_bringsOut_153 (by decide), List.forall_mem_cons.mpr ⟨s_iload d_X7_bringsOut_155, List.forall_mem_cons.mpr ⟨s_aload_n d_X7_bringsOut_157 rfl, List.forall_mem_cons.mpr ⟨s_gf d_X7_bringsOut_158 rfl (by decide) n_X7 in_X7 rfl k_4_37, List.forall_mem_cons.mpr ⟨s_aload_n d_X7_bringsOut_161 rfl, List.forall_mem_cons.mpr ⟨s_gf d_X7_bringsOut_162 rfl (by decide) n_X7 in_X7 rfl k_4_35, List.forall_mem_cons.mpr ⟨s_imul d_X7_bringsOut_165, List.forall_mem_cons.mpr ⟨s_ic_ge d_X7_bringsOut_166 (by decide), List.forall_mem_cons.mpr ⟨s_aload_n d_X7_bringsOut_169 rfl, List.forall_mem_cons.mpr ⟨s_gf d_X7_bringsOut_170 rfl (by decide) n_X7 in_X7 rfl k_4_56, fun _ h => absurd h List.not_mem_nil⟩⟩⟩⟩⟩⟩⟩⟩⟩⟩⟩⟩
def t_X7_bringsOut_9 : List (Nat × QO) := [(173, o_il 4 175), (175, o_al 0 176), (176, o_gf 7 6 179), (179, o_bz (fun x y => x / y) 180), (180, o_iald 181), (181, o_al 0 182), (182, o_gf 7 0 185), (185, o_k 79 187), (187, o_il 4 189), (189, o_al 0 190), (190, o_gf 7 6 193), (193, o_bz (fun x y => x / y) 194)]
theorem ts_X7_bringsOut_9 (sx : QX) : ∀ q ∈ t_X7_bringsOut_9, q_Snd sx RX7 cX7_bringsOut 7 (some .boolean) q.1 q.2 := List.forall_mem_cons.mpr ⟨s_iload d_X7_bringsOut_173, List.forall_mem_cons.mpr ⟨s_aload_n d_X7_bringsOut_175 rfl, List.forall_mem_cons.mpr ⟨s_gf d_X7_bringsOut_176 rfl (by decide) n_X7 in_X7 rfl k_4_35, List.forall_mem_cons.mpr ⟨s_idiv d_X7_bringsOut_179, List.forall_mem_cons.mpr ⟨s_iald d_X7_bringsOut_180, List.forall_mem_cons.mpr ⟨s_aload_n d_X7_bringsOut_181 rfl, List.forall_mem_cons.mpr ⟨s_gf d_X7_bringsOut_182 rfl (by decide) n_X7 in_X7 rfl k_4_29, List.forall_mem_cons.mpr ⟨s_bipush d_X7_bringsOut_185 rfl, List.forall_mem_cons.mpr ⟨s_iload d_X7_bringsOut_187, List.forall_mem_cons.mpr ⟨s_aload_n d_X7_bringsOut_189 rfl, List.forall_mem_cons.mpr ⟨s_gf d_X7_bringsOut_190 rfl (by decide) n_X7 in_X7 rfl k_4_35, List.forall_mem_cons.mpr ⟨s_idiv d_X7_bringsOut_193, fun _ h => absurd h List.not_mem_nil⟩⟩⟩⟩⟩⟩⟩⟩⟩⟩⟩⟩
def t_X7_bringsOut_10 : List (Nat × QO) := [(194, o_b (fun x y => x + y) 195), (195, o_iald 196), (196, o_ic (fun x y => decide (x < y)) 205 199), (199, o_inc 4 1 202), (202, o_goto 155), (205, o_al 0 206), (206, o_gf 7 24 209), (209, o_il 3 210), (210, o_il 4 212), (212, o_iast 213), (213, o_il 4 215), (215, o_al 0 216)]
theorem ts_X7_bringsOut_10 (sx : QX) : ∀ q ∈ t_X7_bringsOut_10, q_Snd sx RX7 cX7_bringsOut 7 (some .boolean) q.1 q.2 := List.forall_mem_cons.mpr ⟨s_iadd d_X7_bringsOut_194, List.forall_mem_cons.mpr ⟨s_iald d_X7_bringsOut_195, List.forall_mem_cons.mpr ⟨s_ic_lt d_X7_bringsOut_196 (by decide), List.forall_mem_cons.mpr ⟨s_iinc d_X7_bringsOut_199 rfl (by decide), List.forall_mem_cons.mpr ⟨s_goto d_X7_bringsOut_202 (by decide), List.forall_mem_cons.mpr ⟨s_aload_n d_X7_bringsOut_205 rfl, List.forall_mem_cons.mpr ⟨s_gf d_X7_bringsOut_206 rfl (by decide) n_X7 in_X7 rfl k_4_53, List.forall_mem_cons.mpr ⟨s_iload_n d_X7_bringsOut_209 rfl, List.forall_mem_cons.mpr ⟨s_iload d_X7_bringsOut_210, List.forall_mem_cons.mpr ⟨s_iast d_X7_bringsOut_212, List.forall_mem_cons.mpr ⟨s_iload d_X7_bringsOut_213, List.forall_mem_cons.mpr ⟨s_aload_n d_X7_bringsOut_215 rfl, fun _ h => absurd h List.not_mem_nil⟩⟩⟩⟩⟩⟩⟩⟩⟩⟩⟩⟩
def t_X7_bringsOut_11 : List (Nat × QO) := [(216, o_gf 7 8 219), (219, o_al 0 220), (220, o_gf 7 6 223), (223, o_b (fun x y => x * y) 224), (224, o_ic (fun x y => decide (x ≠ y)) 233 227), (227, o_inc 3 (-1) 230), (230, o_goto 331), (233, o_il 4 235), (235, o_al 0 236), (236, o_gf 7 6 239), (239, o_bz (fun x y => x / y) 240), (240, o_is 5 242)]
theorem ts_X7_bringsOut_11 (sx : QX) : ∀ q ∈ t_X7_bringsOut_11, q_Snd sx RX7 cX7_bringsOut 7 (some .boolean) q.1 q.2 := List.forall_mem_cons.mpr ⟨s_gf d_X7_bringsOut_216 rfl (by decide) n_X7 in_X7 rfl k_4_37, List.forall_mem_cons.mpr ⟨s_aload_n d_X7_bringsOut_219 rfl, List.forall_mem_cons.mpr ⟨s_gf d_X7_bringsOut_220 rfl (by decide) n_X7 in_X7 rfl k_4_35, List.forall_mem_cons.mpr ⟨s_imul d_X7_bringsOut_223, List.forall_mem_cons.mpr ⟨s_ic_ne d_X7_bringsOut_224 (by decide), List.forall_mem_cons.mpr ⟨s_iinc d_X7_bringsOut_227 rfl (by decide), List.forall_mem_cons.mpr ⟨s_goto d_X7_bringsOut_230 (by decide), List.forall_mem_cons.mpr ⟨s_iload d_X7_bringsOut_233, List.forall_mem_cons.mpr ⟨s_aload_n d_X7_bringsOut_235 rfl, List.forall_mem_cons.mpr ⟨s_gf d_X7_bringsOut_236 rfl (by decide) n_X7 in_X7 rfl k_4_35, List.forall_mem_cons.mpr ⟨s_idiv d_X7_bringsOut_239, List.forall_mem_cons.mpr ⟨s_istore d_X7_bringsOut_240 (by decide), fun _ h => absurd h List.not_mem_nil⟩⟩⟩⟩⟩⟩⟩⟩⟩⟩⟩⟩
def t_X7_bringsOut_12 : List (Nat × QO) := [(242, o_il 4 244), (244, o_al 0 245), (245, o_gf 7 6 248), (248, o_bz (fun x y => x - x / y * y) 249), (249, o_is 6 251), (251, o_al 0 252), (252, o_gf 7 25 255), (255, o_il 3 256), (256, o_k 1 257), (257, o_b (fun x y => x + y) 258), (258, o_al 0 259), (259, o_gf 7 25 262)]
theorem ts_X7_bringsOut_12 (sx : QX) : ∀ q ∈ t_X7_bringsOut_12, q_Snd sx RX7 cX7_bringsOut 7 (some .boolean) q.1 q.2 := List.forall_mem_cons.mpr ⟨s_iload d_X7_bringsOut_242, List.forall_mem_cons.mpr ⟨s_aload_n d_X7_bringsOut_244 rfl, List.forall_mem_cons.mpr ⟨s_gf d_X7_bringsOut_245 rfl (by decide) n_X7 in_X7 rfl k_4_35, List.forall_mem_cons.mpr ⟨s_irem d_X7_bringsOut_248, List.forall_mem_cons.mpr ⟨s_istore d_X7_bringsOut_249 (by decide), List.forall_mem_cons.mpr ⟨s_aload_n d_X7_bringsOut_251 rfl, List.forall_mem_cons.mpr ⟨s_gf d_X7_bringsOut_252 rfl (by decide) n_X7 in_X7 rfl k_4_54, List.forall_mem_cons.mpr ⟨s_iload_n d_X7_bringsOut_255 rfl, List.forall_mem_cons.mpr ⟨s_iconst d_X7_bringsOut_256 rfl, List.forall_mem_cons.mpr ⟨s_iadd d_X7_bringsOut_257, List.forall_mem_cons.mpr ⟨s_aload_n d_X7_bringsOut_258 rfl, List.forall_mem_cons.mpr ⟨s_gf d_X7_bringsOut_259 rfl (by decide) n_X7 in_X7 rfl k_4_54, fun _ h => absurd h List.not_mem_nil⟩⟩⟩⟩⟩⟩⟩⟩⟩⟩⟩⟩
def t_X7_bringsOut_13 : List (Nat × QO) := [(262, o_il 3 263), (263, o_iald 264), (264, o_al 0 265), (265, o_il 5 267), (267, o_il 1 268), (268, o_il 6 270), (270, o_cV 1 7 135 5 4 273), (273, o_al 0 274), (274, o_k 0 275), (275, o_il 1 276), (276, o_il 6 278), (278, o_cV 1 7 134 4 4 281)]
theorem ts_X7_bringsOut_13 (sx : QX) : ∀ q ∈ t_X7_bringsOut_13, q_Snd sx RX7 cX7_bringsOut 7 (some .boolean) q.1 q.2 := List.forall_mem_cons.mpr ⟨s_iload_n d_X7_bringsOut_262 rfl, List.forall_mem_cons.mpr ⟨s_iald d_X7_bringsOut_263, List.forall_mem_cons.mpr ⟨s_aload_n d_X7_bringsOut_264 rfl, List.forall_mem_cons.mpr ⟨s_iload d_X7_bringsOut_265, List.forall_mem_cons.mpr ⟨s_iload_n d_X7_bringsOut_267 rfl, List.forall_mem_cons.mpr ⟨s_iload d_X7_bringsOut_268, List.forall_mem_cons.mpr ⟨s_cV (T := TX7) (N := 30) rfl d_X7_bringsOut_270 rfl k_4_219 k_4_221 k_0_36 k_1_12 k_4_222 ⟨by decide, by decide⟩ (by decide +kernel) (by decide), List.forall_mem_cons.mpr ⟨s_aload_n d_X7_bringsOut_273 rfl, List.forall_mem_cons.mpr ⟨s_iconst d_X7_bringsOut_274 rfl, List.forall_mem_cons.mpr ⟨s_iload_n d_X7_bringsOut_275 rfl, List.forall_mem_cons.mpr ⟨s_iload d_X7_bringsOut_276, List.forall_mem_cons.mpr ⟨s_cV (T := TX7) (N := 30) rfl d_X7_bringsOut_278 rfl k_4_227 k_4_229 k_0_38 k_1_12 k_4_230 ⟨by decide, by decide⟩ (by decide +kernel) (by decide), fun _ h => absurd h List.not_mem_nil⟩⟩⟩⟩⟩⟩⟩⟩⟩⟩⟩⟩
def t_X7_bringsOut_14 : List (Nat × QO) := [(281, o_al 0 282), (282, o_gf 7 26 285), (285, o_il 6 287), (287, o_iald 288), (288, o_b (fun x y => x + y) 289), (289, o_cS 1 133 2 2 292), (292, o_b (fun x y => x + y) 293), (293, o_iast 294), (294, o_al 0 295), (295, o_gf 7 27 298), (298, o_il 5 300), (300, o_dup2 301)]
theorem ts_X7_bringsOut_14 (sx : QX) : ∀ q ∈ t_X7_bringsOut_14, q_Snd sx RX7 cX7_bringsOut 7 (some .boolean) q.1 q.2 := List.forall_mem_cons.mpr ⟨s_aload_n d_X7_bringsOut_281 rfl, List.forall_mem_cons.mpr ⟨s_gf d_X7_bringsOut_282 rfl (by decide) n_X7 in_X7 rfl k_4_55, List.forall_mem_cons.mpr ⟨s_iload d_X7_bringsOut_285, List.forall_mem_cons.mpr ⟨s_iald d_X7_bringsOut_287, List.forall_mem_cons.mpr ⟨s_iadd d_X7_bringsOut_288, List.forall_mem_cons.mpr ⟨s_cS rfl d_X7_bringsOut_289 k_4_231 k_4_232 k_1_12 k_4_233 ⟨by decide, by decide⟩ (by decide +kernel) (by decide), List.forall_mem_cons.mpr ⟨s_iadd d_X7_bringsOut_292, List.forall_mem_cons.mpr ⟨s_iast d_X7_bringsOut_293, List.forall_mem_cons.mpr ⟨s_aload_n d_X7_bringsOut_294 rfl, List.forall_mem_cons.mpr ⟨s_gf d_X7_bringsOut_295 rfl (by decide) n_X7 in_X7 rfl k_4_56, List.forall_mem_cons.mpr ⟨s_iload d_X7_bringsOut_298, List.forall_mem_cons.mpr ⟨s_dup2 d_X7_bringsOut_300, fun _ h => absurd h List.not_mem_nil⟩⟩⟩⟩⟩⟩⟩⟩⟩⟩⟩⟩
def t_X7_bringsOut_15 : List (Nat × QO) := [(301, o_iald 302), (302, o_k 1 303), (303, o_b (fun x y => x + y) 304), (304, o_iast 305), (305, o_al 0 306), (306, o_gf 7 26 309), (309, o_il 6 311), (311, o_dup2 312), (312, o_iald 313), (313, o_k 1 314), (314, o_b (fun x y => x + y) 315), (315, o_iast 316)]
theorem ts_X7_bringsOut_15 (sx : QX) : ∀ q ∈ t_X7_bringsOut_15, q_Snd sx RX7 cX7_bringsOut 7 (some .boolean) q.1 q.2 := List.forall_mem_cons.mpr ⟨s_iald d_X7_bringsOut_301, List.forall_mem_cons.mpr ⟨s_iconst d_X7_bringsOut_302 rfl, List.forall_mem_cons.mpr ⟨s_iadd d_X7_bringsOut_303, List.forall_mem_cons.mpr ⟨s_iast d_X7_bringsOut_304, List.forall_mem_cons.mpr ⟨s_aload_n d_X7_bringsOut_305 rfl, List.forall_mem_cons.mpr ⟨s_gf d_X7_bringsOut_306 rfl (by decide) n_X7 in_X7 rfl k_4_55, List.forall_mem_cons.mpr ⟨s_iload d_X7_bringsOut_309, List.forall_mem_cons.mpr ⟨s_dup2 d_X7_bringsOut_311, List.forall_mem_cons.mpr ⟨s_iald d_X7_bringsOut_312, List.forall_mem_cons.mpr ⟨s_iconst d_X7_bringsOut_313 rfl, List.forall_mem_cons.mpr ⟨s_iadd d_X7_bringsOut_314, List.forall_mem_cons.mpr ⟨s_iast d_X7_bringsOut_315, fun _ h => absurd h List.not_mem_nil⟩⟩⟩⟩⟩⟩⟩⟩⟩⟩⟩⟩
def t_X7_bringsOut_16 : List (Nat × QO) := [(316, o_inc 3 1 319), (319, o_il 3 320), (320, o_il 2 321), (321, o_ic (fun x y => decide (y ≤ x)) 331 324), (324, o_al 0 325), (325, o_gf 7 24 328), (328, o_il 3 329), (329, o_k (-1) 330), (330, o_iast 331), (331, o_goto 64), (334, o_k 0 335), (335, o_ir true)]
theorem ts_X7_bringsOut_16 (sx : QX) : ∀ q ∈ t_X7_bringsOut_16, q_Snd sx RX7 cX7_bringsOut 7 (some .boolean) q.1 q.2 := List.forall_mem_cons.mpr ⟨s_iinc d_X7_bringsOut_316 rfl (by decide), List.forall_mem_cons.mpr ⟨s_iload_n d_X7_bringsOut_319 rfl, List.forall_mem_cons.mpr ⟨s_iload_n d_X7_bringsOut_320 rfl, List.forall_mem_cons.mpr ⟨s_ic_ge d_X7_bringsOut_321 (by decide), List.forall_mem_cons.mpr ⟨s_aload_n d_X7_bringsOut_324 rfl, List.forall_mem_cons.mpr ⟨s_gf d_X7_bringsOut_325 rfl (by decide) n_X7 in_X7 rfl k_4_53, List.forall_mem_cons.mpr ⟨s_iload_n d_X7_bringsOut_328 rfl, List.forall_mem_cons.mpr ⟨s_iconst d_X7_bringsOut_329 rfl, List.forall_mem_cons.mpr ⟨s_iast d_X7_bringsOut_330, List.forall_mem_cons.mpr ⟨s_goto d_X7_bringsOut_331 (by decide), List.forall_mem_cons.mpr ⟨s_iconst d_X7_bringsOut_334 rfl, List.forall_mem_cons.mpr ⟨s_zr d_X7_bringsOut_335 rfl, fun _ h => absurd h List.not_mem_nil⟩⟩⟩⟩⟩⟩⟩⟩⟩⟩⟩⟩
def t_X7_bringsOut (pc : Nat) : Option QO := cond (Nat.ble pc 150) (cond (Nat.ble pc 74) (cond (Nat.ble pc 38) (cond (Nat.ble pc 18) (q_look (t_X7_bringsOut_0) pc) (q_look (t_X7_bringsOut_1) pc)) (cond (Nat.ble pc 56) (q_look (t_X7_bringsOut_2) pc) (q_look (t_X7_bringsOut_3) pc))) (cond (Nat.ble pc 116) (cond (Nat.ble pc 96) (q_look (t_X7_bringsOut_4) pc) (q_look (t_X7_bringsOut_5) pc)) (cond (Nat.ble pc 134) (q_look (t_X7_bringsOut_6) pc) (q_look (t_X7_bringsOut_7) pc)))) (cond (Nat.ble pc 240) (cond (Nat.ble pc 193) (cond (Nat.ble pc 170) (q_look (t_X7_bringsOut_8) pc) (q_look (t_X7_bringsOut_9) pc)) (cond (Nat.ble pc 215) (q_look (t_X7_bringsOut_10) pc) (q_look (t_X7_bringsOut_11) pc))) (cond (Nat.ble pc 278) (cond (Nat.ble pc 259) (q_look (t_X7_bringsOut_12) pc) (q_look (t_X7_bringsOut_13) pc)) (cond (Nat.ble pc 300) (q_look (t_X7_bringsOut_14) pc) (cond (Nat.ble pc 315) (q_look (t_X7_bringsOut_15) pc) (q_look (t_X7_bringsOut_16) pc)))))
theorem ts_X7_bringsOut (sx : QX) (pc : Nat) : ∀ o, t_X7_bringsOut pc = some o → q_Snd sx RX7 cX7_bringsOut 7 (some .boolean) pc o := by
  unfold t_X7_bringsOut
  exact q_cb (q_cb (q_cb (q_cb (q_look_all (ts_X7_bringsOut_0 sx)) (q_look_all (ts_X7_bringsOut_1 sx))) (q_cb (q_look_all (ts_X7_bringsOut_2 sx)) (q_look_all (ts_X7_bringsOut_3 sx)))) (q_cb (q_cb (q_look_all (ts_X7_bringsOut_4 sx)) (q_look_all (ts_X7_bringsOut_5 sx))) (q_cb (q_look_all (ts_X7_bringsOut_6 sx)) (q_look_all (ts_X7_bringsOut_7 sx))))) (q_cb (q_cb (q_cb (q_look_all (ts_X7_bringsOut_8 sx)) (q_look_all (ts_X7_bringsOut_9 sx))) (q_cb (q_look_all (ts_X7_bringsOut_10 sx)) (q_look_all (ts_X7_bringsOut_11 sx)))) (q_cb (q_cb (q_look_all (ts_X7_bringsOut_12 sx)) (q_look_all (ts_X7_bringsOut_13 sx))) (q_cb (q_look_all (ts_X7_bringsOut_14 sx)) (q_cb (q_look_all (ts_X7_bringsOut_15 sx)) (q_look_all (ts_X7_bringsOut_16 sx))))))
theorem d_X7_least_0 : decode cX7_least 0 = .ok (.aload_n 0, 1) := by decide +kernel
theorem d_X7_least_1 : decode cX7_least 1 = .ok (.iload_n 1, 1) := by decide +kernel
theorem d_X7_least_2 : decode cX7_least 2 = .ok (.invokevirtual 161, 3) := by decide +kernel
theorem d_X7_least_5 : decode cX7_least 5 = .ok (.ifCond .eq 8, 3) := by decide +kernel
theorem d_X7_least_8 : decode cX7_least 8 = .ok (.iload_n 2, 1) := by decide +kernel
theorem d_X7_least_9 : decode cX7_least 9 = .ok (.iconst (-1), 1) := by decide +kernel
theorem d_X7_least_10 : decode cX7_least 10 = .ok (.if_icmp .ge 5, 3) := by decide +kernel
theorem d_X7_least_13 : decode cX7_least 13 = .ok (.iconst (-1), 1) := by decide +kernel
theorem d_X7_least_14 : decode cX7_least 14 = .ok (.ireturn, 1) := by decide +kernel
theorem d_X7_least_15 : decode cX7_least 15 = .ok (.aload_n 0, 1) := by decide +kernel
theorem d_X7_least_16 : decode cX7_least 16 = .ok (.iconst 0, 1) := by decide +kernel
theorem d_X7_least_17 : decode cX7_least 17 = .ok (.iload_n 1, 1) := by decide +kernel
theorem d_X7_least_18 : decode cX7_least 18 = .ok (.invokevirtual 189, 3) := by decide +kernel
theorem d_X7_least_21 : decode cX7_least 21 = .ok (.ifCond .ne 6, 3) := by decide +kernel
theorem d_X7_least_24 : decode cX7_least 24 = .ok (.bipush (-2), 2) := by decide +kernel
theorem d_X7_least_26 : decode cX7_least 26 = .ok (.ireturn, 1) := by decide +kernel
theorem d_X7_least_27 : decode cX7_least 27 = .ok (.iconst 1, 1) := by decide +kernel
theorem d_X7_least_28 : decode cX7_least 28 = .ok (.istore_n 3, 1) := by decide +kernel
theorem d_X7_least_29 : decode cX7_least 29 = .ok (.iload_n 3, 1) := by decide +kernel
theorem d_X7_least_30 : decode cX7_least 30 = .ok (.iconst 4, 1) := by decide +kernel
theorem d_X7_least_31 : decode cX7_least 31 = .ok (.if_icmp .gt 63, 3) := by decide +kernel
theorem d_X7_least_34 : decode cX7_least 34 = .ok (.aload_n 0, 1) := by decide +kernel
theorem d_X7_least_35 : decode cX7_least 35 = .ok (.iload_n 1, 1) := by decide +kernel
theorem d_X7_least_36 : decode cX7_least 36 = .ok (.iload_n 3, 1) := by decide +kernel
theorem d_X7_least_37 : decode cX7_least 37 = .ok (.invokevirtual 226, 3) := by decide +kernel
theorem d_X7_least_40 : decode cX7_least 40 = .ok (.ifCond .eq 48, 3) := by decide +kernel
theorem d_X7_least_43 : decode cX7_least 43 = .ok (.iload_n 2, 1) := by decide +kernel
theorem d_X7_least_44 : decode cX7_least 44 = .ok (.ifCond .ge 7, 3) := by decide +kernel
theorem d_X7_least_47 : decode cX7_least 47 = .ok (.iload_n 3, 1) := by decide +kernel
theorem d_X7_least_48 : decode cX7_least 48 = .ok (.goto 39, 3) := by decide +kernel
theorem d_X7_least_51 : decode cX7_least 51 = .ok (.iload_n 2, 1) := by decide +kernel
theorem d_X7_least_52 : decode cX7_least 52 = .ok (.iload_n 3, 1) := by decide +kernel
theorem d_X7_least_53 : decode cX7_least 53 = .ok (.if_icmp .ge 32, 3) := by decide +kernel
theorem d_X7_least_56 : decode cX7_least 56 = .ok (.bipush 10, 2) := by decide +kernel
theorem d_X7_least_58 : decode cX7_least 58 = .ok (.aload_n 0, 1) := by decide +kernel
theorem d_X7_least_59 : decode cX7_least 59 = .ok (.getfield 43, 3) := by decide +kernel
theorem d_X7_least_62 : decode cX7_least 62 = .ok (.iload_n 2, 1) := by decide +kernel
theorem d_X7_least_63 : decode cX7_least 63 = .ok (.iaload, 1) := by decide +kernel
theorem d_X7_least_64 : decode cX7_least 64 = .ok (.aload_n 0, 1) := by decide +kernel
theorem d_X7_least_65 : decode cX7_least 65 = .ok (.getfield 89, 3) := by decide +kernel
theorem d_X7_least_68 : decode cX7_least 68 = .ok (.idiv, 1) := by decide +kernel
theorem d_X7_least_69 : decode cX7_least 69 = .ok (.imul, 1) := by decide +kernel
theorem d_X7_least_70 : decode cX7_least 70 = .ok (.aload_n 0, 1) := by decide +kernel
theorem d_X7_least_71 : decode cX7_least 71 = .ok (.getfield 43, 3) := by decide +kernel
theorem d_X7_least_74 : decode cX7_least 74 = .ok (.iload_n 2, 1) := by decide +kernel
theorem d_X7_least_75 : decode cX7_least 75 = .ok (.iaload, 1) := by decide +kernel
theorem d_X7_least_76 : decode cX7_least 76 = .ok (.aload_n 0, 1) := by decide +kernel
theorem d_X7_least_77 : decode cX7_least 77 = .ok (.getfield 89, 3) := by decide +kernel
theorem d_X7_least_80 : decode cX7_least 80 = .ok (.irem, 1) := by decide +kernel
theorem d_X7_least_81 : decode cX7_least 81 = .ok (.iadd, 1) := by decide +kernel
theorem d_X7_least_82 : decode cX7_least 82 = .ok (.goto 5, 3) := by decide +kernel
theorem d_X7_least_85 : decode cX7_least 85 = .ok (.bipush (-4), 2) := by decide +kernel
theorem d_X7_least_87 : decode cX7_least 87 = .ok (.ireturn, 1) := by decide +kernel
theorem d_X7_least_88 : decode cX7_least 88 = .ok (.iinc 3 1, 3) := by decide +kernel
theorem d_X7_least_91 : decode cX7_least 91 = .ok (.goto (-62), 3) := by decide +kernel
theorem d_X7_least_94 : decode cX7_least 94 = .ok (.bipush (-4), 2) := by decide +kernel
theorem d_X7_least_96 : decode cX7_least 96 = .ok (.ireturn, 1) := by decide +kernel
def t_X7_least_0 : List (Nat × QO) := [(0, o_al 0 1), (1, o_il 1 2), (2, o_cV 1 7 106 2 2 5), (5, o_if (fun x => decide (x = 0)) 13 8), (8, o_il 2 9), (9, o_k (-1) 10), (10, o_ic (fun x y => decide (y ≤ x)) 15 13), (13, o_k (-1) 14), (14, o_ir false), (15, o_al 0 16), (16, o_k 0 17), (17, o_il 1 18)]
theorem ts_X7_least_0 (sx : QX) : ∀ q ∈ t_X7_least_0, q_Snd sx RX7 cX7_least 4 (some .int) q.1 q.2 := List.forall_mem_cons.mpr ⟨s_aload_n d_X7_least_0 rfl, List.forall_mem_cons.mpr ⟨s_iload_n d_X7_least_1 rfl, List.forall_mem_cons.mpr ⟨s_cV (T := TX7) (N := 30) rfl d_X7_least_2 rfl k_4_183 k_4_185 k_0_32 k_1_12 k_4_186 ⟨by decide, by decide⟩ (by decide +kernel) (by decide), List.forall_mem_cons.mpr ⟨s_if_eq d_X7_least_5 (by decide), List.forall_mem_cons.mpr ⟨s_iload_n d_X7_least_8 rfl, List.forall_mem_cons.mpr ⟨s_iconst d_X7_least_9 rfl, List.forall_mem_cons.mpr ⟨s_ic_ge d_X7_least_10 (by decide), List.forall_mem_cons.mpr ⟨s_iconst d_X7_least_13 rfl, List.forall_mem_cons.mpr ⟨s_ir d_X7_least_14 rfl, List.forall_mem_cons.mpr ⟨s_aload_n d_X7_least_15 rfl, List.forall_mem_cons.mpr ⟨s_iconst d_X7_least_16 rfl, List.forall_mem_cons.mpr ⟨s_iload_n d_X7_least_17 rfl, fun _ h => absurd h List.not_mem_nil⟩⟩⟩⟩⟩⟩⟩⟩⟩⟩⟩⟩
def t_X7_least_1 : List (Nat × QO) := [(18, o_cV 1 7 138 3 3 21), (21, o_if (fun x => decide (x ≠ 0)) 27 24), (24, o_k (-2) 26), (26, o_ir false), (27, o_k 1 28), (28, o_is 3 29), (29, o_il 3 30), (30, o_k 4 31), (31, o_ic (fun x y => decide (y < x)) 94 34), (34, o_al 0 35), (35, o_il 1 36), (36, o_il 3 37)]
theorem ts_X7_least_1 (sx : QX) : ∀ q ∈ t_X7_least_1, q_Snd sx RX7 cX7_least 4 (some .int) q.1 q.2 := List.forall_mem_cons.mpr ⟨s_cV (T := TX7) (N := 30) rfl d_X7_least_18 rfl k_5_2 k_5_4 k_0_40 k_1_12 k_5_5 ⟨by decide, by decide⟩ (by decide +kernel) (by decide), List.forall_mem_cons.mpr ⟨s_if_ne d_X7_least_21 (by decide), List.forall_mem_cons.mpr ⟨s_bipush d_X7_least_24 rfl, List.forall_mem_cons.mpr ⟨s_ir d_X7_least_26 rfl, List.forall_mem_cons.mpr ⟨s_iconst d_X7_least_27 rfl, List.forall_mem_cons.mpr ⟨s_istore_n d_X7_least_28 rfl (by decide), List.forall_mem_cons.mpr ⟨s_iload_n d_X7_least_29 rfl, List.forall_mem_cons.mpr ⟨s_iconst d_X7_least_30 rfl, List.forall_mem_cons.mpr ⟨s_ic_gt d_X7_least_31 (by decide), List.forall_mem_cons.mpr ⟨s_aload_n d_X7_least_34 rfl, List.forall_mem_cons.mpr ⟨s_iload_n d_X7_least_35 rfl, List.forall_mem_cons.mpr ⟨s_iload_n d_X7_least_36 rfl, fun _ h => absurd h List.not_mem_nil⟩⟩⟩⟩⟩⟩⟩⟩⟩⟩⟩⟩
def t_X7_least_2 : List (Nat × QO) := [(37, o_cV 1 7 153 7 3 40), (40, o_if (fun x => decide (x = 0)) 88 43), (43, o_il 2 44), (44, o_if (fun x => decide (0 ≤ x)) 51 47), (47, o_il 3 48), (48, o_goto 87), (51, o_il 2 52), (52, o_il 3 53), (53, o_ic (fun x y => decide (y ≤ x)) 85 56), (56, o_k 10 58), (58, o_al 0 59), (59, o_gf 7 24 62)]
theorem ts_X7_least_2 (sx : QX) : ∀ q ∈ t_X7_least_2, q_Snd sx RX7 cX7_least 4 (some .int) q.1 q.2 := List.forall_mem_cons.mpr ⟨s_cV (T := TX7) (N := 30) rfl d_X7_least_37 rfl k_5_60 k_5_62 k_0_49 k_1_12 k_5_63 ⟨by decide, by decide⟩ (by decide +kernel) (by decide), List.forall_mem_cons.mpr ⟨s_if_eq d_X7_least_40 (by decide), List.forall_mem_cons.mpr ⟨s_iload_n d_X7_least_43 rfl, List.forall_mem_cons.mpr ⟨s_if_ge d_X7_least_44 (by decide), List.forall_mem_cons.mpr ⟨s_iload_n d_X7_least_47 rfl, List.forall_mem_cons.mpr ⟨s_goto d_X7_least_48 (by decide), List.forall_mem_cons.mpr ⟨s_iload_n d_X7_least_51 rfl, List.forall_mem_cons.mpr ⟨s_iload_n d_X7_least_52 rfl, List.forall_mem_cons.mpr ⟨s_ic_ge d_X7_least_53 (by decide), List.forall_mem_cons.mpr ⟨s_bipush d_X7_least_56 rfl, List.forall_mem_cons.mpr ⟨s_aload_n d_X7_least_58 rfl, List.forall_mem_cons.mpr ⟨s_gf d_X7_least_59 rfl (by decide) n_X7 in_X7 rfl k_4_53, fun _ h => absurd h List.not_mem_nil⟩⟩⟩⟩⟩⟩⟩⟩⟩⟩⟩⟩
def t_X7_least_3 : List (Nat × QO) := [(62, o_il 2 63), (63, o_iald 64), (64, o_al 0 65), (65, o_gf 7 6 68), (68, o_bz (fun x y => x / y) 69), (69, o_b (fun x y => x * y) 70), (70, o_al 0 71), (71, o_gf 7 24 74), (74, o_il 2 75), (75, o_iald 76), (76, o_al 0 77), (77, o_gf 7 6 80)]
theorem ts_X7_least_3 (sx : QX) : ∀ q ∈ t_X7_least_3, q_Snd sx RX7 cX7_least 4 (some .int) q.1 q.2 := List.forall_mem_cons.mpr ⟨s_iload_n d_X7_least_62 rfl, List.forall_mem_cons.mpr ⟨s_iald d_X7_least_63, List.forall_mem_cons.mpr ⟨s_aload_n d_X7_least_64 rfl, List.forall_mem_cons.mpr ⟨s_gf d_X7_least_65 rfl (by decide) n_X7 in_X7 rfl k_4_35, List.forall_mem_cons.mpr ⟨s_idiv d_X7_least_68, List.forall_mem_cons.mpr ⟨s_imul d_X7_least_69, List.forall_mem_cons.mpr ⟨s_aload_n d_X7_least_70 rfl, List.forall_mem_cons.mpr ⟨s_gf d_X7_least_71 rfl (by decide) n_X7 in_X7 rfl k_4_53, List.forall_mem_cons.mpr ⟨s_iload_n d_X7_least_74 rfl, List.forall_mem_cons.mpr ⟨s_iald d_X7_least_75, List.forall_mem_cons.mpr ⟨s_aload_n d_X7_least_76 rfl, List.forall_mem_cons.mpr ⟨s_gf d_X7_least_77 rfl (by decide) n_X7 in_X7 rfl k_4_35, fun _ h => absurd h List.not_mem_nil⟩⟩⟩⟩⟩⟩⟩⟩⟩⟩⟩⟩
def t_X7_least_4 : List (Nat × QO) := [(80, o_bz (fun x y => x - x / y * y) 81), (81, o_b (fun x y => x + y) 82), (82, o_goto 87), (85, o_k (-4) 87), (87, o_ir false), (88, o_inc 3 1 91), (91, o_goto 29), (94, o_k (-4) 96), (96, o_ir false)]
theorem ts_X7_least_4 (sx : QX) : ∀ q ∈ t_X7_least_4, q_Snd sx RX7 cX7_least 4 (some .int) q.1 q.2 := List.forall_mem_cons.mpr ⟨s_irem d_X7_least_80, List.forall_mem_cons.mpr ⟨s_iadd d_X7_least_81, List.forall_mem_cons.mpr ⟨s_goto d_X7_least_82 (by decide), List.forall_mem_cons.mpr ⟨s_bipush d_X7_least_85 rfl, List.forall_mem_cons.mpr ⟨s_ir d_X7_least_87 rfl, List.forall_mem_cons.mpr ⟨s_iinc d_X7_least_88 rfl (by decide), List.forall_mem_cons.mpr ⟨s_goto d_X7_least_91 (by decide), List.forall_mem_cons.mpr ⟨s_bipush d_X7_least_94 rfl, List.forall_mem_cons.mpr ⟨s_ir d_X7_least_96 rfl, fun _ h => absurd h List.not_mem_nil⟩⟩⟩⟩⟩⟩⟩⟩⟩
def t_X7_least (pc : Nat) : Option QO := cond (Nat.ble pc 36) (cond (Nat.ble pc 17) (q_look (t_X7_least_0) pc) (q_look (t_X7_least_1) pc)) (cond (Nat.ble pc 59) (q_look (t_X7_least_2) pc) (cond (Nat.ble pc 77) (q_look (t_X7_least_3) pc) (q_look (t_X7_least_4) pc)))
theorem ts_X7_least (sx : QX) (pc : Nat) : ∀ o, t_X7_least pc = some o → q_Snd sx RX7 cX7_least 4 (some .int) pc o := by
  unfold t_X7_least
  exact q_cb (q_cb (q_look_all (ts_X7_least_0 sx)) (q_look_all (ts_X7_least_1 sx))) (q_cb (q_look_all (ts_X7_least_2 sx)) (q_cb (q_look_all (ts_X7_least_3 sx)) (q_look_all (ts_X7_least_4 sx))))
theorem d_X7_bestOf_0 : decode cX7_bestOf 0 = .ok (.bipush (-4), 2) := by decide +kernel
theorem d_X7_bestOf_2 : decode cX7_bestOf 2 = .ok (.istore_n 3, 1) := by decide +kernel
theorem d_X7_bestOf_3 : decode cX7_bestOf 3 = .ok (.iconst 0, 1) := by decide +kernel
theorem d_X7_bestOf_4 : decode cX7_bestOf 4 = .ok (.istore 4, 2) := by decide +kernel
theorem d_X7_bestOf_6 : decode cX7_bestOf 6 = .ok (.iconst 0, 1) := by decide +kernel
theorem d_X7_bestOf_7 : decode cX7_bestOf 7 = .ok (.istore 5, 2) := by decide +kernel
theorem d_X7_bestOf_9 : decode cX7_bestOf 9 = .ok (.iload 5, 2) := by decide +kernel
theorem d_X7_bestOf_11 : decode cX7_bestOf 11 = .ok (.aload_n 0, 1) := by decide +kernel
theorem d_X7_bestOf_12 : decode cX7_bestOf 12 = .ok (.getfield 92, 3) := by decide +kernel
theorem d_X7_bestOf_15 : decode cX7_bestOf 15 = .ok (.if_icmp .ge 90, 3) := by decide +kernel
theorem d_X7_bestOf_18 : decode cX7_bestOf 18 = .ok (.iconst 0, 1) := by decide +kernel
theorem d_X7_bestOf_19 : decode cX7_bestOf 19 = .ok (.istore 6, 2) := by decide +kernel
theorem d_X7_bestOf_21 : decode cX7_bestOf 21 = .ok (.iload 6, 2) := by decide +kernel
theorem d_X7_bestOf_23 : decode cX7_bestOf 23 = .ok (.aload_n 0, 1) := by decide +kernel
theorem d_X7_bestOf_24 : decode cX7_bestOf 24 = .ok (.getfield 89, 3) := by decide +kernel
theorem d_X7_bestOf_27 : decode cX7_bestOf 27 = .ok (.if_icmp .ge 72, 3) := by decide +kernel
theorem d_X7_bestOf_30 : decode cX7_bestOf 30 = .ok (.aload_n 0, 1) := by decide +kernel
theorem d_X7_bestOf_31 : decode cX7_bestOf 31 = .ok (.getfield 7, 3) := by decide +kernel
theorem d_X7_bestOf_34 : decode cX7_bestOf 34 = .ok (.iload_n 1, 1) := by decide +kernel
theorem d_X7_bestOf_35 : decode cX7_bestOf 35 = .ok (.bipush 79, 2) := by decide +kernel
theorem d_X7_bestOf_37 : decode cX7_bestOf 37 = .ok (.iadd, 1) := by decide +kernel
theorem d_X7_bestOf_38 : decode cX7_bestOf 38 = .ok (.iload 5, 2) := by decide +kernel
theorem d_X7_bestOf_40 : decode cX7_bestOf 40 = .ok (.iadd, 1) := by decide +kernel
theorem d_X7_bestOf_41 : decode cX7_bestOf 41 = .ok (.iaload, 1) := by decide +kernel
theorem d_X7_bestOf_42 : decode cX7_bestOf 42 = .ok (.ifCond .le 57, 3) := by decide +kernel
theorem d_X7_bestOf_45 : decode cX7_bestOf 45 = .ok (.aload_n 0, 1) := by decide +kernel
theorem d_X7_bestOf_46 : decode cX7_bestOf 46 = .ok (.iload_n 1, 1) := by decide +kernel
theorem d_X7_bestOf_47 : decode cX7_bestOf 47 = .ok (.iload 5, 2) := by decide +kernel
theorem d_X7_bestOf_49 : decode cX7_bestOf 49 = .ok (.iload_n 2, 1) := by decide +kernel
theorem d_X7_bestOf_50 : decode cX7_bestOf 50 = .ok (.iload 6, 2) := by decide +kernel
theorem d_X7_bestOf_52 : decode cX7_bestOf 52 = .ok (.invokevirtual 185, 3) := by decide +kernel
theorem d_X7_bestOf_55 : decode cX7_bestOf 55 = .ok (.istore 7, 2) := by decide +kernel
theorem d_X7_bestOf_57 : decode cX7_bestOf 57 = .ok (.iload 7, 2) := by decide +kernel
theorem d_X7_bestOf_59 : decode cX7_bestOf 59 = .ok (.iload 4, 2) := by decide +kernel
theorem d_X7_bestOf_61 : decode cX7_bestOf 61 = .ok (.if_icmp .le 14, 3) := by decide +kernel
theorem d_X7_bestOf_64 : decode cX7_bestOf 64 = .ok (.bipush 10, 2) := by decide +kernel
theorem d_X7_bestOf_66 : decode cX7_bestOf 66 = .ok (.iload 5, 2) := by decide +kernel
theorem d_X7_bestOf_68 : decode cX7_bestOf 68 = .ok (.imul, 1) := by decide +kernel
theorem d_X7_bestOf_69 : decode cX7_bestOf 69 = .ok (.iload 6, 2) := by decide +kernel
theorem d_X7_bestOf_71 : decode cX7_bestOf 71 = .ok (.iadd, 1) := by decide +kernel
theorem d_X7_bestOf_72 : decode cX7_bestOf 72 = .ok (.goto 4, 3) := by decide +kernel
theorem d_X7_bestOf_75 : decode cX7_bestOf 75 = .ok (.iload_n 3, 1) := by decide +kernel
theorem d_X7_bestOf_76 : decode cX7_bestOf 76 = .ok (.istore_n 3, 1) := by decide +kernel
theorem d_X7_bestOf_77 : decode cX7_bestOf 77 = .ok (.iload 7, 2) := by decide +kernel
theorem d_X7_bestOf_79 : decode cX7_bestOf 79 = .ok (.iload 4, 2) := by decide +kernel
theorem d_X7_bestOf_81 : decode cX7_bestOf 81 = .ok (.if_icmp .le 8, 3) := by decide +kernel
theorem d_X7_bestOf_84 : decode cX7_bestOf 84 = .ok (.iload 7, 2) := by decide +kernel
theorem d_X7_bestOf_86 : decode cX7_bestOf 86 = .ok (.goto 5, 3) := by decide +kernel
theorem d_X7_bestOf_89 : decode cX7_bestOf 89 = .ok (.iload 4, 2) := by decide +kernel
theorem d_X7_bestOf_91 : decode cX7_bestOf 91 = .ok (.istore 4, 2) := by decide +kernel
theorem d_X7_bestOf_93 : decode cX7_bestOf 93 = .ok (.iinc 6 1, 3) := by decide +kernel
theorem d_X7_bestOf_96 : decode cX7_bestOf 96 = .ok (.goto (-75), 3) := by decide +kernel
theorem d_X7_bestOf_99 : decode cX7_bestOf 99 = .ok (.iinc 5 1, 3) := by decide +kernel
theorem d_X7_bestOf_102 : decode cX7_bestOf 102 = .ok (.goto (-93), 3) := by decide +kernel
theorem d_X7_bestOf_105 : decode cX7_bestOf 105 = .ok (.iload_n 3, 1) := by decide +kernel
theorem d_X7_bestOf_106 : decode cX7_bestOf 106 = .ok (.ireturn, 1) := by decide +kernel
def t_X7_bestOf_0 : List (Nat × QO) := [(0, o_k (-4) 2), (2, o_is 3 3), (3, o_k 0 4), (4, o_is 4 6), (6, o_k 0 7), (7, o_is 5 9), (9, o_il 5 11), (11, o_al 0 12), (12, o_gf 7 8 15), (15, o_ic (fun x y => decide (y ≤ x)) 105 18), (18, o_k 0 19), (19, o_is 6 21)]
theorem ts_X7_bestOf_0 (sx : QX) : ∀ q ∈ t_X7_bestOf_0, q_Snd sx RX7 cX7_bestOf 8 (some .int) q.1 q.2 := List.forall_mem_cons.mpr ⟨s_bipush d_X7_bestOf_0 rfl, List.forall_mem_cons.mpr ⟨s_istore_n d_X7_bestOf_2 rfl (by decide), List.forall_mem_cons.mpr ⟨s_iconst d_X7_bestOf_3 rfl, List.forall_mem_cons.mpr ⟨s_istore d_X7_bestOf_4 (by decide), List.forall_mem_cons.mpr ⟨s_iconst d_X7_bestOf_6 rfl, List.forall_mem_cons.mpr ⟨s_istore d_X7_bestOf_7 (by decide), List.forall_mem_cons.mpr ⟨s_iload d_X7_bestOf_9, List.forall_mem_cons.mpr ⟨s_aload_n d_X7_bestOf_11 rfl, List.forall_mem_cons.mpr ⟨s_gf d_X7_bestOf_12 rfl (by decide) n_X7 in_X7 rfl k_4_37, List.forall_mem_cons.mpr ⟨s_ic_ge d_X7_bestOf_15 (by decide), List.forall_mem_cons.mpr ⟨s_iconst d_X7_bestOf_18 rfl, List.forall_mem_cons.mpr ⟨s_istore d_X7_bestOf_19 (by decide), fun _ h => absurd h List.not_mem_nil⟩⟩⟩⟩⟩⟩⟩⟩⟩⟩⟩⟩
def t_X7_bestOf_1 : List (Nat × QO) := [(21, o_il 6 23), (23, o_al 0 24), (24, o_gf 7 6 27), (27, o_ic (fun x y => decide (y ≤ x)) 99 30), (30, o_al 0 31), (31, o_gf 7 0 34), (34, o_il 1 35), (35, o_k 79 37), (37, o_b (fun x y => x + y) 38), (38, o_il 5 40), (40, o_b (fun x y => x + y) 41), (41, o_iald 42)]
theorem ts_X7_bestOf_1 (sx : QX) : ∀ q ∈ t_X7_bestOf_1, q_Snd sx RX7 cX7_bestOf 8 (some .int) q.1 q.2 := List.forall_mem_cons.mpr ⟨s_iload d_X7_bestOf_21, List.forall_mem_cons.mpr ⟨s_aload_n d_X7_bestOf_23 rfl, List.forall_mem_cons.mpr ⟨s_gf d_X7_bestOf_24 rfl (by decide) n_X7 in_X7 rfl k_4_35, List.forall_mem_cons.mpr ⟨s_ic_ge d_X7_bestOf_27 (by decide), List.forall_mem_cons.mpr ⟨s_aload_n d_X7_bestOf_30 rfl, List.forall_mem_cons.mpr ⟨s_gf d_X7_bestOf_31 rfl (by decide) n_X7 in_X7 rfl k_4_29, List.forall_mem_cons.mpr ⟨s_iload_n d_X7_bestOf_34 rfl, List.forall_mem_cons.mpr ⟨s_bipush d_X7_bestOf_35 rfl, List.forall_mem_cons.mpr ⟨s_iadd d_X7_bestOf_37, List.forall_mem_cons.mpr ⟨s_iload d_X7_bestOf_38, List.forall_mem_cons.mpr ⟨s_iadd d_X7_bestOf_40, List.forall_mem_cons.mpr ⟨s_iald d_X7_bestOf_41, fun _ h => absurd h List.not_mem_nil⟩⟩⟩⟩⟩⟩⟩⟩⟩⟩⟩⟩
def t_X7_bestOf_2 : List (Nat × QO) := [(42, o_if (fun x => decide (x ≤ 0)) 99 45), (45, o_al 0 46), (46, o_il 1 47), (47, o_il 5 49), (49, o_il 2 50), (50, o_il 6 52), (52, o_cV 1 7 136 5 5 55), (55, o_is 7 57), (57, o_il 7 59), (59, o_il 4 61), (61, o_ic (fun x y => decide (x ≤ y)) 75 64), (64, o_k 10 66)]
theorem ts_X7_bestOf_2 (sx : QX) : ∀ q ∈ t_X7_bestOf_2, q_Snd sx RX7 cX7_bestOf 8 (some .int) q.1 q.2 := List.forall_mem_cons.mpr ⟨s_if_le d_X7_bestOf_42 (by decide), List.forall_mem_cons.mpr ⟨s_aload_n d_X7_bestOf_45 rfl, List.forall_mem_cons.mpr ⟨s_iload_n d_X7_bestOf_46 rfl, List.forall_mem_cons.mpr ⟨s_iload d_X7_bestOf_47, List.forall_mem_cons.mpr ⟨s_iload_n d_X7_bestOf_49 rfl, List.forall_mem_cons.mpr ⟨s_iload d_X7_bestOf_50, List.forall_mem_cons.mpr ⟨s_cV (T := TX7) (N := 30) rfl d_X7_bestOf_52 rfl k_4_215 k_4_217 k_0_35 k_1_12 k_4_218 ⟨by decide, by decide⟩ (by decide +kernel) (by decide), List.forall_mem_cons.mpr ⟨s_istore d_X7_bestOf_55 (by decide), List.forall_mem_cons.mpr ⟨s_iload d_X7_bestOf_57, List.forall_mem_cons.mpr ⟨s_iload d_X7_bestOf_59, List.forall_mem_cons.mpr ⟨s_ic_le d_X7_bestOf_61 (by decide), List.forall_mem_cons.mpr ⟨s_bipush d_X7_bestOf_64 rfl, fun _ h => absurd h List.not_mem_nil⟩⟩⟩⟩⟩⟩⟩⟩⟩⟩⟩⟩
def t_X7_bestOf_3 : List (Nat × QO) := [(66, o_il 5 68), (68, o_b (fun x y => x * y) 69), (69, o_il 6 71), (71, o_b (fun x y => x + y) 72), (72, o_goto 76), (75, o_il 3 76), (76, o_is 3 77), (77, o_il 7 79), (79, o_il 4 81), (81, o_ic (fun x y => decide (x ≤ y)) 89 84), (84, o_il 7 86), (86, o_goto 91)]
theorem ts_X7_bestOf_3 (sx : QX) : ∀ q ∈ t_X7_bestOf_3, q_Snd sx RX7 cX7_bestOf 8 (some .int) q.1 q.2 := List.forall_mem_cons.mpr ⟨s_iload d_X7_bestOf_66, List.forall_mem_cons.mpr ⟨s_imul d_X7_bestOf_68, List.forall_mem_cons.mpr ⟨s_iload d_X7_bestOf_69, List.forall_mem_cons.mpr ⟨s_iadd d_X7_bestOf_71, List.forall_mem_cons.mpr ⟨s_goto d_X7_bestOf_72 (by decide), List.forall_mem_cons.mpr ⟨s_iload_n d_X7_bestOf_75 rfl, List.forall_mem_cons.mpr ⟨s_istore_n d_X7_bestOf_76 rfl (by decide), List.forall_mem_cons.mpr ⟨s_iload d_X7_bestOf_77, List.forall_mem_cons.mpr ⟨s_iload d_X7_bestOf_79, List.forall_mem_cons.mpr ⟨s_ic_le d_X7_bestOf_81 (by decide), List.forall_mem_cons.mpr ⟨s_iload d_X7_bestOf_84, List.forall_mem_cons.mpr ⟨s_goto d_X7_bestOf_86 (by decide), fun _ h => absurd h List.not_mem_nil⟩⟩⟩⟩⟩⟩⟩⟩⟩⟩⟩⟩
def t_X7_bestOf_4 : List (Nat × QO) := [(89, o_il 4 91), (91, o_is 4 93), (93, o_inc 6 1 96), (96, o_goto 21), (99, o_inc 5 1 102), (102, o_goto 9), (105, o_il 3 106), (106, o_ir false)]
theorem ts_X7_bestOf_4 (sx : QX) : ∀ q ∈ t_X7_bestOf_4, q_Snd sx RX7 cX7_bestOf 8 (some .int) q.1 q.2 := List.forall_mem_cons.mpr ⟨s_iload d_X7_bestOf_89, List.forall_mem_cons.mpr ⟨s_istore d_X7_bestOf_91 (by decide), List.forall_mem_cons.mpr ⟨s_iinc d_X7_bestOf_93 rfl (by decide), List.forall_mem_cons.mpr ⟨s_goto d_X7_bestOf_96 (by decide), List.forall_mem_cons.mpr ⟨s_iinc d_X7_bestOf_99 rfl (by decide), List.forall_mem_cons.mpr ⟨s_goto d_X7_bestOf_102 (by decide), List.forall_mem_cons.mpr ⟨s_iload_n d_X7_bestOf_105 rfl, List.forall_mem_cons.mpr ⟨s_ir d_X7_bestOf_106 rfl, fun _ h => absurd h List.not_mem_nil⟩⟩⟩⟩⟩⟩⟩⟩
def t_X7_bestOf (pc : Nat) : Option QO := cond (Nat.ble pc 41) (cond (Nat.ble pc 19) (q_look (t_X7_bestOf_0) pc) (q_look (t_X7_bestOf_1) pc)) (cond (Nat.ble pc 64) (q_look (t_X7_bestOf_2) pc) (cond (Nat.ble pc 86) (q_look (t_X7_bestOf_3) pc) (q_look (t_X7_bestOf_4) pc)))
theorem ts_X7_bestOf (sx : QX) (pc : Nat) : ∀ o, t_X7_bestOf pc = some o → q_Snd sx RX7 cX7_bestOf 8 (some .int) pc o := by
  unfold t_X7_bestOf
  exact q_cb (q_cb (q_look_all (ts_X7_bestOf_0 sx)) (q_look_all (ts_X7_bestOf_1 sx))) (q_cb (q_look_all (ts_X7_bestOf_2 sx)) (q_cb (q_look_all (ts_X7_bestOf_3 sx)) (q_look_all (ts_X7_bestOf_4 sx))))
theorem d_X7_best_0 : decode cX7_best 0 = .ok (.aload_n 0, 1) := by decide +kernel
theorem d_X7_best_1 : decode cX7_best 1 = .ok (.iload_n 1, 1) := by decide +kernel
theorem d_X7_best_2 : decode cX7_best 2 = .ok (.invokevirtual 161, 3) := by decide +kernel
theorem d_X7_best_5 : decode cX7_best 5 = .ok (.ifCond .ne 5, 3) := by decide +kernel
theorem d_X7_best_8 : decode cX7_best 8 = .ok (.iconst (-1), 1) := by decide +kernel
theorem d_X7_best_9 : decode cX7_best 9 = .ok (.ireturn, 1) := by decide +kernel
theorem d_X7_best_10 : decode cX7_best 10 = .ok (.aload_n 0, 1) := by decide +kernel
theorem d_X7_best_11 : decode cX7_best 11 = .ok (.iconst 0, 1) := by decide +kernel
theorem d_X7_best_12 : decode cX7_best 12 = .ok (.iload_n 1, 1) := by decide +kernel
theorem d_X7_best_13 : decode cX7_best 13 = .ok (.invokevirtual 189, 3) := by decide +kernel
theorem d_X7_best_16 : decode cX7_best 16 = .ok (.ifCond .eq 12, 3) := by decide +kernel
theorem d_X7_best_19 : decode cX7_best 19 = .ok (.aload_n 0, 1) := by decide +kernel
theorem d_X7_best_20 : decode cX7_best 20 = .ok (.iconst 0, 1) := by decide +kernel
theorem d_X7_best_21 : decode cX7_best 21 = .ok (.iload_n 1, 1) := by decide +kernel
theorem d_X7_best_22 : decode cX7_best 22 = .ok (.invokevirtual 229, 3) := by decide +kernel
theorem d_X7_best_25 : decode cX7_best 25 = .ok (.goto 5, 3) := by decide +kernel
theorem d_X7_best_28 : decode cX7_best 28 = .ok (.bipush (-2), 2) := by decide +kernel
theorem d_X7_best_30 : decode cX7_best 30 = .ok (.ireturn, 1) := by decide +kernel
def t_X7_best_0 : List (Nat × QO) := [(0, o_al 0 1), (1, o_il 1 2), (2, o_cV 1 7 106 2 2 5), (5, o_if (fun x => decide (x ≠ 0)) 10 8), (8, o_k (-1) 9), (9, o_ir false), (10, o_al 0 11), (11, o_k 0 12), (12, o_il 1 13), (13, o_cV 1 7 138 3 3 16), (16, o_if (fun x => decide (x = 0)) 28 19), (19, o_al 0 20)]
theorem ts_X7_best_0 (sx : QX) : ∀ q ∈ t_X7_best_0, q_Snd sx RX7 cX7_best 2 (some .int) q.1 q.2 := List.forall_mem_cons.mpr ⟨s_aload_n d_X7_best_0 rfl, List.forall_mem_cons.mpr ⟨s_iload_n d_X7_best_1 rfl, List.forall_mem_cons.mpr ⟨s_cV (T := TX7) (N := 30) rfl d_X7_best_2 rfl k_4_183 k_4_185 k_0_32 k_1_12 k_4_186 ⟨by decide, by decide⟩ (by decide +kernel) (by decide), List.forall_mem_cons.mpr ⟨s_if_ne d_X7_best_5 (by decide), List.forall_mem_cons.mpr ⟨s_iconst d_X7_best_8 rfl, List.forall_mem_cons.mpr ⟨s_ir d_X7_best_9 rfl, List.forall_mem_cons.mpr ⟨s_aload_n d_X7_best_10 rfl, List.forall_mem_cons.mpr ⟨s_iconst d_X7_best_11 rfl, List.forall_mem_cons.mpr ⟨s_iload_n d_X7_best_12 rfl, List.forall_mem_cons.mpr ⟨s_cV (T := TX7) (N := 30) rfl d_X7_best_13 rfl k_5_2 k_5_4 k_0_40 k_1_12 k_5_5 ⟨by decide, by decide⟩ (by decide +kernel) (by decide), List.forall_mem_cons.mpr ⟨s_if_eq d_X7_best_16 (by decide), List.forall_mem_cons.mpr ⟨s_aload_n d_X7_best_19 rfl, fun _ h => absurd h List.not_mem_nil⟩⟩⟩⟩⟩⟩⟩⟩⟩⟩⟩⟩
def t_X7_best_1 : List (Nat × QO) := [(20, o_k 0 21), (21, o_il 1 22), (22, o_cV 1 7 155 8 3 25), (25, o_goto 30), (28, o_k (-2) 30), (30, o_ir false)]
theorem ts_X7_best_1 (sx : QX) : ∀ q ∈ t_X7_best_1, q_Snd sx RX7 cX7_best 2 (some .int) q.1 q.2 := List.forall_mem_cons.mpr ⟨s_iconst d_X7_best_20 rfl, List.forall_mem_cons.mpr ⟨s_iload_n d_X7_best_21 rfl, List.forall_mem_cons.mpr ⟨s_cV (T := TX7) (N := 30) rfl d_X7_best_22 rfl k_5_68 k_5_70 k_0_50 k_1_12 k_5_71 ⟨by decide, by decide⟩ (by decide +kernel) (by decide), List.forall_mem_cons.mpr ⟨s_goto d_X7_best_25 (by decide), List.forall_mem_cons.mpr ⟨s_bipush d_X7_best_28 rfl, List.forall_mem_cons.mpr ⟨s_ir d_X7_best_30 rfl, fun _ h => absurd h List.not_mem_nil⟩⟩⟩⟩⟩⟩
def t_X7_best (pc : Nat) : Option QO := cond (Nat.ble pc 19) (q_look (t_X7_best_0) pc) (q_look (t_X7_best_1) pc)
theorem ts_X7_best (sx : QX) (pc : Nat) : ∀ o, t_X7_best pc = some o → q_Snd sx RX7 cX7_best 2 (some .int) pc o := by
  unfold t_X7_best
  exact q_cb (q_look_all (ts_X7_best_0 sx)) (q_look_all (ts_X7_best_1 sx))
theorem d_X7_asks_0 : decode cX7_asks 0 = .ok (.aload_n 0, 1) := by decide +kernel
theorem d_X7_asks_1 : decode cX7_asks 1 = .ok (.iload_n 1, 1) := by decide +kernel
theorem d_X7_asks_2 : decode cX7_asks 2 = .ok (.iload_n 2, 1) := by decide +kernel
theorem d_X7_asks_3 : decode cX7_asks 3 = .ok (.invokevirtual 229, 3) := by decide +kernel
theorem d_X7_asks_6 : decode cX7_asks 6 = .ok (.istore_n 3, 1) := by decide +kernel
theorem d_X7_asks_7 : decode cX7_asks 7 = .ok (.aload_n 0, 1) := by decide +kernel
theorem d_X7_asks_8 : decode cX7_asks 8 = .ok (.iload_n 1, 1) := by decide +kernel
theorem d_X7_asks_9 : decode cX7_asks 9 = .ok (.iload_n 2, 1) := by decide +kernel
theorem d_X7_asks_10 : decode cX7_asks 10 = .ok (.invokevirtual 189, 3) := by decide +kernel
theorem d_X7_asks_13 : decode cX7_asks 13 = .ok (.ifCond .eq 33, 3) := by decide +kernel
theorem d_X7_asks_16 : decode cX7_asks 16 = .ok (.iload_n 3, 1) := by decide +kernel
theorem d_X7_asks_17 : decode cX7_asks 17 = .ok (.bipush (-4), 2) := by decide +kernel
theorem d_X7_asks_19 : decode cX7_asks 19 = .ok (.if_icmp .eq 27, 3) := by decide +kernel
theorem d_X7_asks_22 : decode cX7_asks 22 = .ok (.aload_n 0, 1) := by decide +kernel
theorem d_X7_asks_23 : decode cX7_asks 23 = .ok (.iload_n 1, 1) := by decide +kernel
theorem d_X7_asks_24 : decode cX7_asks 24 = .ok (.iload_n 3, 1) := by decide +kernel
theorem d_X7_asks_25 : decode cX7_asks 25 = .ok (.bipush 10, 2) := by decide +kernel
theorem d_X7_asks_27 : decode cX7_asks 27 = .ok (.idiv, 1) := by decide +kernel
theorem d_X7_asks_28 : decode cX7_asks 28 = .ok (.iload_n 2, 1) := by decide +kernel
theorem d_X7_asks_29 : decode cX7_asks 29 = .ok (.iload_n 3, 1) := by decide +kernel
theorem d_X7_asks_30 : decode cX7_asks 30 = .ok (.bipush 10, 2) := by decide +kernel
theorem d_X7_asks_32 : decode cX7_asks 32 = .ok (.irem, 1) := by decide +kernel
theorem d_X7_asks_33 : decode cX7_asks 33 = .ok (.invokevirtual 211, 3) := by decide +kernel
theorem d_X7_asks_36 : decode cX7_asks 36 = .ok (.aload_n 0, 1) := by decide +kernel
theorem d_X7_asks_37 : decode cX7_asks 37 = .ok (.iload_n 1, 1) := by decide +kernel
theorem d_X7_asks_38 : decode cX7_asks 38 = .ok (.iload_n 2, 1) := by decide +kernel
theorem d_X7_asks_39 : decode cX7_asks 39 = .ok (.invokevirtual 229, 3) := by decide +kernel
theorem d_X7_asks_42 : decode cX7_asks 42 = .ok (.istore_n 3, 1) := by decide +kernel
theorem d_X7_asks_43 : decode cX7_asks 43 = .ok (.goto (-36), 3) := by decide +kernel
theorem d_X7_asks_46 : decode cX7_asks 46 = .ok (.return_, 1) := by decide +kernel
def t_X7_asks_0 : List (Nat × QO) := [(0, o_al 0 1), (1, o_il 1 2), (2, o_il 2 3), (3, o_cV 1 7 155 8 3 6), (6, o_is 3 7), (7, o_al 0 8), (8, o_il 1 9), (9, o_il 2 10), (10, o_cV 1 7 138 3 3 13), (13, o_if (fun x => decide (x = 0)) 46 16), (16, o_il 3 17), (17, o_k (-4) 19)]
theorem ts_X7_asks_0 (sx : QX) : ∀ q ∈ t_X7_asks_0, q_Snd sx RX7 cX7_asks 4 none q.1 q.2 := List.forall_mem_cons.mpr ⟨s_aload_n d_X7_asks_0 rfl, List.forall_mem_cons.mpr ⟨s_iload_n d_X7_asks_1 rfl, List.forall_mem_cons.mpr ⟨s_iload_n d_X7_asks_2 rfl, List.forall_mem_cons.mpr ⟨s_cV (T := TX7) (N := 30) rfl d_X7_asks_3 rfl k_5_68 k_5_70 k_0_50 k_1_12 k_5_71 ⟨by decide, by decide⟩ (by decide +kernel) (by decide), List.forall_mem_cons.mpr ⟨s_istore_n d_X7_asks_6 rfl (by decide), List.forall_mem_cons.mpr ⟨s_aload_n d_X7_asks_7 rfl, List.forall_mem_cons.mpr ⟨s_iload_n d_X7_asks_8 rfl, List.forall_mem_cons.mpr ⟨s_iload_n d_X7_asks_9 rfl, List.forall_mem_cons.mpr ⟨s_cV (T := TX7) (N := 30) rfl d_X7_asks_10 rfl k_5_2 k_5_4 k_0_40 k_1_12 k_5_5 ⟨by decide, by decide⟩ (by decide +kernel) (by decide), List.forall_mem_cons.mpr ⟨s_if_eq d_X7_asks_13 (by decide), List.forall_mem_cons.mpr ⟨s_iload_n d_X7_asks_16 rfl, List.forall_mem_cons.mpr ⟨s_bipush d_X7_asks_17 rfl, fun _ h => absurd h List.not_mem_nil⟩⟩⟩⟩⟩⟩⟩⟩⟩⟩⟩⟩
def t_X7_asks_1 : List (Nat × QO) := [(19, o_ic (fun x y => decide (x = y)) 46 22), (22, o_al 0 23), (23, o_il 1 24), (24, o_il 3 25), (25, o_k 10 27), (27, o_bz (fun x y => x / y) 28), (28, o_il 2 29), (29, o_il 3 30), (30, o_k 10 32), (32, o_bz (fun x y => x - x / y * y) 33), (33, o_cV 0 7 141 6 5 36), (36, o_al 0 37)]
theorem ts_X7_asks_1 (sx : QX) : ∀ q ∈ t_X7_asks_1, q_Snd sx RX7 cX7_asks 4 none q.1 q.2 := List.forall_mem_cons.mpr ⟨s_ic_eq d_X7_asks_19 (by decide), List.forall_mem_cons.mpr ⟨s_aload_n d_X7_asks_22 rfl, List.forall_mem_cons.mpr ⟨s_iload_n d_X7_asks_23 rfl, List.forall_mem_cons.mpr ⟨s_iload_n d_X7_asks_24 rfl, List.forall_mem_cons.mpr ⟨s_bipush d_X7_asks_25 rfl, List.forall_mem_cons.mpr ⟨s_idiv d_X7_asks_27, List.forall_mem_cons.mpr ⟨s_iload_n d_X7_asks_28 rfl, List.forall_mem_cons.mpr ⟨s_iload_n d_X7_asks_29 rfl, List.forall_mem_cons.mpr ⟨s_bipush d_X7_asks_30 rfl, List.forall_mem_cons.mpr ⟨s_irem d_X7_asks_32, List.forall_mem_cons.mpr ⟨s_cV (T := TX7) (N := 30) rfl d_X7_asks_33 rfl k_5_14 k_5_16 k_0_43 k_1_12 k_5_17 ⟨by decide, by decide⟩ (by decide +kernel) (by decide), List.forall_mem_cons.mpr ⟨s_aload_n d_X7_asks_36 rfl, fun _ h => absurd h List.not_mem_nil⟩⟩⟩⟩⟩⟩⟩⟩⟩⟩⟩⟩
def t_X7_asks_2 : List (Nat × QO) := [(37, o_il 1 38), (38, o_il 2 39), (39, o_cV 1 7 155 8 3 42), (42, o_is 3 43), (43, o_goto 7), (46, o_vr)]
theorem ts_X7_asks_2 (sx : QX) : ∀ q ∈ t_X7_asks_2, q_Snd sx RX7 cX7_asks 4 none q.1 q.2 := List.forall_mem_cons.mpr ⟨s_iload_n d_X7_asks_37 rfl, List.forall_mem_cons.mpr ⟨s_iload_n d_X7_asks_38 rfl, List.forall_mem_cons.mpr ⟨s_cV (T := TX7) (N := 30) rfl d_X7_asks_39 rfl k_5_68 k_5_70 k_0_50 k_1_12 k_5_71 ⟨by decide, by decide⟩ (by decide +kernel) (by decide), List.forall_mem_cons.mpr ⟨s_istore_n d_X7_asks_42 rfl (by decide), List.forall_mem_cons.mpr ⟨s_goto d_X7_asks_43 (by decide), List.forall_mem_cons.mpr ⟨s_vr d_X7_asks_46 rfl, fun _ h => absurd h List.not_mem_nil⟩⟩⟩⟩⟩⟩
def t_X7_asks (pc : Nat) : Option QO := cond (Nat.ble pc 17) (q_look (t_X7_asks_0) pc) (cond (Nat.ble pc 36) (q_look (t_X7_asks_1) pc) (q_look (t_X7_asks_2) pc))
theorem ts_X7_asks (sx : QX) (pc : Nat) : ∀ o, t_X7_asks pc = some o → q_Snd sx RX7 cX7_asks 4 none pc o := by
  unfold t_X7_asks
  exact q_cb (q_look_all (ts_X7_asks_0 sx)) (q_cb (q_look_all (ts_X7_asks_1 sx)) (q_look_all (ts_X7_asks_2 sx)))
theorem d_X7_bedOf_0 : decode cX7_bedOf 0 = .ok (.iconst 0, 1) := by decide +kernel
theorem d_X7_bedOf_1 : decode cX7_bedOf 1 = .ok (.istore_n 1, 1) := by decide +kernel
theorem d_X7_bedOf_2 : decode cX7_bedOf 2 = .ok (.iconst 0, 1) := by decide +kernel
theorem d_X7_bedOf_3 : decode cX7_bedOf 3 = .ok (.istore_n 2, 1) := by decide +kernel
theorem d_X7_bedOf_4 : decode cX7_bedOf 4 = .ok (.iload_n 2, 1) := by decide +kernel
theorem d_X7_bedOf_5 : decode cX7_bedOf 5 = .ok (.aload_n 0, 1) := by decide +kernel
theorem d_X7_bedOf_6 : decode cX7_bedOf 6 = .ok (.getfield 82, 3) := by decide +kernel
theorem d_X7_bedOf_9 : decode cX7_bedOf 9 = .ok (.if_icmp .ge 28, 3) := by decide +kernel
theorem d_X7_bedOf_12 : decode cX7_bedOf 12 = .ok (.iload_n 1, 1) := by decide +kernel
theorem d_X7_bedOf_13 : decode cX7_bedOf 13 = .ok (.aload_n 0, 1) := by decide +kernel
theorem d_X7_bedOf_14 : decode cX7_bedOf 14 = .ok (.iconst 0, 1) := by decide +kernel
theorem d_X7_bedOf_15 : decode cX7_bedOf 15 = .ok (.iload_n 2, 1) := by decide +kernel
theorem d_X7_bedOf_16 : decode cX7_bedOf 16 = .ok (.invokevirtual 189, 3) := by decide +kernel
theorem d_X7_bedOf_19 : decode cX7_bedOf 19 = .ok (.ifCond .eq 9, 3) := by decide +kernel
theorem d_X7_bedOf_22 : decode cX7_bedOf 22 = .ok (.iconst 1, 1) := by decide +kernel
theorem d_X7_bedOf_23 : decode cX7_bedOf 23 = .ok (.iload_n 2, 1) := by decide +kernel
theorem d_X7_bedOf_24 : decode cX7_bedOf 24 = .ok (.ishl, 1) := by decide +kernel
theorem d_X7_bedOf_25 : decode cX7_bedOf 25 = .ok (.goto 4, 3) := by decide +kernel
theorem d_X7_bedOf_28 : decode cX7_bedOf 28 = .ok (.iconst 0, 1) := by decide +kernel
theorem d_X7_bedOf_29 : decode cX7_bedOf 29 = .ok (.ior, 1) := by decide +kernel
theorem d_X7_bedOf_30 : decode cX7_bedOf 30 = .ok (.istore_n 1, 1) := by decide +kernel
theorem d_X7_bedOf_31 : decode cX7_bedOf 31 = .ok (.iinc 2 1, 3) := by decide +kernel
theorem d_X7_bedOf_34 : decode cX7_bedOf 34 = .ok (.goto (-30), 3) := by decide +kernel
theorem d_X7_bedOf_37 : decode cX7_bedOf 37 = .ok (.iload_n 1, 1) := by decide +kernel
theorem d_X7_bedOf_38 : decode cX7_bedOf 38 = .ok (.ireturn, 1) := by decide +kernel
def t_X7_bedOf_0 : List (Nat × QO) := [(0, o_k 0 1), (1, o_is 1 2), (2, o_k 0 3), (3, o_is 2 4), (4, o_il 2 5), (5, o_al 0 6), (6, o_gf 7 3 9), (9, o_ic (fun x y => decide (y ≤ x)) 37 12), (12, o_il 1 13), (13, o_al 0 14), (14, o_k 0 15), (15, o_il 2 16)]
theorem ts_X7_bedOf_0 (sx : QX) : ∀ q ∈ t_X7_bedOf_0, q_Snd sx RX7 cX7_bedOf 3 (some .int) q.1 q.2 := List.forall_mem_cons.mpr ⟨s_iconst d_X7_bedOf_0 rfl, List.forall_mem_cons.mpr ⟨s_istore_n d_X7_bedOf_1 rfl (by decide), List.forall_mem_cons.mpr ⟨s_iconst d_X7_bedOf_2 rfl, List.forall_mem_cons.mpr ⟨s_istore_n d_X7_bedOf_3 rfl (by decide), List.forall_mem_cons.mpr ⟨s_iload_n d_X7_bedOf_4 rfl, List.forall_mem_cons.mpr ⟨s_aload_n d_X7_bedOf_5 rfl, List.forall_mem_cons.mpr ⟨s_gf d_X7_bedOf_6 rfl (by decide) n_X7 in_X7 rfl k_4_32, List.forall_mem_cons.mpr ⟨s_ic_ge d_X7_bedOf_9 (by decide), List.forall_mem_cons.mpr ⟨s_iload_n d_X7_bedOf_12 rfl, List.forall_mem_cons.mpr ⟨s_aload_n d_X7_bedOf_13 rfl, List.forall_mem_cons.mpr ⟨s_iconst d_X7_bedOf_14 rfl, List.forall_mem_cons.mpr ⟨s_iload_n d_X7_bedOf_15 rfl, fun _ h => absurd h List.not_mem_nil⟩⟩⟩⟩⟩⟩⟩⟩⟩⟩⟩⟩
def t_X7_bedOf_1 : List (Nat × QO) := [(16, o_cV 1 7 138 3 3 19), (19, o_if (fun x => decide (x = 0)) 28 22), (22, o_k 1 23), (23, o_il 2 24), (24, o_b (fun x y => x <<< (y &&& 31)) 25), (25, o_goto 29), (28, o_k 0 29), (29, o_b (fun x y => x ||| y) 30), (30, o_is 1 31), (31, o_inc 2 1 34), (34, o_goto 4), (37, o_il 1 38)]
theorem ts_X7_bedOf_1 (sx : QX) : ∀ q ∈ t_X7_bedOf_1, q_Snd sx RX7 cX7_bedOf 3 (some .int) q.1 q.2 := List.forall_mem_cons.mpr ⟨s_cV (T := TX7) (N := 30) rfl d_X7_bedOf_16 rfl k_5_2 k_5_4 k_0_40 k_1_12 k_5_5 ⟨by decide, by decide⟩ (by decide +kernel) (by decide), List.forall_mem_cons.mpr ⟨s_if_eq d_X7_bedOf_19 (by decide), List.forall_mem_cons.mpr ⟨s_iconst d_X7_bedOf_22 rfl, List.forall_mem_cons.mpr ⟨s_iload_n d_X7_bedOf_23 rfl, List.forall_mem_cons.mpr ⟨s_ishl d_X7_bedOf_24, List.forall_mem_cons.mpr ⟨s_goto d_X7_bedOf_25 (by decide), List.forall_mem_cons.mpr ⟨s_iconst d_X7_bedOf_28 rfl, List.forall_mem_cons.mpr ⟨s_ior d_X7_bedOf_29, List.forall_mem_cons.mpr ⟨s_istore_n d_X7_bedOf_30 rfl (by decide), List.forall_mem_cons.mpr ⟨s_iinc d_X7_bedOf_31 rfl (by decide), List.forall_mem_cons.mpr ⟨s_goto d_X7_bedOf_34 (by decide), List.forall_mem_cons.mpr ⟨s_iload_n d_X7_bedOf_37 rfl, fun _ h => absurd h List.not_mem_nil⟩⟩⟩⟩⟩⟩⟩⟩⟩⟩⟩⟩
def t_X7_bedOf_2 : List (Nat × QO) := [(38, o_ir false)]
theorem ts_X7_bedOf_2 (sx : QX) : ∀ q ∈ t_X7_bedOf_2, q_Snd sx RX7 cX7_bedOf 3 (some .int) q.1 q.2 := List.forall_mem_cons.mpr ⟨s_ir d_X7_bedOf_38 rfl, fun _ h => absurd h List.not_mem_nil⟩
def t_X7_bedOf (pc : Nat) : Option QO := cond (Nat.ble pc 15) (q_look (t_X7_bedOf_0) pc) (cond (Nat.ble pc 37) (q_look (t_X7_bedOf_1) pc) (q_look (t_X7_bedOf_2) pc))
theorem ts_X7_bedOf (sx : QX) (pc : Nat) : ∀ o, t_X7_bedOf pc = some o → q_Snd sx RX7 cX7_bedOf 3 (some .int) pc o := by
  unfold t_X7_bedOf
  exact q_cb (q_look_all (ts_X7_bedOf_0 sx)) (q_cb (q_look_all (ts_X7_bedOf_1 sx)) (q_look_all (ts_X7_bedOf_2 sx)))
theorem d_X7_bestOrder_0 : decode cX7_bestOrder 0 = .ok (.aload_n 0, 1) := by decide +kernel
theorem d_X7_bestOrder_1 : decode cX7_bestOrder 1 = .ok (.invokevirtual 232, 3) := by decide +kernel
theorem d_X7_bestOrder_4 : decode cX7_bestOrder 4 = .ok (.istore_n 1, 1) := by decide +kernel
theorem d_X7_bestOrder_5 : decode cX7_bestOrder 5 = .ok (.iload_n 1, 1) := by decide +kernel
theorem d_X7_bestOrder_6 : decode cX7_bestOrder 6 = .ok (.invokestatic 235, 3) := by decide +kernel
theorem d_X7_bestOrder_9 : decode cX7_bestOrder 9 = .ok (.istore_n 2, 1) := by decide +kernel
theorem d_X7_bestOrder_10 : decode cX7_bestOrder 10 = .ok (.iconst (-1), 1) := by decide +kernel
theorem d_X7_bestOrder_11 : decode cX7_bestOrder 11 = .ok (.istore_n 3, 1) := by decide +kernel
theorem d_X7_bestOrder_12 : decode cX7_bestOrder 12 = .ok (.iconst 0, 1) := by decide +kernel
theorem d_X7_bestOrder_13 : decode cX7_bestOrder 13 = .ok (.istore 4, 2) := by decide +kernel
theorem d_X7_bestOrder_15 : decode cX7_bestOrder 15 = .ok (.aload_n 0, 1) := by decide +kernel
theorem d_X7_bestOrder_16 : decode cX7_bestOrder 16 = .ok (.iconst 0, 1) := by decide +kernel
theorem d_X7_bestOrder_17 : decode cX7_bestOrder 17 = .ok (.sipush 996, 3) := by decide +kernel
theorem d_X7_bestOrder_20 : decode cX7_bestOrder 20 = .ok (.invokevirtual 202, 3) := by decide +kernel
theorem d_X7_bestOrder_23 : decode cX7_bestOrder 23 = .ok (.aload_n 0, 1) := by decide +kernel
theorem d_X7_bestOrder_24 : decode cX7_bestOrder 24 = .ok (.getfield 55, 3) := by decide +kernel
theorem d_X7_bestOrder_27 : decode cX7_bestOrder 27 = .ok (.iconst 0, 1) := by decide +kernel
theorem d_X7_bestOrder_28 : decode cX7_bestOrder 28 = .ok (.iconst (-1), 1) := by decide +kernel
theorem d_X7_bestOrder_29 : decode cX7_bestOrder 29 = .ok (.iastore, 1) := by decide +kernel
theorem d_X7_bestOrder_30 : decode cX7_bestOrder 30 = .ok (.iload 4, 2) := by decide +kernel
theorem d_X7_bestOrder_32 : decode cX7_bestOrder 32 = .ok (.ifCond .lt 253, 3) := by decide +kernel
theorem d_X7_bestOrder_35 : decode cX7_bestOrder 35 = .ok (.sipush 996, 3) := by decide +kernel
theorem d_X7_bestOrder_38 : decode cX7_bestOrder 38 = .ok (.bipush 83, 2) := by decide +kernel
theorem d_X7_bestOrder_40 : decode cX7_bestOrder 40 = .ok (.iload 4, 2) := by decide +kernel
theorem d_X7_bestOrder_42 : decode cX7_bestOrder 42 = .ok (.imul, 1) := by decide +kernel
theorem d_X7_bestOrder_43 : decode cX7_bestOrder 43 = .ok (.iadd, 1) := by decide +kernel
theorem d_X7_bestOrder_44 : decode cX7_bestOrder 44 = .ok (.istore 5, 2) := by decide +kernel
theorem d_X7_bestOrder_46 : decode cX7_bestOrder 46 = .ok (.iconst 0, 1) := by decide +kernel
theorem d_X7_bestOrder_47 : decode cX7_bestOrder 47 = .ok (.istore 6, 2) := by decide +kernel
theorem d_X7_bestOrder_49 : decode cX7_bestOrder 49 = .ok (.iconst 0, 1) := by decide +kernel
theorem d_X7_bestOrder_50 : decode cX7_bestOrder 50 = .ok (.istore 7, 2) := by decide +kernel
theorem d_X7_bestOrder_52 : decode cX7_bestOrder 52 = .ok (.iload 7, 2) := by decide +kernel
theorem d_X7_bestOrder_54 : decode cX7_bestOrder 54 = .ok (.iload 4, 2) := by decide +kernel
theorem d_X7_bestOrder_56 : decode cX7_bestOrder 56 = .ok (.if_icmp .ge 23, 3) := by decide +kernel
theorem d_X7_bestOrder_59 : decode cX7_bestOrder 59 = .ok (.iload 6, 2) := by decide +kernel
theorem d_X7_bestOrder_61 : decode cX7_bestOrder 61 = .ok (.iconst 1, 1) := by decide +kernel
theorem d_X7_bestOrder_62 : decode cX7_bestOrder 62 = .ok (.aload_n 0, 1) := by decide +kernel
theorem d_X7_bestOrder_63 : decode cX7_bestOrder 63 = .ok (.getfield 55, 3) := by decide +kernel
theorem d_X7_bestOrder_66 : decode cX7_bestOrder 66 = .ok (.iload 7, 2) := by decide +kernel
theorem d_X7_bestOrder_68 : decode cX7_bestOrder 68 = .ok (.iaload, 1) := by decide +kernel
theorem d_X7_bestOrder_69 : decode cX7_bestOrder 69 = .ok (.ishl, 1) := by decide +kernel
theorem d_X7_bestOrder_70 : decode cX7_bestOrder 70 = .ok (.ior, 1) := by decide +kernel
theorem d_X7_bestOrder_71 : decode cX7_bestOrder 71 = .ok (.istore 6, 2) := by decide +kernel
theorem d_X7_bestOrder_73 : decode cX7_bestOrder 73 = .ok (.iinc 7 1, 3) := by decide +kernel
theorem d_X7_bestOrder_76 : decode cX7_bestOrder 76 = .ok (.goto (-24), 3) := by decide +kernel
theorem d_X7_bestOrder_79 : decode cX7_bestOrder 79 = .ok (.iload 4, 2) := by decide +kernel
theorem d_X7_bestOrder_81 : decode cX7_bestOrder 81 = .ok (.iload_n 2, 1) := by decide +kernel
theorem d_X7_bestOrder_82 : decode cX7_bestOrder 82 = .ok (.if_icmp .ne 98, 3) := by decide +kernel
theorem d_X7_bestOrder_85 : decode cX7_bestOrder 85 = .ok (.iconst 0, 1) := by decide +kernel
theorem d_X7_bestOrder_86 : decode cX7_bestOrder 86 = .ok (.istore 7, 2) := by decide +kernel
theorem d_X7_bestOrder_88 : decode cX7_bestOrder 88 = .ok (.iconst 0, 1) := by decide +kernel
theorem d_X7_bestOrder_89 : decode cX7_bestOrder 89 = .ok (.istore 8, 2) := by decide +kernel
theorem d_X7_bestOrder_91 : decode cX7_bestOrder 91 = .ok (.iload 8, 2) := by decide +kernel
theorem d_X7_bestOrder_93 : decode cX7_bestOrder 93 = .ok (.aload_n 0, 1) := by decide +kernel
theorem d_X7_bestOrder_94 : decode cX7_bestOrder 94 = .ok (.getfield 82, 3) := by decide +kernel
theorem d_X7_bestOrder_97 : decode cX7_bestOrder 97 = .ok (.if_icmp .ge 39, 3) := by decide +kernel
theorem d_X7_bestOrder_100 : decode cX7_bestOrder 100 = .ok (.iload 7, 2) := by decide +kernel
theorem d_X7_bestOrder_102 : decode cX7_bestOrder 102 = .ok (.iload_n 1, 1) := by decide +kernel
theorem d_X7_bestOrder_103 : decode cX7_bestOrder 103 = .ok (.iload 8, 2) := by decide +kernel
theorem d_X7_bestOrder_105 : decode cX7_bestOrder 105 = .ok (.invokestatic 238, 3) := by decide +kernel
theorem d_X7_bestOrder_108 : decode cX7_bestOrder 108 = .ok (.ifCond .eq 18, 3) := by decide +kernel
theorem d_X7_bestOrder_111 : decode cX7_bestOrder 111 = .ok (.aload_n 0, 1) := by decide +kernel
theorem d_X7_bestOrder_112 : decode cX7_bestOrder 112 = .ok (.iload 5, 2) := by decide +kernel
theorem d_X7_bestOrder_114 : decode cX7_bestOrder 114 = .ok (.iload 8, 2) := by decide +kernel
theorem d_X7_bestOrder_116 : decode cX7_bestOrder 116 = .ok (.invokevirtual 189, 3) := by decide +kernel
theorem d_X7_bestOrder_119 : decode cX7_bestOrder 119 = .ok (.ifCond .ne 7, 3) := by decide +kernel
theorem d_X7_bestOrder_122 : decode cX7_bestOrder 122 = .ok (.iconst 1, 1) := by decide +kernel
theorem d_X7_bestOrder_123 : decode cX7_bestOrder 123 = .ok (.goto 4, 3) := by decide +kernel
theorem d_X7_bestOrder_126 : decode cX7_bestOrder 126 = .ok (.iconst 0, 1) := by decide +kernel
theorem d_X7_bestOrder_127 : decode cX7_bestOrder 127 = .ok (.iadd, 1) := by decide +kernel
theorem d_X7_bestOrder_128 : decode cX7_bestOrder 128 = .ok (.istore 7, 2) := by decide +kernel
theorem d_X7_bestOrder_130 : decode cX7_bestOrder 130 = .ok (.iinc 8 1, 3) := by decide +kernel
theorem d_X7_bestOrder_133 : decode cX7_bestOrder 133 = .ok (.goto (-42), 3) := by decide +kernel
theorem d_X7_bestOrder_136 : decode cX7_bestOrder 136 = .ok (.iload 7, 2) := by decide +kernel
theorem d_X7_bestOrder_138 : decode cX7_bestOrder 138 = .ok (.iload_n 3, 1) := by decide +kernel
theorem d_X7_bestOrder_139 : decode cX7_bestOrder 139 = .ok (.if_icmp .le 35, 3) := by decide +kernel
theorem d_X7_bestOrder_142 : decode cX7_bestOrder 142 = .ok (.iload 7, 2) := by decide +kernel
theorem d_X7_bestOrder_144 : decode cX7_bestOrder 144 = .ok (.istore_n 3, 1) := by decide +kernel
theorem d_X7_bestOrder_145 : decode cX7_bestOrder 145 = .ok (.iconst 0, 1) := by decide +kernel
theorem d_X7_bestOrder_146 : decode cX7_bestOrder 146 = .ok (.istore 8, 2) := by decide +kernel
theorem d_X7_bestOrder_148 : decode cX7_bestOrder 148 = .ok (.iload 8, 2) := by decide +kernel
theorem d_X7_bestOrder_150 : decode cX7_bestOrder 150 = .ok (.iload_n 2, 1) := by decide +kernel
theorem d_X7_bestOrder_151 : decode cX7_bestOrder 151 = .ok (.if_icmp .ge 23, 3) := by decide +kernel
theorem d_X7_bestOrder_154 : decode cX7_bestOrder 154 = .ok (.aload_n 0, 1) := by decide +kernel
theorem d_X7_bestOrder_155 : decode cX7_bestOrder 155 = .ok (.getfield 58, 3) := by decide +kernel
theorem d_X7_bestOrder_158 : decode cX7_bestOrder 158 = .ok (.iload 8, 2) := by decide +kernel
theorem d_X7_bestOrder_160 : decode cX7_bestOrder 160 = .ok (.aload_n 0, 1) := by decide +kernel
theorem d_X7_bestOrder_161 : decode cX7_bestOrder 161 = .ok (.getfield 55, 3) := by decide +kernel
theorem d_X7_bestOrder_164 : decode cX7_bestOrder 164 = .ok (.iload 8, 2) := by decide +kernel
theorem d_X7_bestOrder_166 : decode cX7_bestOrder 166 = .ok (.iaload, 1) := by decide +kernel
theorem d_X7_bestOrder_167 : decode cX7_bestOrder 167 = .ok (.iastore, 1) := by decide +kernel
theorem d_X7_bestOrder_168 : decode cX7_bestOrder 168 = .ok (.iinc 8 1, 3) := by decide +kernel
theorem d_X7_bestOrder_171 : decode cX7_bestOrder 171 = .ok (.goto (-23), 3) := by decide +kernel
theorem d_X7_bestOrder_174 : decode cX7_bestOrder 174 = .ok (.iinc 4 (-1), 3) := by decide +kernel
theorem d_X7_bestOrder_177 : decode cX7_bestOrder 177 = .ok (.goto 105, 3) := by decide +kernel
theorem d_X7_bestOrder_180 : decode cX7_bestOrder 180 = .ok (.aload_n 0, 1) := by decide +kernel
theorem d_X7_bestOrder_181 : decode cX7_bestOrder 181 = .ok (.getfield 55, 3) := by decide +kernel
theorem d_X7_bestOrder_184 : decode cX7_bestOrder 184 = .ok (.iload 4, 2) := by decide +kernel
theorem d_X7_bestOrder_186 : decode cX7_bestOrder 186 = .ok (.iaload, 1) := by decide +kernel
theorem d_X7_bestOrder_187 : decode cX7_bestOrder 187 = .ok (.iconst 1, 1) := by decide +kernel
theorem d_X7_bestOrder_188 : decode cX7_bestOrder 188 = .ok (.iadd, 1) := by decide +kernel
theorem d_X7_bestOrder_189 : decode cX7_bestOrder 189 = .ok (.istore 7, 2) := by decide +kernel
theorem d_X7_bestOrder_191 : decode cX7_bestOrder 191 = .ok (.iload 7, 2) := by decide +kernel
theorem d_X7_bestOrder_193 : decode cX7_bestOrder 193 = .ok (.aload_n 0, 1) := by decide +kernel
theorem d_X7_bestOrder_194 : decode cX7_bestOrder 194 = .ok (.getfield 82, 3) := by decide +kernel
theorem d_X7_bestOrder_197 : decode cX7_bestOrder 197 = .ok (.if_icmp .ge 28, 3) := by decide +kernel
theorem d_X7_bestOrder_200 : decode cX7_bestOrder 200 = .ok (.iload_n 1, 1) := by decide +kernel
theorem d_X7_bestOrder_201 : decode cX7_bestOrder 201 = .ok (.iload 7, 2) := by decide +kernel
theorem d_X7_bestOrder_203 : decode cX7_bestOrder 203 = .ok (.invokestatic 238, 3) := by decide +kernel
theorem d_X7_bestOrder_206 : decode cX7_bestOrder 206 = .ok (.ifCond .eq 13, 3) := by decide +kernel
theorem d_X7_bestOrder_209 : decode cX7_bestOrder 209 = .ok (.iload 6, 2) := by decide +kernel
theorem d_X7_bestOrder_211 : decode cX7_bestOrder 211 = .ok (.iload 7, 2) := by decide +kernel
theorem d_X7_bestOrder_213 : decode cX7_bestOrder 213 = .ok (.invokestatic 238, 3) := by decide +kernel
theorem d_X7_bestOrder_216 : decode cX7_bestOrder 216 = .ok (.ifCond .eq 9, 3) := by decide +kernel
theorem d_X7_bestOrder_219 : decode cX7_bestOrder 219 = .ok (.iinc 7 1, 3) := by decide +kernel
theorem d_X7_bestOrder_222 : decode cX7_bestOrder 222 = .ok (.goto (-31), 3) := by decide +kernel
theorem d_X7_bestOrder_225 : decode cX7_bestOrder 225 = .ok (.aload_n 0, 1) := by decide +kernel
theorem d_X7_bestOrder_226 : decode cX7_bestOrder 226 = .ok (.getfield 55, 3) := by decide +kernel
theorem d_X7_bestOrder_229 : decode cX7_bestOrder 229 = .ok (.iload 4, 2) := by decide +kernel
theorem d_X7_bestOrder_231 : decode cX7_bestOrder 231 = .ok (.iload 7, 2) := by decide +kernel
theorem d_X7_bestOrder_233 : decode cX7_bestOrder 233 = .ok (.iastore, 1) := by decide +kernel
theorem d_X7_bestOrder_234 : decode cX7_bestOrder 234 = .ok (.iload 7, 2) := by decide +kernel
theorem d_X7_bestOrder_236 : decode cX7_bestOrder 236 = .ok (.aload_n 0, 1) := by decide +kernel
theorem d_X7_bestOrder_237 : decode cX7_bestOrder 237 = .ok (.getfield 82, 3) := by decide +kernel
theorem d_X7_bestOrder_240 : decode cX7_bestOrder 240 = .ok (.if_icmp .ne 9, 3) := by decide +kernel
theorem d_X7_bestOrder_243 : decode cX7_bestOrder 243 = .ok (.iinc 4 (-1), 3) := by decide +kernel
theorem d_X7_bestOrder_246 : decode cX7_bestOrder 246 = .ok (.goto 36, 3) := by decide +kernel
theorem d_X7_bestOrder_249 : decode cX7_bestOrder 249 = .ok (.aload_n 0, 1) := by decide +kernel
theorem d_X7_bestOrder_250 : decode cX7_bestOrder 250 = .ok (.iload 5, 2) := by decide +kernel
theorem d_X7_bestOrder_252 : decode cX7_bestOrder 252 = .ok (.iload 5, 2) := by decide +kernel
theorem d_X7_bestOrder_254 : decode cX7_bestOrder 254 = .ok (.bipush 83, 2) := by decide +kernel
theorem d_X7_bestOrder_256 : decode cX7_bestOrder 256 = .ok (.iadd, 1) := by decide +kernel
theorem d_X7_bestOrder_257 : decode cX7_bestOrder 257 = .ok (.invokevirtual 202, 3) := by decide +kernel
theorem d_X7_bestOrder_260 : decode cX7_bestOrder 260 = .ok (.aload_n 0, 1) := by decide +kernel
theorem d_X7_bestOrder_261 : decode cX7_bestOrder 261 = .ok (.iload 5, 2) := by decide +kernel
theorem d_X7_bestOrder_263 : decode cX7_bestOrder 263 = .ok (.bipush 83, 2) := by decide +kernel
theorem d_X7_bestOrder_265 : decode cX7_bestOrder 265 = .ok (.iadd, 1) := by decide +kernel
theorem d_X7_bestOrder_266 : decode cX7_bestOrder 266 = .ok (.iload 7, 2) := by decide +kernel
theorem d_X7_bestOrder_268 : decode cX7_bestOrder 268 = .ok (.invokevirtual 241, 3) := by decide +kernel
theorem d_X7_bestOrder_271 : decode cX7_bestOrder 271 = .ok (.iinc 4 1, 3) := by decide +kernel
theorem d_X7_bestOrder_274 : decode cX7_bestOrder 274 = .ok (.aload_n 0, 1) := by decide +kernel
theorem d_X7_bestOrder_275 : decode cX7_bestOrder 275 = .ok (.getfield 55, 3) := by decide +kernel
theorem d_X7_bestOrder_278 : decode cX7_bestOrder 278 = .ok (.iload 4, 2) := by decide +kernel
theorem d_X7_bestOrder_280 : decode cX7_bestOrder 280 = .ok (.iconst (-1), 1) := by decide +kernel
theorem d_X7_bestOrder_281 : decode cX7_bestOrder 281 = .ok (.iastore, 1) := by decide +kernel
theorem d_X7_bestOrder_282 : decode cX7_bestOrder 282 = .ok (.goto (-252), 3) := by decide +kernel
theorem d_X7_bestOrder_285 : decode cX7_bestOrder 285 = .ok (.iload_n 3, 1) := by decide +kernel
theorem d_X7_bestOrder_286 : decode cX7_bestOrder 286 = .ok (.ireturn, 1) := by decide +kernel
def t_X7_bestOrder_0 : List (Nat × QO) := [(0, o_al 0 1), (1, o_cV 1 7 158 3 1 4), (4, o_is 1 5), (5, o_il 1 6), (6, o_cS 1 104 3 1 9), (9, o_is 2 10), (10, o_k (-1) 11), (11, o_is 3 12), (12, o_k 0 13), (13, o_is 4 15), (15, o_al 0 16), (16, o_k 0 17)]
theorem ts_X7_bestOrder_0 (sx : QX) : ∀ q ∈ t_X7_bestOrder_0, q_Snd sx RX7 cX7_bestOrder 9 (some .int) q.1 q.2 := List.forall_mem_cons.mpr ⟨s_aload_n d_X7_bestOrder_0 rfl, List.forall_mem_cons.mpr ⟨s_cV (T := TX7) (N := 30) rfl d_X7_bestOrder_1 rfl k_5_80 k_5_82 k_0_52 k_1_12 k_5_83 ⟨by decide, by decide⟩ (by decide +kernel) (by decide), List.forall_mem_cons.mpr ⟨s_istore_n d_X7_bestOrder_4 rfl (by decide), List.forall_mem_cons.mpr ⟨s_iload_n d_X7_bestOrder_5 rfl, List.forall_mem_cons.mpr ⟨s_cS rfl d_X7_bestOrder_6 k_5_84 k_5_85 k_1_12 k_5_86 ⟨by decide, by decide⟩ (by decide +kernel) (by decide), List.forall_mem_cons.mpr ⟨s_istore_n d_X7_bestOrder_9 rfl (by decide), List.forall_mem_cons.mpr ⟨s_iconst d_X7_bestOrder_10 rfl, List.forall_mem_cons.mpr ⟨s_istore_n d_X7_bestOrder_11 rfl (by decide), List.forall_mem_cons.mpr ⟨s_iconst d_X7_bestOrder_12 rfl, List.forall_mem_cons.mpr ⟨s_istore d_X7_bestOrder_13 (by decide), List.forall_mem_cons.mpr ⟨s_aload_n d_X7_bestOrder_15 rfl, List.forall_mem_cons.mpr ⟨s_iconst d_X7_bestOrder_16 rfl, fun _ h => absurd h List.not_mem_nil⟩⟩⟩⟩⟩⟩⟩⟩⟩⟩⟩⟩
def t_X7_bestOrder_1 : List (Nat × QO) := [(17, o_k 996 20), (20, o_cV 0 7 105 4 3 23), (23, o_al 0 24), (24, o_gf 7 28 27), (27, o_k 0 28), (28, o_k (-1) 29), (29, o_iast 30), (30, o_il 4 32), (32, o_if (fun x => decide (x < 0)) 285 35), (35, o_k 996 38), (38, o_k 83 40), (40, o_il 4 42)]
theorem ts_X7_bestOrder_1 (sx : QX) : ∀ q ∈ t_X7_bestOrder_1, q_Snd sx RX7 cX7_bestOrder 9 (some .int) q.1 q.2 := List.forall_mem_cons.mpr ⟨s_sipush d_X7_bestOrder_17 rfl, List.forall_mem_cons.mpr ⟨s_cV (T := TX7) (N := 30) rfl d_X7_bestOrder_20 rfl k_5_10 k_5_12 k_0_42 k_1_12 k_5_13 ⟨by decide, by decide⟩ (by decide +kernel) (by decide), List.forall_mem_cons.mpr ⟨s_aload_n d_X7_bestOrder_23 rfl, List.forall_mem_cons.mpr ⟨s_gf d_X7_bestOrder_24 rfl (by decide) n_X7 in_X7 rfl k_4_57, List.forall_mem_cons.mpr ⟨s_iconst d_X7_bestOrder_27 rfl, List.forall_mem_cons.mpr ⟨s_iconst d_X7_bestOrder_28 rfl, List.forall_mem_cons.mpr ⟨s_iast d_X7_bestOrder_29, List.forall_mem_cons.mpr ⟨s_iload d_X7_bestOrder_30, List.forall_mem_cons.mpr ⟨s_if_lt d_X7_bestOrder_32 (by decide), List.forall_mem_cons.mpr ⟨s_sipush d_X7_bestOrder_35 rfl, List.forall_mem_cons.mpr ⟨s_bipush d_X7_bestOrder_38 rfl, List.forall_mem_cons.mpr ⟨s_iload d_X7_bestOrder_40, fun _ h => absurd h List.not_mem_nil⟩⟩⟩⟩⟩⟩⟩⟩⟩⟩⟩⟩
def t_X7_bestOrder_2 : List (Nat × QO) := [(42, o_b (fun x y => x * y) 43), (43, o_b (fun x y => x + y) 44), (44, o_is 5 46), (46, o_k 0 47), (47, o_is 6 49), (49, o_k 0 50), (50, o_is 7 52), (52, o_il 7 54), (54, o_il 4 56), (56, o_ic (fun x y => decide (y ≤ x)) 79 59), (59, o_il 6 61), (61, o_k 1 62)]
theorem ts_X7_bestOrder_2 (sx : QX) : ∀ q ∈ t_X7_bestOrder_2, q_Snd sx RX7 cX7_bestOrder 9 (some .int) q.1 q.2 := List.forall_mem_cons.mpr ⟨s_imul d_X7_bestOrder_42, List.forall_mem_cons.mpr ⟨s_iadd d_X7_bestOrder_43, List.forall_mem_cons.mpr ⟨s_istore d_X7_bestOrder_44 (by decide), List.forall_mem_cons.mpr ⟨s_iconst d_X7_bestOrder_46 rfl, List.forall_mem_cons.mpr ⟨s_istore d_X7_bestOrder_47 (by decide), List.forall_mem_cons.mpr ⟨s_iconst d_X7_bestOrder_49 rfl, List.forall_mem_cons.mpr ⟨s_istore d_X7_bestOrder_50 (by decide), List.forall_mem_cons.mpr ⟨s_iload d_X7_bestOrder_52, List.forall_mem_cons.mpr ⟨s_iload d_X7_bestOrder_54, List.forall_mem_cons.mpr ⟨s_ic_ge d_X7_bestOrder_56 (by decide), List.forall_mem_cons.mpr ⟨s_iload d_X7_bestOrder_59, List.forall_mem_cons.mpr ⟨s_iconst d_X7_bestOrder_61 rfl, fun _ h => absurd h List.not_mem_nil⟩⟩⟩⟩⟩⟩⟩⟩⟩⟩⟩⟩
def t_X7_bestOrder_3 : List (Nat × QO) := [(62, o_al 0 63), (63, o_gf 7 28 66), (66, o_il 7 68), (68, o_iald 69), (69, o_b (fun x y => x <<< (y &&& 31)) 70), (70, o_b (fun x y => x ||| y) 71), (71, o_is 6 73), (73, o_inc 7 1 76), (76, o_goto 52), (79, o_il 4 81), (81, o_il 2 82), (82, o_ic (fun x y => decide (x ≠ y)) 180 85)]
theorem ts_X7_bestOrder_3 (sx : QX) : ∀ q ∈ t_X7_bestOrder_3, q_Snd sx RX7 cX7_bestOrder 9 (some .int) q.1 q.2 := List.forall_mem_cons.mpr ⟨s_aload_n d_X7_bestOrder_62 rfl, List.forall_mem_cons.mpr ⟨s_gf d_X7_bestOrder_63 rfl (by decide) n_X7 in_X7 rfl k_4_57, List.forall_mem_cons.mpr ⟨s_iload d_X7_bestOrder_66, List.forall_mem_cons.mpr ⟨s_iald d_X7_bestOrder_68, List.forall_mem_cons.mpr ⟨s_ishl d_X7_bestOrder_69, List.forall_mem_cons.mpr ⟨s_ior d_X7_bestOrder_70, List.forall_mem_cons.mpr ⟨s_istore d_X7_bestOrder_71 (by decide), List.forall_mem_cons.mpr ⟨s_iinc d_X7_bestOrder_73 rfl (by decide), List.forall_mem_cons.mpr ⟨s_goto d_X7_bestOrder_76 (by decide), List.forall_mem_cons.mpr ⟨s_iload d_X7_bestOrder_79, List.forall_mem_cons.mpr ⟨s_iload_n d_X7_bestOrder_81 rfl, List.forall_mem_cons.mpr ⟨s_ic_ne d_X7_bestOrder_82 (by decide), fun _ h => absurd h List.not_mem_nil⟩⟩⟩⟩⟩⟩⟩⟩⟩⟩⟩⟩
def t_X7_bestOrder_4 : List (Nat × QO) := [(85, o_k 0 86), (86, o_is 7 88), (88, o_k 0 89), (89, o_is 8 91), (91, o_il 8 93), (93, o_al 0 94), (94, o_gf 7 3 97), (97, o_ic (fun x y => decide (y ≤ x)) 136 100), (100, o_il 7 102), (102, o_il 1 103), (103, o_il 8 105), (105, o_cS 1 103 2 2 108)]
theorem ts_X7_bestOrder_4 (sx : QX) : ∀ q ∈ t_X7_bestOrder_4, q_Snd sx RX7 cX7_bestOrder 9 (some .int) q.1 q.2 := List.forall_mem_cons.mpr ⟨s_iconst d_X7_bestOrder_85 rfl, List.forall_mem_cons.mpr ⟨s_istore d_X7_bestOrder_86 (by decide), List.forall_mem_cons.mpr ⟨s_iconst d_X7_bestOrder_88 rfl, List.forall_mem_cons.mpr ⟨s_istore d_X7_bestOrder_89 (by decide), List.forall_mem_cons.mpr ⟨s_iload d_X7_bestOrder_91, List.forall_mem_cons.mpr ⟨s_aload_n d_X7_bestOrder_93 rfl, List.forall_mem_cons.mpr ⟨s_gf d_X7_bestOrder_94 rfl (by decide) n_X7 in_X7 rfl k_4_32, List.forall_mem_cons.mpr ⟨s_ic_ge d_X7_bestOrder_97 (by decide), List.forall_mem_cons.mpr ⟨s_iload d_X7_bestOrder_100, List.forall_mem_cons.mpr ⟨s_iload_n d_X7_bestOrder_102 rfl, List.forall_mem_cons.mpr ⟨s_iload d_X7_bestOrder_103, List.forall_mem_cons.mpr ⟨s_cS rfl d_X7_bestOrder_105 k_5_87 k_5_88 k_1_12 k_5_89 ⟨by decide, by decide⟩ (by decide +kernel) (by decide), fun _ h => absurd h List.not_mem_nil⟩⟩⟩⟩⟩⟩⟩⟩⟩⟩⟩⟩
def t_X7_bestOrder_5 : List (Nat × QO) := [(108, o_if (fun x => decide (x = 0)) 126 111), (111, o_al 0 112), (112, o_il 5 114), (114, o_il 8 116), (116, o_cV 1 7 138 3 3 119), (119, o_if (fun x => decide (x ≠ 0)) 126 122), (122, o_k 1 123), (123, o_goto 127), (126, o_k 0 127), (127, o_b (fun x y => x + y) 128), (128, o_is 7 130), (130, o_inc 8 1 133)]
theorem ts_X7_bestOrder_5 (sx : QX) : ∀ q ∈ t_X7_bestOrder_5, q_Snd sx RX7 cX7_bestOrder 9 (some .int) q.1 q.2 := List.forall_mem_cons.mpr ⟨s_if_eq d_X7_bestOrder_108 (by decide), List.forall_mem_cons.mpr ⟨s_aload_n d_X7_bestOrder_111 rfl, List.forall_mem_cons.mpr ⟨s_iload d_X7_bestOrder_112, List.forall_mem_cons.mpr ⟨s_iload d_X7_bestOrder_114, List.forall_mem_cons.mpr ⟨s_cV (T := TX7) (N := 30) rfl d_X7_bestOrder_116 rfl k_5_2 k_5_4 k_0_40 k_1_12 k_5_5 ⟨by decide, by decide⟩ (by decide +kernel) (by decide), List.forall_mem_cons.mpr ⟨s_if_ne d_X7_bestOrder_119 (by decide), List.forall_mem_cons.mpr ⟨s_iconst d_X7_bestOrder_122 rfl, List.forall_mem_cons.mpr ⟨s_goto d_X7_bestOrder_123 (by decide), List.forall_mem_cons.mpr ⟨s_iconst d_X7_bestOrder_126 rfl, List.forall_mem_cons.mpr ⟨s_iadd d_X7_bestOrder_127, List.forall_mem_cons.mpr ⟨s_istore d_X7_bestOrder_128 (by decide), List.forall_mem_cons.mpr ⟨s_iinc d_X7_bestOrder_130 rfl (by decide), fun _ h => absurd h List.not_mem_nil⟩⟩⟩⟩⟩⟩⟩⟩⟩⟩⟩⟩
def t_X7_bestOrder_6 : List (Nat × QO) := [(133, o_goto 91), (136, o_il 7 138), (138, o_il 3 139), (139, o_ic (fun x y => decide (x ≤ y)) 174 142), (142, o_il 7 144), (144, o_is 3 145), (145, o_k 0 146), (146, o_is 8 148), (148, o_il 8 150), (150, o_il 2 151), (151, o_ic (fun x y => decide (y ≤ x)) 174 154), (154, o_al 0 155)]
theorem ts_X7_bestOrder_6 (sx : QX) : ∀ q ∈ t_X7_bestOrder_6, q_Snd sx RX7 cX7_bestOrder 9 (some .int) q.1 q.2 := List.forall_mem_cons.mpr ⟨s_goto d_X7_bestOrder_133 (by decide), List.forall_mem_cons.mpr ⟨s_iload d_X7_bestOrder_136, List.forall_mem_cons.mpr ⟨s_iload_n d_X7_bestOrder_138 rfl, List.forall_mem_cons.mpr ⟨s_ic_le d_X7_bestOrder_139 (by decide), List.forall_mem_cons.mpr ⟨s_iload d_X7_bestOrder_142, List.forall_mem_cons.mpr ⟨s_istore_n d_X7_bestOrder_144 rfl (by decide), List.forall_mem_cons.mpr ⟨s_iconst d_X7_bestOrder_145 rfl, List.forall_mem_cons.mpr ⟨s_istore d_X7_bestOrder_146 (by decide), List.forall_mem_cons.mpr ⟨s_iload d_X7_bestOrder_148, List.forall_mem_cons.mpr ⟨s_iload_n d_X7_bestOrder_150 rfl, List.forall_mem_cons.mpr ⟨s_ic_ge d_X7_bestOrder_151 (by decide), List.forall_mem_cons.mpr ⟨s_aload_n d_X7_bestOrder_154 rfl, fun _ h => absurd h List.not_mem_nil⟩⟩⟩⟩⟩⟩⟩⟩⟩⟩⟩⟩
def t_X7_bestOrder_7 : List (Nat × QO) := [(155, o_gf 7 29 158), (158, o_il 8 160), (160, o_al 0 161), (161, o_gf 7 28 164), (164, o_il 8 166), (166, o_iald 167), (167, o_iast 168), (168, o_inc 8 1 171), (171, o_goto 148), (174, o_inc 4 (-1) 177), (177, o_goto 282), (180, o_al 0 181)]
theorem ts_X7_bestOrder_7 (sx : QX) : ∀ q ∈ t_X7_bestOrder_7, q_Snd sx RX7 cX7_bestOrder 9 (some .int) q.1 q.2 := List.forall_mem_cons.mpr ⟨s_gf d_X7_bestOrder_155 rfl (by decide) n_X7 in_X7 rfl k_4_58, List.forall_mem_cons.mpr ⟨s_iload d_X7_bestOrder_158, List.forall_mem_cons.mpr ⟨s_aload_n d_X7_bestOrder_160 rfl, List.forall_mem_cons.mpr ⟨s_gf d_X7_bestOrder_161 rfl (by decide) n_X7 in_X7 rfl k_4_57, List.forall_mem_cons.mpr ⟨s_iload d_X7_bestOrder_164, List.forall_mem_cons.mpr ⟨s_iald d_X7_bestOrder_166, List.forall_mem_cons.mpr ⟨s_iast d_X7_bestOrder_167, List.forall_mem_cons.mpr ⟨s_iinc d_X7_bestOrder_168 rfl (by decide), List.forall_mem_cons.mpr ⟨s_goto d_X7_bestOrder_171 (by decide), List.forall_mem_cons.mpr ⟨s_iinc d_X7_bestOrder_174 rfl (by decide), List.forall_mem_cons.mpr ⟨s_goto d_X7_bestOrder_177 (by decide), List.forall_mem_cons.mpr ⟨s_aload_n d_X7_bestOrder_180 rfl, fun _ h => absurd h List.not_mem_nil⟩⟩⟩⟩⟩⟩⟩⟩⟩⟩⟩⟩
def t_X7_bestOrder_8 : List (Nat × QO) := [(181, o_gf 7 28 184), (184, o_il 4 186), (186, o_iald 187), (187, o_k 1 188), (188, o_b (fun x y => x + y) 189), (189, o_is 7 191), (191, o_il 7 193), (193, o_al 0 194), (194, o_gf 7 3 197), (197, o_ic (fun x y => decide (y ≤ x)) 225 200), (200, o_il 1 201), (201, o_il 7 203)]
theorem ts_X7_bestOrder_8 (sx : QX) : ∀ q ∈ t_X7_bestOrder_8, q_Snd sx RX7 cX7_bestOrder 9 (some .int) q.1 q.2 := List.forall_mem_cons.mpr ⟨s_gf d_X7_bestOrder_181 rfl (by decide) n_X7 in_X7 rfl k_4_57, List.forall_mem_cons.mpr ⟨s_iload d_X7_bestOrder_184, List.forall_mem_cons.mpr ⟨s_iald d_X7_bestOrder_186, List.forall_mem_cons.mpr ⟨s_iconst d_X7_bestOrder_187 rfl, List.forall_mem_cons.mpr ⟨s_iadd d_X7_bestOrder_188, List.forall_mem_cons.mpr ⟨s_istore d_X7_bestOrder_189 (by decide), List.forall_mem_cons.mpr ⟨s_iload d_X7_bestOrder_191, List.forall_mem_cons.mpr ⟨s_aload_n d_X7_bestOrder_193 rfl, List.forall_mem_cons.mpr ⟨s_gf d_X7_bestOrder_194 rfl (by decide) n_X7 in_X7 rfl k_4_32, List.forall_mem_cons.mpr ⟨s_ic_ge d_X7_bestOrder_197 (by decide), List.forall_mem_cons.mpr ⟨s_iload_n d_X7_bestOrder_200 rfl, List.forall_mem_cons.mpr ⟨s_iload d_X7_bestOrder_201, fun _ h => absurd h List.not_mem_nil⟩⟩⟩⟩⟩⟩⟩⟩⟩⟩⟩⟩
def t_X7_bestOrder_9 : List (Nat × QO) := [(203, o_cS 1 103 2 2 206), (206, o_if (fun x => decide (x = 0)) 219 209), (209, o_il 6 211), (211, o_il 7 213), (213, o_cS 1 103 2 2 216), (216, o_if (fun x => decide (x = 0)) 225 219), (219, o_inc 7 1 222), (222, o_goto 191), (225, o_al 0 226), (226, o_gf 7 28 229), (229, o_il 4 231), (231, o_il 7 233)]
theorem ts_X7_bestOrder_9 (sx : QX) : ∀ q ∈ t_X7_bestOrder_9, q_Snd sx RX7 cX7_bestOrder 9 (some .int) q.1 q.2 := List.forall_mem_cons.mpr ⟨s_cS rfl d_X7_bestOrder_203 k_5_87 k_5_88 k_1_12 k_5_89 ⟨by decide, by decide⟩ (by decide +kernel) (by decide), List.forall_mem_cons.mpr ⟨s_if_eq d_X7_bestOrder_206 (by decide), List.forall_mem_cons.mpr ⟨s_iload d_X7_bestOrder_209, List.forall_mem_cons.mpr ⟨s_iload d_X7_bestOrder_211, List.forall_mem_cons.mpr ⟨s_cS rfl d_X7_bestOrder_213 k_5_87 k_5_88 k_1_12 k_5_89 ⟨by decide, by decide⟩ (by decide +kernel) (by decide), List.forall_mem_cons.mpr ⟨s_if_eq d_X7_bestOrder_216 (by decide), List.forall_mem_cons.mpr ⟨s_iinc d_X7_bestOrder_219 rfl (by decide), List.forall_mem_cons.mpr ⟨s_goto d_X7_bestOrder_222 (by decide), List.forall_mem_cons.mpr ⟨s_aload_n d_X7_bestOrder_225 rfl, List.forall_mem_cons.mpr ⟨s_gf d_X7_bestOrder_226 rfl (by decide) n_X7 in_X7 rfl k_4_57, List.forall_mem_cons.mpr ⟨s_iload d_X7_bestOrder_229, List.forall_mem_cons.mpr ⟨s_iload d_X7_bestOrder_231, fun _ h => absurd h List.not_mem_nil⟩⟩⟩⟩⟩⟩⟩⟩⟩⟩⟩⟩
def t_X7_bestOrder_10 : List (Nat × QO) := [(233, o_iast 234), (234, o_il 7 236), (236, o_al 0 237), (237, o_gf 7 3 240), (240, o_ic (fun x y => decide (x ≠ y)) 249 243), (243, o_inc 4 (-1) 246), (246, o_goto 282), (249, o_al 0 250), (250, o_il 5 252), (252, o_il 5 254), (254, o_k 83 256), (256, o_b (fun x y => x + y) 257)]
theorem ts_X7_bestOrder_10 (sx : QX) : ∀ q ∈ t_X7_bestOrder_10, q_Snd sx RX7 cX7_bestOrder 9 (some .int) q.1 q.2 := List.forall_mem_cons.mpr ⟨s_iast d_X7_bestOrder_233, List.forall_mem_cons.mpr ⟨s_iload d_X7_bestOrder_234, List.forall_mem_cons.mpr ⟨s_aload_n d_X7_bestOrder_236 rfl, List.forall_mem_cons.mpr ⟨s_gf d_X7_bestOrder_237 rfl (by decide) n_X7 in_X7 rfl k_4_32, List.forall_mem_cons.mpr ⟨s_ic_ne d_X7_bestOrder_240 (by decide), List.forall_mem_cons.mpr ⟨s_iinc d_X7_bestOrder_243 rfl (by decide), List.forall_mem_cons.mpr ⟨s_goto d_X7_bestOrder_246 (by decide), List.forall_mem_cons.mpr ⟨s_aload_n d_X7_bestOrder_249 rfl, List.forall_mem_cons.mpr ⟨s_iload d_X7_bestOrder_250, List.forall_mem_cons.mpr ⟨s_iload d_X7_bestOrder_252, List.forall_mem_cons.mpr ⟨s_bipush d_X7_bestOrder_254 rfl, List.forall_mem_cons.mpr ⟨s_iadd d_X7_bestOrder_256, fun _ h => absurd h List.not_mem_nil⟩⟩⟩⟩⟩⟩⟩⟩⟩⟩⟩⟩
def t_X7_bestOrder_11 : List (Nat × QO) := [(257, o_cV 0 7 105 4 3 260), (260, o_al 0 261), (261, o_il 5 263), (263, o_k 83 265), (265, o_b (fun x y => x + y) 266), (266, o_il 7 268), (268, o_cV 0 7 157 4 3 271), (271, o_inc 4 1 274), (274, o_al 0 275), (275, o_gf 7 28 278), (278, o_il 4 280), (280, o_k (-1) 281)]
theorem ts_X7_bestOrder_11 (sx : QX) : ∀ q ∈ t_X7_bestOrder_11, q_Snd sx RX7 cX7_bestOrder 9 (some .int) q.1 q.2 := List.forall_mem_cons.mpr ⟨s_cV (T := TX7) (N := 30) rfl d_X7_bestOrder_257 rfl k_5_10 k_5_12 k_0_42 k_1_12 k_5_13 ⟨by decide, by decide⟩ (by decide +kernel) (by decide), List.forall_mem_cons.mpr ⟨s_aload_n d_X7_bestOrder_260 rfl, List.forall_mem_cons.mpr ⟨s_iload d_X7_bestOrder_261, List.forall_mem_cons.mpr ⟨s_bipush d_X7_bestOrder_263 rfl, List.forall_mem_cons.mpr ⟨s_iadd d_X7_bestOrder_265, List.forall_mem_cons.mpr ⟨s_iload d_X7_bestOrder_266, List.forall_mem_cons.mpr ⟨s_cV (T := TX7) (N := 30) rfl d_X7_bestOrder_268 rfl k_5_90 k_5_92 k_0_53 k_1_12 k_5_93 ⟨by decide, by decide⟩ (by decide +kernel) (by decide), List.forall_mem_cons.mpr ⟨s_iinc d_X7_bestOrder_271 rfl (by decide), List.forall_mem_cons.mpr ⟨s_aload_n d_X7_bestOrder_274 rfl, List.forall_mem_cons.mpr ⟨s_gf d_X7_bestOrder_275 rfl (by decide) n_X7 in_X7 rfl k_4_57, List.forall_mem_cons.mpr ⟨s_iload d_X7_bestOrder_278, List.forall_mem_cons.mpr ⟨s_iconst d_X7_bestOrder_280 rfl, fun _ h => absurd h List.not_mem_nil⟩⟩⟩⟩⟩⟩⟩⟩⟩⟩⟩⟩
def t_X7_bestOrder_12 : List (Nat × QO) := [(281, o_iast 282), (282, o_goto 30), (285, o_il 3 286), (286, o_ir false)]
theorem ts_X7_bestOrder_12 (sx : QX) : ∀ q ∈ t_X7_bestOrder_12, q_Snd sx RX7 cX7_bestOrder 9 (some .int) q.1 q.2 := List.forall_mem_cons.mpr ⟨s_iast d_X7_bestOrder_281, List.forall_mem_cons.mpr ⟨s_goto d_X7_bestOrder_282 (by decide), List.forall_mem_cons.mpr ⟨s_iload_n d_X7_bestOrder_285 rfl, List.forall_mem_cons.mpr ⟨s_ir d_X7_bestOrder_286 rfl, fun _ h => absurd h List.not_mem_nil⟩⟩⟩⟩
def t_X7_bestOrder (pc : Nat) : Option QO := cond (Nat.ble pc 130) (cond (Nat.ble pc 61) (cond (Nat.ble pc 16) (q_look (t_X7_bestOrder_0) pc) (cond (Nat.ble pc 40) (q_look (t_X7_bestOrder_1) pc) (q_look (t_X7_bestOrder_2) pc))) (cond (Nat.ble pc 82) (q_look (t_X7_bestOrder_3) pc) (cond (Nat.ble pc 105) (q_look (t_X7_bestOrder_4) pc) (q_look (t_X7_bestOrder_5) pc)))) (cond (Nat.ble pc 201) (cond (Nat.ble pc 154) (q_look (t_X7_bestOrder_6) pc) (cond (Nat.ble pc 180) (q_look (t_X7_bestOrder_7) pc) (q_look (t_X7_bestOrder_8) pc))) (cond (Nat.ble pc 256) (cond (Nat.ble pc 231) (q_look (t_X7_bestOrder_9) pc) (q_look (t_X7_bestOrder_10) pc)) (cond (Nat.ble pc 280) (q_look (t_X7_bestOrder_11) pc) (q_look (t_X7_bestOrder_12) pc))))
theorem ts_X7_bestOrder (sx : QX) (pc : Nat) : ∀ o, t_X7_bestOrder pc = some o → q_Snd sx RX7 cX7_bestOrder 9 (some .int) pc o := by
  unfold t_X7_bestOrder
  exact q_cb (q_cb (q_cb (q_look_all (ts_X7_bestOrder_0 sx)) (q_cb (q_look_all (ts_X7_bestOrder_1 sx)) (q_look_all (ts_X7_bestOrder_2 sx)))) (q_cb (q_look_all (ts_X7_bestOrder_3 sx)) (q_cb (q_look_all (ts_X7_bestOrder_4 sx)) (q_look_all (ts_X7_bestOrder_5 sx))))) (q_cb (q_cb (q_look_all (ts_X7_bestOrder_6 sx)) (q_cb (q_look_all (ts_X7_bestOrder_7 sx)) (q_look_all (ts_X7_bestOrder_8 sx)))) (q_cb (q_cb (q_look_all (ts_X7_bestOrder_9 sx)) (q_look_all (ts_X7_bestOrder_10 sx))) (q_cb (q_look_all (ts_X7_bestOrder_11 sx)) (q_look_all (ts_X7_bestOrder_12 sx)))))
theorem d_X7_order_0 : decode cX7_order 0 = .ok (.iload_n 1, 1) := by decide +kernel
theorem d_X7_order_1 : decode cX7_order 1 = .ok (.iconst (-1), 1) := by decide +kernel
theorem d_X7_order_2 : decode cX7_order 2 = .ok (.if_icmp .ge 5, 3) := by decide +kernel
theorem d_X7_order_5 : decode cX7_order 5 = .ok (.iconst (-1), 1) := by decide +kernel
theorem d_X7_order_6 : decode cX7_order 6 = .ok (.ireturn, 1) := by decide +kernel
theorem d_X7_order_7 : decode cX7_order 7 = .ok (.aload_n 0, 1) := by decide +kernel
theorem d_X7_order_8 : decode cX7_order 8 = .ok (.invokevirtual 244, 3) := by decide +kernel
theorem d_X7_order_11 : decode cX7_order 11 = .ok (.istore_n 2, 1) := by decide +kernel
theorem d_X7_order_12 : decode cX7_order 12 = .ok (.iload_n 1, 1) := by decide +kernel
theorem d_X7_order_13 : decode cX7_order 13 = .ok (.ifCond .ge 7, 3) := by decide +kernel
theorem d_X7_order_16 : decode cX7_order 16 = .ok (.iload_n 2, 1) := by decide +kernel
theorem d_X7_order_17 : decode cX7_order 17 = .ok (.goto 25, 3) := by decide +kernel
theorem d_X7_order_20 : decode cX7_order 20 = .ok (.iload_n 1, 1) := by decide +kernel
theorem d_X7_order_21 : decode cX7_order 21 = .ok (.aload_n 0, 1) := by decide +kernel
theorem d_X7_order_22 : decode cX7_order 22 = .ok (.invokevirtual 232, 3) := by decide +kernel
theorem d_X7_order_25 : decode cX7_order 25 = .ok (.invokestatic 235, 3) := by decide +kernel
theorem d_X7_order_28 : decode cX7_order 28 = .ok (.if_icmp .ge 12, 3) := by decide +kernel
theorem d_X7_order_31 : decode cX7_order 31 = .ok (.aload_n 0, 1) := by decide +kernel
theorem d_X7_order_32 : decode cX7_order 32 = .ok (.getfield 58, 3) := by decide +kernel
theorem d_X7_order_35 : decode cX7_order 35 = .ok (.iload_n 1, 1) := by decide +kernel
theorem d_X7_order_36 : decode cX7_order 36 = .ok (.iaload, 1) := by decide +kernel
theorem d_X7_order_37 : decode cX7_order 37 = .ok (.goto 5, 3) := by decide +kernel
theorem d_X7_order_40 : decode cX7_order 40 = .ok (.bipush (-4), 2) := by decide +kernel
theorem d_X7_order_42 : decode cX7_order 42 = .ok (.ireturn, 1) := by decide +kernel
def t_X7_order_0 : List (Nat × QO) := [(0, o_il 1 1), (1, o_k (-1) 2), (2, o_ic (fun x y => decide (y ≤ x)) 7 5), (5, o_k (-1) 6), (6, o_ir false), (7, o_al 0 8), (8, o_cV 1 7 159 9 1 11), (11, o_is 2 12), (12, o_il 1 13), (13, o_if (fun x => decide (0 ≤ x)) 20 16), (16, o_il 2 17), (17, o_goto 42)]
theorem ts_X7_order_0 (sx : QX) : ∀ q ∈ t_X7_order_0, q_Snd sx RX7 cX7_order 3 (some .int) q.1 q.2 := List.forall_mem_cons.mpr ⟨s_iload_n d_X7_order_0 rfl, List.forall_mem_cons.mpr ⟨s_iconst d_X7_order_1 rfl, List.forall_mem_cons.mpr ⟨s_ic_ge d_X7_order_2 (by decide), List.forall_mem_cons.mpr ⟨s_iconst d_X7_order_5 rfl, List.forall_mem_cons.mpr ⟨s_ir d_X7_order_6 rfl, List.forall_mem_cons.mpr ⟨s_aload_n d_X7_order_7 rfl, List.forall_mem_cons.mpr ⟨s_cV (T := TX7) (N := 30) rfl d_X7_order_8 rfl k_5_76 k_5_78 k_0_51 k_1_12 k_5_79 ⟨by decide, by decide⟩ (by decide +kernel) (by decide), List.forall_mem_cons.mpr ⟨s_istore_n d_X7_order_11 rfl (by decide), List.forall_mem_cons.mpr ⟨s_iload_n d_X7_order_12 rfl, List.forall_mem_cons.mpr ⟨s_if_ge d_X7_order_13 (by decide), List.forall_mem_cons.mpr ⟨s_iload_n d_X7_order_16 rfl, List.forall_mem_cons.mpr ⟨s_goto d_X7_order_17 (by decide), fun _ h => absurd h List.not_mem_nil⟩⟩⟩⟩⟩⟩⟩⟩⟩⟩⟩⟩
def t_X7_order_1 : List (Nat × QO) := [(20, o_il 1 21), (21, o_al 0 22), (22, o_cV 1 7 158 3 1 25), (25, o_cS 1 104 3 1 28), (28, o_ic (fun x y => decide (y ≤ x)) 40 31), (31, o_al 0 32), (32, o_gf 7 29 35), (35, o_il 1 36), (36, o_iald 37), (37, o_goto 42), (40, o_k (-4) 42), (42, o_ir false)]
theorem ts_X7_order_1 (sx : QX) : ∀ q ∈ t_X7_order_1, q_Snd sx RX7 cX7_order 3 (some .int) q.1 q.2 := List.forall_mem_cons.mpr ⟨s_iload_n d_X7_order_20 rfl, List.forall_mem_cons.mpr ⟨s_aload_n d_X7_order_21 rfl, List.forall_mem_cons.mpr ⟨s_cV (T := TX7) (N := 30) rfl d_X7_order_22 rfl k_5_80 k_5_82 k_0_52 k_1_12 k_5_83 ⟨by decide, by decide⟩ (by decide +kernel) (by decide), List.forall_mem_cons.mpr ⟨s_cS rfl d_X7_order_25 k_5_84 k_5_85 k_1_12 k_5_86 ⟨by decide, by decide⟩ (by decide +kernel) (by decide), List.forall_mem_cons.mpr ⟨s_ic_ge d_X7_order_28 (by decide), List.forall_mem_cons.mpr ⟨s_aload_n d_X7_order_31 rfl, List.forall_mem_cons.mpr ⟨s_gf d_X7_order_32 rfl (by decide) n_X7 in_X7 rfl k_4_58, List.forall_mem_cons.mpr ⟨s_iload_n d_X7_order_35 rfl, List.forall_mem_cons.mpr ⟨s_iald d_X7_order_36, List.forall_mem_cons.mpr ⟨s_goto d_X7_order_37 (by decide), List.forall_mem_cons.mpr ⟨s_bipush d_X7_order_40 rfl, List.forall_mem_cons.mpr ⟨s_ir d_X7_order_42 rfl, fun _ h => absurd h List.not_mem_nil⟩⟩⟩⟩⟩⟩⟩⟩⟩⟩⟩⟩
def t_X7_order (pc : Nat) : Option QO := cond (Nat.ble pc 17) (q_look (t_X7_order_0) pc) (q_look (t_X7_order_1) pc)
theorem ts_X7_order (sx : QX) (pc : Nat) : ∀ o, t_X7_order pc = some o → q_Snd sx RX7 cX7_order 3 (some .int) pc o := by
  unfold t_X7_order
  exact q_cb (q_look_all (ts_X7_order_0 sx)) (q_look_all (ts_X7_order_1 sx))
theorem d_X7_bestWord_0 : decode cX7_bestWord 0 = .ok (.bipush (-4), 2) := by decide +kernel
theorem d_X7_bestWord_2 : decode cX7_bestWord 2 = .ok (.istore_n 3, 1) := by decide +kernel
theorem d_X7_bestWord_3 : decode cX7_bestWord 3 = .ok (.iconst 0, 1) := by decide +kernel
theorem d_X7_bestWord_4 : decode cX7_bestWord 4 = .ok (.istore 4, 2) := by decide +kernel
theorem d_X7_bestWord_6 : decode cX7_bestWord 6 = .ok (.iconst 0, 1) := by decide +kernel
theorem d_X7_bestWord_7 : decode cX7_bestWord 7 = .ok (.istore 5, 2) := by decide +kernel
theorem d_X7_bestWord_9 : decode cX7_bestWord 9 = .ok (.iload 5, 2) := by decide +kernel
theorem d_X7_bestWord_11 : decode cX7_bestWord 11 = .ok (.aload_n 0, 1) := by decide +kernel
theorem d_X7_bestWord_12 : decode cX7_bestWord 12 = .ok (.getfield 89, 3) := by decide +kernel
theorem d_X7_bestWord_15 : decode cX7_bestWord 15 = .ok (.if_icmp .ge 51, 3) := by decide +kernel
theorem d_X7_bestWord_18 : decode cX7_bestWord 18 = .ok (.aload_n 0, 1) := by decide +kernel
theorem d_X7_bestWord_19 : decode cX7_bestWord 19 = .ok (.bipush 83, 2) := by decide +kernel
theorem d_X7_bestWord_21 : decode cX7_bestWord 21 = .ok (.iload_n 1, 1) := by decide +kernel
theorem d_X7_bestWord_22 : decode cX7_bestWord 22 = .ok (.iload_n 2, 1) := by decide +kernel
theorem d_X7_bestWord_23 : decode cX7_bestWord 23 = .ok (.iload 5, 2) := by decide +kernel
theorem d_X7_bestWord_25 : decode cX7_bestWord 25 = .ok (.invokevirtual 185, 3) := by decide +kernel
theorem d_X7_bestWord_28 : decode cX7_bestWord 28 = .ok (.istore 6, 2) := by decide +kernel
theorem d_X7_bestWord_30 : decode cX7_bestWord 30 = .ok (.iload 6, 2) := by decide +kernel
theorem d_X7_bestWord_32 : decode cX7_bestWord 32 = .ok (.iload 4, 2) := by decide +kernel
theorem d_X7_bestWord_34 : decode cX7_bestWord 34 = .ok (.if_icmp .le 8, 3) := by decide +kernel
theorem d_X7_bestWord_37 : decode cX7_bestWord 37 = .ok (.iload 5, 2) := by decide +kernel
theorem d_X7_bestWord_39 : decode cX7_bestWord 39 = .ok (.goto 4, 3) := by decide +kernel
theorem d_X7_bestWord_42 : decode cX7_bestWord 42 = .ok (.iload_n 3, 1) := by decide +kernel
theorem d_X7_bestWord_43 : decode cX7_bestWord 43 = .ok (.istore_n 3, 1) := by decide +kernel
theorem d_X7_bestWord_44 : decode cX7_bestWord 44 = .ok (.iload 6, 2) := by decide +kernel
theorem d_X7_bestWord_46 : decode cX7_bestWord 46 = .ok (.iload 4, 2) := by decide +kernel
theorem d_X7_bestWord_48 : decode cX7_bestWord 48 = .ok (.if_icmp .le 8, 3) := by decide +kernel
theorem d_X7_bestWord_51 : decode cX7_bestWord 51 = .ok (.iload 6, 2) := by decide +kernel
theorem d_X7_bestWord_53 : decode cX7_bestWord 53 = .ok (.goto 5, 3) := by decide +kernel
theorem d_X7_bestWord_56 : decode cX7_bestWord 56 = .ok (.iload 4, 2) := by decide +kernel
theorem d_X7_bestWord_58 : decode cX7_bestWord 58 = .ok (.istore 4, 2) := by decide +kernel
theorem d_X7_bestWord_60 : decode cX7_bestWord 60 = .ok (.iinc 5 1, 3) := by decide +kernel
theorem d_X7_bestWord_63 : decode cX7_bestWord 63 = .ok (.goto (-54), 3) := by decide +kernel
theorem d_X7_bestWord_66 : decode cX7_bestWord 66 = .ok (.iload_n 3, 1) := by decide +kernel
theorem d_X7_bestWord_67 : decode cX7_bestWord 67 = .ok (.ireturn, 1) := by decide +kernel
def t_X7_bestWord_0 : List (Nat × QO) := [(0, o_k (-4) 2), (2, o_is 3 3), (3, o_k 0 4), (4, o_is 4 6), (6, o_k 0 7), (7, o_is 5 9), (9, o_il 5 11), (11, o_al 0 12), (12, o_gf 7 6 15), (15, o_ic (fun x y => decide (y ≤ x)) 66 18), (18, o_al 0 19), (19, o_k 83 21)]
theorem ts_X7_bestWord_0 (sx : QX) : ∀ q ∈ t_X7_bestWord_0, q_Snd sx RX7 cX7_bestWord 7 (some .int) q.1 q.2 := List.forall_mem_cons.mpr ⟨s_bipush d_X7_bestWord_0 rfl, List.forall_mem_cons.mpr ⟨s_istore_n d_X7_bestWord_2 rfl (by decide), List.forall_mem_cons.mpr ⟨s_iconst d_X7_bestWord_3 rfl, List.forall_mem_cons.mpr ⟨s_istore d_X7_bestWord_4 (by decide), List.forall_mem_cons.mpr ⟨s_iconst d_X7_bestWord_6 rfl, List.forall_mem_cons.mpr ⟨s_istore d_X7_bestWord_7 (by decide), List.forall_mem_cons.mpr ⟨s_iload d_X7_bestWord_9, List.forall_mem_cons.mpr ⟨s_aload_n d_X7_bestWord_11 rfl, List.forall_mem_cons.mpr ⟨s_gf d_X7_bestWord_12 rfl (by decide) n_X7 in_X7 rfl k_4_35, List.forall_mem_cons.mpr ⟨s_ic_ge d_X7_bestWord_15 (by decide), List.forall_mem_cons.mpr ⟨s_aload_n d_X7_bestWord_18 rfl, List.forall_mem_cons.mpr ⟨s_bipush d_X7_bestWord_19 rfl, fun _ h => absurd h List.not_mem_nil⟩⟩⟩⟩⟩⟩⟩⟩⟩⟩⟩⟩
def t_X7_bestWord_1 : List (Nat × QO) := [(21, o_il 1 22), (22, o_il 2 23), (23, o_il 5 25), (25, o_cV 1 7 136 5 5 28), (28, o_is 6 30), (30, o_il 6 32), (32, o_il 4 34), (34, o_ic (fun x y => decide (x ≤ y)) 42 37), (37, o_il 5 39), (39, o_goto 43), (42, o_il 3 43), (43, o_is 3 44)]
theorem ts_X7_bestWord_1 (sx : QX) : ∀ q ∈ t_X7_bestWord_1, q_Snd sx RX7 cX7_bestWord 7 (some .int) q.1 q.2 := List.forall_mem_cons.mpr ⟨s_iload_n d_X7_bestWord_21 rfl, List.forall_mem_cons.mpr ⟨s_iload_n d_X7_bestWord_22 rfl, List.forall_mem_cons.mpr ⟨s_iload d_X7_bestWord_23, List.forall_mem_cons.mpr ⟨s_cV (T := TX7) (N := 30) rfl d_X7_bestWord_25 rfl k_4_215 k_4_217 k_0_35 k_1_12 k_4_218 ⟨by decide, by decide⟩ (by decide +kernel) (by decide), List.forall_mem_cons.mpr ⟨s_istore d_X7_bestWord_28 (by decide), List.forall_mem_cons.mpr ⟨s_iload d_X7_bestWord_30, List.forall_mem_cons.mpr ⟨s_iload d_X7_bestWord_32, List.forall_mem_cons.mpr ⟨s_ic_le d_X7_bestWord_34 (by decide), List.forall_mem_cons.mpr ⟨s_iload d_X7_bestWord_37, List.forall_mem_cons.mpr ⟨s_goto d_X7_bestWord_39 (by decide), List.forall_mem_cons.mpr ⟨s_iload_n d_X7_bestWord_42 rfl, List.forall_mem_cons.mpr ⟨s_istore_n d_X7_bestWord_43 rfl (by decide), fun _ h => absurd h List.not_mem_nil⟩⟩⟩⟩⟩⟩⟩⟩⟩⟩⟩⟩
def t_X7_bestWord_2 : List (Nat × QO) := [(44, o_il 6 46), (46, o_il 4 48), (48, o_ic (fun x y => decide (x ≤ y)) 56 51), (51, o_il 6 53), (53, o_goto 58), (56, o_il 4 58), (58, o_is 4 60), (60, o_inc 5 1 63), (63, o_goto 9), (66, o_il 3 67), (67, o_ir false)]
theorem ts_X7_bestWord_2 (sx : QX) : ∀ q ∈ t_X7_bestWord_2, q_Snd sx RX7 cX7_bestWord 7 (some .int) q.1 q.2 := List.forall_mem_cons.mpr ⟨s_iload d_X7_bestWord_44, List.forall_mem_cons.mpr ⟨s_iload d_X7_bestWord_46, List.forall_mem_cons.mpr ⟨s_ic_le d_X7_bestWord_48 (by decide), List.forall_mem_cons.mpr ⟨s_iload d_X7_bestWord_51, List.forall_mem_cons.mpr ⟨s_goto d_X7_bestWord_53 (by decide), List.forall_mem_cons.mpr ⟨s_iload d_X7_bestWord_56, List.forall_mem_cons.mpr ⟨s_istore d_X7_bestWord_58 (by decide), List.forall_mem_cons.mpr ⟨s_iinc d_X7_bestWord_60 rfl (by decide), List.forall_mem_cons.mpr ⟨s_goto d_X7_bestWord_63 (by decide), List.forall_mem_cons.mpr ⟨s_iload_n d_X7_bestWord_66 rfl, List.forall_mem_cons.mpr ⟨s_ir d_X7_bestWord_67 rfl, fun _ h => absurd h List.not_mem_nil⟩⟩⟩⟩⟩⟩⟩⟩⟩⟩⟩
def t_X7_bestWord (pc : Nat) : Option QO := cond (Nat.ble pc 19) (q_look (t_X7_bestWord_0) pc) (cond (Nat.ble pc 43) (q_look (t_X7_bestWord_1) pc) (q_look (t_X7_bestWord_2) pc))
theorem ts_X7_bestWord (sx : QX) (pc : Nat) : ∀ o, t_X7_bestWord pc = some o → q_Snd sx RX7 cX7_bestWord 7 (some .int) pc o := by
  unfold t_X7_bestWord
  exact q_cb (q_look_all (ts_X7_bestWord_0 sx)) (q_cb (q_look_all (ts_X7_bestWord_1 sx)) (q_look_all (ts_X7_bestWord_2 sx)))
theorem d_X7_days_0 : decode cX7_days 0 = .ok (.aload_n 0, 1) := by decide +kernel
theorem d_X7_days_1 : decode cX7_days 1 = .ok (.iload_n 1, 1) := by decide +kernel
theorem d_X7_days_2 : decode cX7_days 2 = .ok (.invokevirtual 161, 3) := by decide +kernel
theorem d_X7_days_5 : decode cX7_days 5 = .ok (.ifCond .eq 11, 3) := by decide +kernel
theorem d_X7_days_8 : decode cX7_days 8 = .ok (.aload_n 0, 1) := by decide +kernel
theorem d_X7_days_9 : decode cX7_days 9 = .ok (.iload_n 2, 1) := by decide +kernel
theorem d_X7_days_10 : decode cX7_days 10 = .ok (.invokevirtual 168, 3) := by decide +kernel
theorem d_X7_days_13 : decode cX7_days 13 = .ok (.ifCond .ne 5, 3) := by decide +kernel
theorem d_X7_days_16 : decode cX7_days 16 = .ok (.iconst (-1), 1) := by decide +kernel
theorem d_X7_days_17 : decode cX7_days 17 = .ok (.ireturn, 1) := by decide +kernel
theorem d_X7_days_18 : decode cX7_days 18 = .ok (.aload_n 0, 1) := by decide +kernel
theorem d_X7_days_19 : decode cX7_days 19 = .ok (.iconst 0, 1) := by decide +kernel
theorem d_X7_days_20 : decode cX7_days 20 = .ok (.iload_n 1, 1) := by decide +kernel
theorem d_X7_days_21 : decode cX7_days 21 = .ok (.invokevirtual 189, 3) := by decide +kernel
theorem d_X7_days_24 : decode cX7_days 24 = .ok (.ifCond .ne 6, 3) := by decide +kernel
theorem d_X7_days_27 : decode cX7_days 27 = .ok (.bipush (-2), 2) := by decide +kernel
theorem d_X7_days_29 : decode cX7_days 29 = .ok (.ireturn, 1) := by decide +kernel
theorem d_X7_days_30 : decode cX7_days 30 = .ok (.aload_n 0, 1) := by decide +kernel
theorem d_X7_days_31 : decode cX7_days 31 = .ok (.invokevirtual 247, 3) := by decide +kernel
theorem d_X7_days_34 : decode cX7_days 34 = .ok (.iconst 0, 1) := by decide +kernel
theorem d_X7_days_35 : decode cX7_days 35 = .ok (.istore_n 3, 1) := by decide +kernel
theorem d_X7_days_36 : decode cX7_days 36 = .ok (.iload_n 3, 1) := by decide +kernel
theorem d_X7_days_37 : decode cX7_days 37 = .ok (.bipush 30, 2) := by decide +kernel
theorem d_X7_days_39 : decode cX7_days 39 = .ok (.if_icmp .gt 74, 3) := by decide +kernel
theorem d_X7_days_42 : decode cX7_days 42 = .ok (.aload_n 0, 1) := by decide +kernel
theorem d_X7_days_43 : decode cX7_days 43 = .ok (.iload_n 2, 1) := by decide +kernel
theorem d_X7_days_44 : decode cX7_days 44 = .ok (.iload_n 1, 1) := by decide +kernel
theorem d_X7_days_45 : decode cX7_days 45 = .ok (.invokevirtual 250, 3) := by decide +kernel
theorem d_X7_days_48 : decode cX7_days 48 = .ok (.istore 4, 2) := by decide +kernel
theorem d_X7_days_50 : decode cX7_days 50 = .ok (.aload_n 0, 1) := by decide +kernel
theorem d_X7_days_51 : decode cX7_days 51 = .ok (.bipush 83, 2) := by decide +kernel
theorem d_X7_days_53 : decode cX7_days 53 = .ok (.iload_n 2, 1) := by decide +kernel
theorem d_X7_days_54 : decode cX7_days 54 = .ok (.iload_n 1, 1) := by decide +kernel
theorem d_X7_days_55 : decode cX7_days 55 = .ok (.invokevirtual 205, 3) := by decide +kernel
theorem d_X7_days_58 : decode cX7_days 58 = .ok (.ifCond .eq 31, 3) := by decide +kernel
theorem d_X7_days_61 : decode cX7_days 61 = .ok (.iload 4, 2) := by decide +kernel
theorem d_X7_days_63 : decode cX7_days 63 = .ok (.bipush (-4), 2) := by decide +kernel
theorem d_X7_days_65 : decode cX7_days 65 = .ok (.if_icmp .eq 24, 3) := by decide +kernel
theorem d_X7_days_68 : decode cX7_days 68 = .ok (.aload_n 0, 1) := by decide +kernel
theorem d_X7_days_69 : decode cX7_days 69 = .ok (.bipush 83, 2) := by decide +kernel
theorem d_X7_days_71 : decode cX7_days 71 = .ok (.iload_n 2, 1) := by decide +kernel
theorem d_X7_days_72 : decode cX7_days 72 = .ok (.iload_n 1, 1) := by decide +kernel
theorem d_X7_days_73 : decode cX7_days 73 = .ok (.iload 4, 2) := by decide +kernel
theorem d_X7_days_75 : decode cX7_days 75 = .ok (.invokevirtual 211, 3) := by decide +kernel
theorem d_X7_days_78 : decode cX7_days 78 = .ok (.aload_n 0, 1) := by decide +kernel
theorem d_X7_days_79 : decode cX7_days 79 = .ok (.iload_n 2, 1) := by decide +kernel
theorem d_X7_days_80 : decode cX7_days 80 = .ok (.iload_n 1, 1) := by decide +kernel
theorem d_X7_days_81 : decode cX7_days 81 = .ok (.invokevirtual 250, 3) := by decide +kernel
theorem d_X7_days_84 : decode cX7_days 84 = .ok (.istore 4, 2) := by decide +kernel
theorem d_X7_days_86 : decode cX7_days 86 = .ok (.goto (-36), 3) := by decide +kernel
theorem d_X7_days_89 : decode cX7_days 89 = .ok (.aload_n 0, 1) := by decide +kernel
theorem d_X7_days_90 : decode cX7_days 90 = .ok (.bipush 83, 2) := by decide +kernel
theorem d_X7_days_92 : decode cX7_days 92 = .ok (.iload_n 1, 1) := by decide +kernel
theorem d_X7_days_93 : decode cX7_days 93 = .ok (.invokevirtual 189, 3) := by decide +kernel
theorem d_X7_days_96 : decode cX7_days 96 = .ok (.ifCond .ne 5, 3) := by decide +kernel
theorem d_X7_days_99 : decode cX7_days 99 = .ok (.iload_n 3, 1) := by decide +kernel
theorem d_X7_days_100 : decode cX7_days 100 = .ok (.ireturn, 1) := by decide +kernel
theorem d_X7_days_101 : decode cX7_days 101 = .ok (.aload_n 0, 1) := by decide +kernel
theorem d_X7_days_102 : decode cX7_days 102 = .ok (.bipush 83, 2) := by decide +kernel
theorem d_X7_days_104 : decode cX7_days 104 = .ok (.invokevirtual 223, 3) := by decide +kernel
theorem d_X7_days_107 : decode cX7_days 107 = .ok (.iinc 3 1, 3) := by decide +kernel
theorem d_X7_days_110 : decode cX7_days 110 = .ok (.goto (-74), 3) := by decide +kernel
theorem d_X7_days_113 : decode cX7_days 113 = .ok (.bipush (-4), 2) := by decide +kernel
theorem d_X7_days_115 : decode cX7_days 115 = .ok (.ireturn, 1) := by decide +kernel
def t_X7_days_0 : List (Nat × QO) := [(0, o_al 0 1), (1, o_il 1 2), (2, o_cV 1 7 106 2 2 5), (5, o_if (fun x => decide (x = 0)) 16 8), (8, o_al 0 9), (9, o_il 2 10), (10, o_cV 1 7 108 2 2 13), (13, o_if (fun x => decide (x ≠ 0)) 18 16), (16, o_k (-1) 17), (17, o_ir false), (18, o_al 0 19), (19, o_k 0 20)]
theorem ts_X7_days_0 (sx : QX) : ∀ q ∈ t_X7_days_0, q_Snd sx RX7 cX7_days 5 (some .int) q.1 q.2 := List.forall_mem_cons.mpr ⟨s_aload_n d_X7_days_0 rfl, List.forall_mem_cons.mpr ⟨s_iload_n d_X7_days_1 rfl, List.forall_mem_cons.mpr ⟨s_cV (T := TX7) (N := 30) rfl d_X7_days_2 rfl k_4_183 k_4_185 k_0_32 k_1_12 k_4_186 ⟨by decide, by decide⟩ (by decide +kernel) (by decide), List.forall_mem_cons.mpr ⟨s_if_eq d_X7_days_5 (by decide), List.forall_mem_cons.mpr ⟨s_aload_n d_X7_days_8 rfl, List.forall_mem_cons.mpr ⟨s_iload_n d_X7_days_9 rfl, List.forall_mem_cons.mpr ⟨s_cV (T := TX7) (N := 30) rfl d_X7_days_10 rfl k_4_199 k_4_201 k_0_34 k_1_12 k_4_202 ⟨by decide, by decide⟩ (by decide +kernel) (by decide), List.forall_mem_cons.mpr ⟨s_if_ne d_X7_days_13 (by decide), List.forall_mem_cons.mpr ⟨s_iconst d_X7_days_16 rfl, List.forall_mem_cons.mpr ⟨s_ir d_X7_days_17 rfl, List.forall_mem_cons.mpr ⟨s_aload_n d_X7_days_18 rfl, List.forall_mem_cons.mpr ⟨s_iconst d_X7_days_19 rfl, fun _ h => absurd h List.not_mem_nil⟩⟩⟩⟩⟩⟩⟩⟩⟩⟩⟩⟩
def t_X7_days_1 : List (Nat × QO) := [(20, o_il 1 21), (21, o_cV 1 7 138 3 3 24), (24, o_if (fun x => decide (x ≠ 0)) 30 27), (27, o_k (-2) 29), (29, o_ir false), (30, o_al 0 31), (31, o_cV 0 7 152 1 1 34), (34, o_k 0 35), (35, o_is 3 36), (36, o_il 3 37), (37, o_k 30 39), (39, o_ic (fun x y => decide (y < x)) 113 42)]
theorem ts_X7_days_1 (sx : QX) : ∀ q ∈ t_X7_days_1, q_Snd sx RX7 cX7_days 5 (some .int) q.1 q.2 := List.forall_mem_cons.mpr ⟨s_iload_n d_X7_days_20 rfl, List.forall_mem_cons.mpr ⟨s_cV (T := TX7) (N := 30) rfl d_X7_days_21 rfl k_5_2 k_5_4 k_0_40 k_1_12 k_5_5 ⟨by decide, by decide⟩ (by decide +kernel) (by decide), List.forall_mem_cons.mpr ⟨s_if_ne d_X7_days_24 (by decide), List.forall_mem_cons.mpr ⟨s_bipush d_X7_days_27 rfl, List.forall_mem_cons.mpr ⟨s_ir d_X7_days_29 rfl, List.forall_mem_cons.mpr ⟨s_aload_n d_X7_days_30 rfl, List.forall_mem_cons.mpr ⟨s_cV (T := TX7) (N := 30) rfl d_X7_days_31 rfl k_5_98 k_5_100 k_0_54 k_1_12 k_5_101 ⟨by decide, by decide⟩ (by decide +kernel) (by decide), List.forall_mem_cons.mpr ⟨s_iconst d_X7_days_34 rfl, List.forall_mem_cons.mpr ⟨s_istore_n d_X7_days_35 rfl (by decide), List.forall_mem_cons.mpr ⟨s_iload_n d_X7_days_36 rfl, List.forall_mem_cons.mpr ⟨s_bipush d_X7_days_37 rfl, List.forall_mem_cons.mpr ⟨s_ic_gt d_X7_days_39 (by decide), fun _ h => absurd h List.not_mem_nil⟩⟩⟩⟩⟩⟩⟩⟩⟩⟩⟩⟩
def t_X7_days_2 : List (Nat × QO) := [(42, o_al 0 43), (43, o_il 2 44), (44, o_il 1 45), (45, o_cV 1 7 161 7 3 48), (48, o_is 4 50), (50, o_al 0 51), (51, o_k 83 53), (53, o_il 2 54), (54, o_il 1 55), (55, o_cV 1 7 143 4 4 58), (58, o_if (fun x => decide (x = 0)) 89 61), (61, o_il 4 63)]
theorem ts_X7_days_2 (sx : QX) : ∀ q ∈ t_X7_days_2, q_Snd sx RX7 cX7_days 5 (some .int) q.1 q.2 := List.forall_mem_cons.mpr ⟨s_aload_n d_X7_days_42 rfl, List.forall_mem_cons.mpr ⟨s_iload_n d_X7_days_43 rfl, List.forall_mem_cons.mpr ⟨s_iload_n d_X7_days_44 rfl, List.forall_mem_cons.mpr ⟨s_cV (T := TX7) (N := 30) rfl d_X7_days_45 rfl k_5_102 k_5_104 k_0_55 k_1_12 k_5_105 ⟨by decide, by decide⟩ (by decide +kernel) (by decide), List.forall_mem_cons.mpr ⟨s_istore d_X7_days_48 (by decide), List.forall_mem_cons.mpr ⟨s_aload_n d_X7_days_50 rfl, List.forall_mem_cons.mpr ⟨s_bipush d_X7_days_51 rfl, List.forall_mem_cons.mpr ⟨s_iload_n d_X7_days_53 rfl, List.forall_mem_cons.mpr ⟨s_iload_n d_X7_days_54 rfl, List.forall_mem_cons.mpr ⟨s_cV (T := TX7) (N := 30) rfl d_X7_days_55 rfl k_4_238 k_5_0 k_0_39 k_1_12 k_5_1 ⟨by decide, by decide⟩ (by decide +kernel) (by decide), List.forall_mem_cons.mpr ⟨s_if_eq d_X7_days_58 (by decide), List.forall_mem_cons.mpr ⟨s_iload d_X7_days_61, fun _ h => absurd h List.not_mem_nil⟩⟩⟩⟩⟩⟩⟩⟩⟩⟩⟩⟩
def t_X7_days_3 : List (Nat × QO) := [(63, o_k (-4) 65), (65, o_ic (fun x y => decide (x = y)) 89 68), (68, o_al 0 69), (69, o_k 83 71), (71, o_il 2 72), (72, o_il 1 73), (73, o_il 4 75), (75, o_cV 0 7 141 6 5 78), (78, o_al 0 79), (79, o_il 2 80), (80, o_il 1 81), (81, o_cV 1 7 161 7 3 84)]
theorem ts_X7_days_3 (sx : QX) : ∀ q ∈ t_X7_days_3, q_Snd sx RX7 cX7_days 5 (some .int) q.1 q.2 := List.forall_mem_cons.mpr ⟨s_bipush d_X7_days_63 rfl, List.forall_mem_cons.mpr ⟨s_ic_eq d_X7_days_65 (by decide), List.forall_mem_cons.mpr ⟨s_aload_n d_X7_days_68 rfl, List.forall_mem_cons.mpr ⟨s_bipush d_X7_days_69 rfl, List.forall_mem_cons.mpr ⟨s_iload_n d_X7_days_71 rfl, List.forall_mem_cons.mpr ⟨s_iload_n d_X7_days_72 rfl, List.forall_mem_cons.mpr ⟨s_iload d_X7_days_73, List.forall_mem_cons.mpr ⟨s_cV (T := TX7) (N := 30) rfl d_X7_days_75 rfl k_5_14 k_5_16 k_0_43 k_1_12 k_5_17 ⟨by decide, by decide⟩ (by decide +kernel) (by decide), List.forall_mem_cons.mpr ⟨s_aload_n d_X7_days_78 rfl, List.forall_mem_cons.mpr ⟨s_iload_n d_X7_days_79 rfl, List.forall_mem_cons.mpr ⟨s_iload_n d_X7_days_80 rfl, List.forall_mem_cons.mpr ⟨s_cV (T := TX7) (N := 30) rfl d_X7_days_81 rfl k_5_102 k_5_104 k_0_55 k_1_12 k_5_105 ⟨by decide, by decide⟩ (by decide +kernel) (by decide), fun _ h => absurd h List.not_mem_nil⟩⟩⟩⟩⟩⟩⟩⟩⟩⟩⟩⟩
def t_X7_days_4 : List (Nat × QO) := [(84, o_is 4 86), (86, o_goto 50), (89, o_al 0 90), (90, o_k 83 92), (92, o_il 1 93), (93, o_cV 1 7 138 3 3 96), (96, o_if (fun x => decide (x ≠ 0)) 101 99), (99, o_il 3 100), (100, o_ir false), (101, o_al 0 102), (102, o_k 83 104), (104, o_cV 0 7 142 3 2 107)]
theorem ts_X7_days_4 (sx : QX) : ∀ q ∈ t_X7_days_4, q_Snd sx RX7 cX7_days 5 (some .int) q.1 q.2 := List.forall_mem_cons.mpr ⟨s_istore d_X7_days_84 (by decide), List.forall_mem_cons.mpr ⟨s_goto d_X7_days_86 (by decide), List.forall_mem_cons.mpr ⟨s_aload_n d_X7_days_89 rfl, List.forall_mem_cons.mpr ⟨s_bipush d_X7_days_90 rfl, List.forall_mem_cons.mpr ⟨s_iload_n d_X7_days_92 rfl, List.forall_mem_cons.mpr ⟨s_cV (T := TX7) (N := 30) rfl d_X7_days_93 rfl k_5_2 k_5_4 k_0_40 k_1_12 k_5_5 ⟨by decide, by decide⟩ (by decide +kernel) (by decide), List.forall_mem_cons.mpr ⟨s_if_ne d_X7_days_96 (by decide), List.forall_mem_cons.mpr ⟨s_iload_n d_X7_days_99 rfl, List.forall_mem_cons.mpr ⟨s_ir d_X7_days_100 rfl, List.forall_mem_cons.mpr ⟨s_aload_n d_X7_days_101 rfl, List.forall_mem_cons.mpr ⟨s_bipush d_X7_days_102 rfl, List.forall_mem_cons.mpr ⟨s_cV (T := TX7) (N := 30) rfl d_X7_days_104 rfl k_5_48 k_5_50 k_0_48 k_1_12 k_5_51 ⟨by decide, by decide⟩ (by decide +kernel) (by decide), fun _ h => absurd h List.not_mem_nil⟩⟩⟩⟩⟩⟩⟩⟩⟩⟩⟩⟩
def t_X7_days_5 : List (Nat × QO) := [(107, o_inc 3 1 110), (110, o_goto 36), (113, o_k (-4) 115), (115, o_ir false)]
theorem ts_X7_days_5 (sx : QX) : ∀ q ∈ t_X7_days_5, q_Snd sx RX7 cX7_days 5 (some .int) q.1 q.2 := List.forall_mem_cons.mpr ⟨s_iinc d_X7_days_107 rfl (by decide), List.forall_mem_cons.mpr ⟨s_goto d_X7_days_110 (by decide), List.forall_mem_cons.mpr ⟨s_bipush d_X7_days_113 rfl, List.forall_mem_cons.mpr ⟨s_ir d_X7_days_115 rfl, fun _ h => absurd h List.not_mem_nil⟩⟩⟩⟩
def t_X7_days (pc : Nat) : Option QO := cond (Nat.ble pc 61) (cond (Nat.ble pc 19) (q_look (t_X7_days_0) pc) (cond (Nat.ble pc 39) (q_look (t_X7_days_1) pc) (q_look (t_X7_days_2) pc))) (cond (Nat.ble pc 81) (q_look (t_X7_days_3) pc) (cond (Nat.ble pc 104) (q_look (t_X7_days_4) pc) (q_look (t_X7_days_5) pc)))
theorem ts_X7_days (sx : QX) (pc : Nat) : ∀ o, t_X7_days pc = some o → q_Snd sx RX7 cX7_days 5 (some .int) pc o := by
  unfold t_X7_days
  exact q_cb (q_cb (q_look_all (ts_X7_days_0 sx)) (q_cb (q_look_all (ts_X7_days_1 sx)) (q_look_all (ts_X7_days_2 sx)))) (q_cb (q_look_all (ts_X7_days_3 sx)) (q_cb (q_look_all (ts_X7_days_4 sx)) (q_look_all (ts_X7_days_5 sx))))
theorem d_X7_frost_0 : decode cX7_frost 0 = .ok (.aload_n 0, 1) := by decide +kernel
theorem d_X7_frost_1 : decode cX7_frost 1 = .ok (.iload_n 1, 1) := by decide +kernel
theorem d_X7_frost_2 : decode cX7_frost 2 = .ok (.invokevirtual 161, 3) := by decide +kernel
theorem d_X7_frost_5 : decode cX7_frost 5 = .ok (.ifCond .ne 5, 3) := by decide +kernel
theorem d_X7_frost_8 : decode cX7_frost 8 = .ok (.iconst (-1), 1) := by decide +kernel
theorem d_X7_frost_9 : decode cX7_frost 9 = .ok (.ireturn, 1) := by decide +kernel
theorem d_X7_frost_10 : decode cX7_frost 10 = .ok (.aload_n 0, 1) := by decide +kernel
theorem d_X7_frost_11 : decode cX7_frost 11 = .ok (.iconst 0, 1) := by decide +kernel
theorem d_X7_frost_12 : decode cX7_frost 12 = .ok (.iload_n 1, 1) := by decide +kernel
theorem d_X7_frost_13 : decode cX7_frost 13 = .ok (.invokevirtual 189, 3) := by decide +kernel
theorem d_X7_frost_16 : decode cX7_frost 16 = .ok (.ifCond .ne 6, 3) := by decide +kernel
theorem d_X7_frost_19 : decode cX7_frost 19 = .ok (.bipush (-2), 2) := by decide +kernel
theorem d_X7_frost_21 : decode cX7_frost 21 = .ok (.ireturn, 1) := by decide +kernel
theorem d_X7_frost_22 : decode cX7_frost 22 = .ok (.aload_n 0, 1) := by decide +kernel
theorem d_X7_frost_23 : decode cX7_frost 23 = .ok (.invokevirtual 247, 3) := by decide +kernel
theorem d_X7_frost_26 : decode cX7_frost 26 = .ok (.iconst 0, 1) := by decide +kernel
theorem d_X7_frost_27 : decode cX7_frost 27 = .ok (.istore_n 2, 1) := by decide +kernel
theorem d_X7_frost_28 : decode cX7_frost 28 = .ok (.iload_n 2, 1) := by decide +kernel
theorem d_X7_frost_29 : decode cX7_frost 29 = .ok (.bipush 60, 2) := by decide +kernel
theorem d_X7_frost_31 : decode cX7_frost 31 = .ok (.if_icmp .gt 27, 3) := by decide +kernel
theorem d_X7_frost_34 : decode cX7_frost 34 = .ok (.aload_n 0, 1) := by decide +kernel
theorem d_X7_frost_35 : decode cX7_frost 35 = .ok (.bipush 83, 2) := by decide +kernel
theorem d_X7_frost_37 : decode cX7_frost 37 = .ok (.iload_n 1, 1) := by decide +kernel
theorem d_X7_frost_38 : decode cX7_frost 38 = .ok (.invokevirtual 189, 3) := by decide +kernel
theorem d_X7_frost_41 : decode cX7_frost 41 = .ok (.ifCond .ne 5, 3) := by decide +kernel
theorem d_X7_frost_44 : decode cX7_frost 44 = .ok (.iload_n 2, 1) := by decide +kernel
theorem d_X7_frost_45 : decode cX7_frost 45 = .ok (.ireturn, 1) := by decide +kernel
theorem d_X7_frost_46 : decode cX7_frost 46 = .ok (.aload_n 0, 1) := by decide +kernel
theorem d_X7_frost_47 : decode cX7_frost 47 = .ok (.bipush 83, 2) := by decide +kernel
theorem d_X7_frost_49 : decode cX7_frost 49 = .ok (.invokevirtual 223, 3) := by decide +kernel
theorem d_X7_frost_52 : decode cX7_frost 52 = .ok (.iinc 2 1, 3) := by decide +kernel
theorem d_X7_frost_55 : decode cX7_frost 55 = .ok (.goto (-27), 3) := by decide +kernel
theorem d_X7_frost_58 : decode cX7_frost 58 = .ok (.bipush (-4), 2) := by decide +kernel
theorem d_X7_frost_60 : decode cX7_frost 60 = .ok (.ireturn, 1) := by decide +kernel
def t_X7_frost_0 : List (Nat × QO) := [(0, o_al 0 1), (1, o_il 1 2), (2, o_cV 1 7 106 2 2 5), (5, o_if (fun x => decide (x ≠ 0)) 10 8), (8, o_k (-1) 9), (9, o_ir false), (10, o_al 0 11), (11, o_k 0 12), (12, o_il 1 13), (13, o_cV 1 7 138 3 3 16), (16, o_if (fun x => decide (x ≠ 0)) 22 19), (19, o_k (-2) 21)]
theorem ts_X7_frost_0 (sx : QX) : ∀ q ∈ t_X7_frost_0, q_Snd sx RX7 cX7_frost 3 (some .int) q.1 q.2 := List.forall_mem_cons.mpr ⟨s_aload_n d_X7_frost_0 rfl, List.forall_mem_cons.mpr ⟨s_iload_n d_X7_frost_1 rfl, List.forall_mem_cons.mpr ⟨s_cV (T := TX7) (N := 30) rfl d_X7_frost_2 rfl k_4_183 k_4_185 k_0_32 k_1_12 k_4_186 ⟨by decide, by decide⟩ (by decide +kernel) (by decide), List.forall_mem_cons.mpr ⟨s_if_ne d_X7_frost_5 (by decide), List.forall_mem_cons.mpr ⟨s_iconst d_X7_frost_8 rfl, List.forall_mem_cons.mpr ⟨s_ir d_X7_frost_9 rfl, List.forall_mem_cons.mpr ⟨s_aload_n d_X7_frost_10 rfl, List.forall_mem_cons.mpr ⟨s_iconst d_X7_frost_11 rfl, List.forall_mem_cons.mpr ⟨s_iload_n d_X7_frost_12 rfl, List.forall_mem_cons.mpr ⟨s_cV (T := TX7) (N := 30) rfl d_X7_frost_13 rfl k_5_2 k_5_4 k_0_40 k_1_12 k_5_5 ⟨by decide, by decide⟩ (by decide +kernel) (by decide), List.forall_mem_cons.mpr ⟨s_if_ne d_X7_frost_16 (by decide), List.forall_mem_cons.mpr ⟨s_bipush d_X7_frost_19 rfl, fun _ h => absurd h List.not_mem_nil⟩⟩⟩⟩⟩⟩⟩⟩⟩⟩⟩⟩
def t_X7_frost_1 : List (Nat × QO) := [(21, o_ir false), (22, o_al 0 23), (23, o_cV 0 7 152 1 1 26), (26, o_k 0 27), (27, o_is 2 28), (28, o_il 2 29), (29, o_k 60 31), (31, o_ic (fun x y => decide (y < x)) 58 34), (34, o_al 0 35), (35, o_k 83 37), (37, o_il 1 38), (38, o_cV 1 7 138 3 3 41)]
theorem ts_X7_frost_1 (sx : QX) : ∀ q ∈ t_X7_frost_1, q_Snd sx RX7 cX7_frost 3 (some .int) q.1 q.2 := List.forall_mem_cons.mpr ⟨s_ir d_X7_frost_21 rfl, List.forall_mem_cons.mpr ⟨s_aload_n d_X7_frost_22 rfl, List.forall_mem_cons.mpr ⟨s_cV (T := TX7) (N := 30) rfl d_X7_frost_23 rfl k_5_98 k_5_100 k_0_54 k_1_12 k_5_101 ⟨by decide, by decide⟩ (by decide +kernel) (by decide), List.forall_mem_cons.mpr ⟨s_iconst d_X7_frost_26 rfl, List.forall_mem_cons.mpr ⟨s_istore_n d_X7_frost_27 rfl (by decide), List.forall_mem_cons.mpr ⟨s_iload_n d_X7_frost_28 rfl, List.forall_mem_cons.mpr ⟨s_bipush d_X7_frost_29 rfl, List.forall_mem_cons.mpr ⟨s_ic_gt d_X7_frost_31 (by decide), List.forall_mem_cons.mpr ⟨s_aload_n d_X7_frost_34 rfl, List.forall_mem_cons.mpr ⟨s_bipush d_X7_frost_35 rfl, List.forall_mem_cons.mpr ⟨s_iload_n d_X7_frost_37 rfl, List.forall_mem_cons.mpr ⟨s_cV (T := TX7) (N := 30) rfl d_X7_frost_38 rfl k_5_2 k_5_4 k_0_40 k_1_12 k_5_5 ⟨by decide, by decide⟩ (by decide +kernel) (by decide), fun _ h => absurd h List.not_mem_nil⟩⟩⟩⟩⟩⟩⟩⟩⟩⟩⟩⟩
def t_X7_frost_2 : List (Nat × QO) := [(41, o_if (fun x => decide (x ≠ 0)) 46 44), (44, o_il 2 45), (45, o_ir false), (46, o_al 0 47), (47, o_k 83 49), (49, o_cV 0 7 142 3 2 52), (52, o_inc 2 1 55), (55, o_goto 28), (58, o_k (-4) 60), (60, o_ir false)]
theorem ts_X7_frost_2 (sx : QX) : ∀ q ∈ t_X7_frost_2, q_Snd sx RX7 cX7_frost 3 (some .int) q.1 q.2 := List.forall_mem_cons.mpr ⟨s_if_ne d_X7_frost_41 (by decide), List.forall_mem_cons.mpr ⟨s_iload_n d_X7_frost_44 rfl, List.forall_mem_cons.mpr ⟨s_ir d_X7_frost_45 rfl, List.forall_mem_cons.mpr ⟨s_aload_n d_X7_frost_46 rfl, List.forall_mem_cons.mpr ⟨s_bipush d_X7_frost_47 rfl, List.forall_mem_cons.mpr ⟨s_cV (T := TX7) (N := 30) rfl d_X7_frost_49 rfl k_5_48 k_5_50 k_0_48 k_1_12 k_5_51 ⟨by decide, by decide⟩ (by decide +kernel) (by decide), List.forall_mem_cons.mpr ⟨s_iinc d_X7_frost_52 rfl (by decide), List.forall_mem_cons.mpr ⟨s_goto d_X7_frost_55 (by decide), List.forall_mem_cons.mpr ⟨s_bipush d_X7_frost_58 rfl, List.forall_mem_cons.mpr ⟨s_ir d_X7_frost_60 rfl, fun _ h => absurd h List.not_mem_nil⟩⟩⟩⟩⟩⟩⟩⟩⟩⟩
def t_X7_frost (pc : Nat) : Option QO := cond (Nat.ble pc 19) (q_look (t_X7_frost_0) pc) (cond (Nat.ble pc 38) (q_look (t_X7_frost_1) pc) (q_look (t_X7_frost_2) pc))
theorem ts_X7_frost (sx : QX) (pc : Nat) : ∀ o, t_X7_frost pc = some o → q_Snd sx RX7 cX7_frost 3 (some .int) pc o := by
  unfold t_X7_frost
  exact q_cb (q_look_all (ts_X7_frost_0 sx)) (q_cb (q_look_all (ts_X7_frost_1 sx)) (q_look_all (ts_X7_frost_2 sx)))
theorem d_X7_uses_0 : decode cX7_uses 0 = .ok (.aload_n 0, 1) := by decide +kernel
theorem d_X7_uses_1 : decode cX7_uses 1 = .ok (.iload_n 1, 1) := by decide +kernel
theorem d_X7_uses_2 : decode cX7_uses 2 = .ok (.invokevirtual 161, 3) := by decide +kernel
theorem d_X7_uses_5 : decode cX7_uses 5 = .ok (.ifCond .ne 5, 3) := by decide +kernel
theorem d_X7_uses_8 : decode cX7_uses 8 = .ok (.iconst (-1), 1) := by decide +kernel
theorem d_X7_uses_9 : decode cX7_uses 9 = .ok (.ireturn, 1) := by decide +kernel
theorem d_X7_uses_10 : decode cX7_uses 10 = .ok (.aload_n 0, 1) := by decide +kernel
theorem d_X7_uses_11 : decode cX7_uses 11 = .ok (.getfield 7, 3) := by decide +kernel
theorem d_X7_uses_14 : decode cX7_uses 14 = .ok (.bipush 7, 2) := by decide +kernel
theorem d_X7_uses_16 : decode cX7_uses 16 = .ok (.iload_n 1, 1) := by decide +kernel
theorem d_X7_uses_17 : decode cX7_uses 17 = .ok (.iadd, 1) := by decide +kernel
theorem d_X7_uses_18 : decode cX7_uses 18 = .ok (.iaload, 1) := by decide +kernel
theorem d_X7_uses_19 : decode cX7_uses 19 = .ok (.iconst 2, 1) := by decide +kernel
theorem d_X7_uses_20 : decode cX7_uses 20 = .ok (.if_icmp .lt 6, 3) := by decide +kernel
theorem d_X7_uses_23 : decode cX7_uses 23 = .ok (.bipush (-2), 2) := by decide +kernel
theorem d_X7_uses_25 : decode cX7_uses 25 = .ok (.ireturn, 1) := by decide +kernel
theorem d_X7_uses_26 : decode cX7_uses 26 = .ok (.iconst 0, 1) := by decide +kernel
theorem d_X7_uses_27 : decode cX7_uses 27 = .ok (.istore_n 2, 1) := by decide +kernel
theorem d_X7_uses_28 : decode cX7_uses 28 = .ok (.iconst 0, 1) := by decide +kernel
theorem d_X7_uses_29 : decode cX7_uses 29 = .ok (.istore_n 3, 1) := by decide +kernel
theorem d_X7_uses_30 : decode cX7_uses 30 = .ok (.iload_n 3, 1) := by decide +kernel
theorem d_X7_uses_31 : decode cX7_uses 31 = .ok (.bipush 8, 2) := by decide +kernel
theorem d_X7_uses_33 : decode cX7_uses 33 = .ok (.if_icmp .ge 29, 3) := by decide +kernel
theorem d_X7_uses_36 : decode cX7_uses 36 = .ok (.iload_n 2, 1) := by decide +kernel
theorem d_X7_uses_37 : decode cX7_uses 37 = .ok (.aload_n 0, 1) := by decide +kernel
theorem d_X7_uses_38 : decode cX7_uses 38 = .ok (.iconst 0, 1) := by decide +kernel
theorem d_X7_uses_39 : decode cX7_uses 39 = .ok (.iload_n 1, 1) := by decide +kernel
theorem d_X7_uses_40 : decode cX7_uses 40 = .ok (.iload_n 3, 1) := by decide +kernel
theorem d_X7_uses_41 : decode cX7_uses 41 = .ok (.invokevirtual 199, 3) := by decide +kernel
theorem d_X7_uses_44 : decode cX7_uses 44 = .ok (.ifCond .eq 7, 3) := by decide +kernel
theorem d_X7_uses_47 : decode cX7_uses 47 = .ok (.iconst 0, 1) := by decide +kernel
theorem d_X7_uses_48 : decode cX7_uses 48 = .ok (.goto 6, 3) := by decide +kernel
theorem d_X7_uses_51 : decode cX7_uses 51 = .ok (.iconst 1, 1) := by decide +kernel
theorem d_X7_uses_52 : decode cX7_uses 52 = .ok (.iload_n 3, 1) := by decide +kernel
theorem d_X7_uses_53 : decode cX7_uses 53 = .ok (.ishl, 1) := by decide +kernel
theorem d_X7_uses_54 : decode cX7_uses 54 = .ok (.ior, 1) := by decide +kernel
theorem d_X7_uses_55 : decode cX7_uses 55 = .ok (.istore_n 2, 1) := by decide +kernel
theorem d_X7_uses_56 : decode cX7_uses 56 = .ok (.iinc 3 1, 3) := by decide +kernel
theorem d_X7_uses_59 : decode cX7_uses 59 = .ok (.goto (-29), 3) := by decide +kernel
theorem d_X7_uses_62 : decode cX7_uses 62 = .ok (.iload_n 2, 1) := by decide +kernel
theorem d_X7_uses_63 : decode cX7_uses 63 = .ok (.ireturn, 1) := by decide +kernel
def t_X7_uses_0 : List (Nat × QO) := [(0, o_al 0 1), (1, o_il 1 2), (2, o_cV 1 7 106 2 2 5), (5, o_if (fun x => decide (x ≠ 0)) 10 8), (8, o_k (-1) 9), (9, o_ir false), (10, o_al 0 11), (11, o_gf 7 0 14), (14, o_k 7 16), (16, o_il 1 17), (17, o_b (fun x y => x + y) 18), (18, o_iald 19)]
theorem ts_X7_uses_0 (sx : QX) : ∀ q ∈ t_X7_uses_0, q_Snd sx RX7 cX7_uses 4 (some .int) q.1 q.2 := List.forall_mem_cons.mpr ⟨s_aload_n d_X7_uses_0 rfl, List.forall_mem_cons.mpr ⟨s_iload_n d_X7_uses_1 rfl, List.forall_mem_cons.mpr ⟨s_cV (T := TX7) (N := 30) rfl d_X7_uses_2 rfl k_4_183 k_4_185 k_0_32 k_1_12 k_4_186 ⟨by decide, by decide⟩ (by decide +kernel) (by decide), List.forall_mem_cons.mpr ⟨s_if_ne d_X7_uses_5 (by decide), List.forall_mem_cons.mpr ⟨s_iconst d_X7_uses_8 rfl, List.forall_mem_cons.mpr ⟨s_ir d_X7_uses_9 rfl, List.forall_mem_cons.mpr ⟨s_aload_n d_X7_uses_10 rfl, List.forall_mem_cons.mpr ⟨s_gf d_X7_uses_11 rfl (by decide) n_X7 in_X7 rfl k_4_29, List.forall_mem_cons.mpr ⟨s_bipush d_X7_uses_14 rfl, List.forall_mem_cons.mpr ⟨s_iload_n d_X7_uses_16 rfl, List.forall_mem_cons.mpr ⟨s_iadd d_X7_uses_17, List.forall_mem_cons.mpr ⟨s_iald d_X7_uses_18, fun _ h => absurd h List.not_mem_nil⟩⟩⟩⟩⟩⟩⟩⟩⟩⟩⟩⟩
def t_X7_uses_1 : List (Nat × QO) := [(19, o_k 2 20), (20, o_ic (fun x y => decide (x < y)) 26 23), (23, o_k (-2) 25), (25, o_ir false), (26, o_k 0 27), (27, o_is 2 28), (28, o_k 0 29), (29, o_is 3 30), (30, o_il 3 31), (31, o_k 8 33), (33, o_ic (fun x y => decide (y ≤ x)) 62 36), (36, o_il 2 37)]
theorem ts_X7_uses_1 (sx : QX) : ∀ q ∈ t_X7_uses_1, q_Snd sx RX7 cX7_uses 4 (some .int) q.1 q.2 := List.forall_mem_cons.mpr ⟨s_iconst d_X7_uses_19 rfl, List.forall_mem_cons.mpr ⟨s_ic_lt d_X7_uses_20 (by decide), List.forall_mem_cons.mpr ⟨s_bipush d_X7_uses_23 rfl, List.forall_mem_cons.mpr ⟨s_ir d_X7_uses_25 rfl, List.forall_mem_cons.mpr ⟨s_iconst d_X7_uses_26 rfl, List.forall_mem_cons.mpr ⟨s_istore_n d_X7_uses_27 rfl (by decide), List.forall_mem_cons.mpr ⟨s_iconst d_X7_uses_28 rfl, List.forall_mem_cons.mpr ⟨s_istore_n d_X7_uses_29 rfl (by decide), List.forall_mem_cons.mpr ⟨s_iload_n d_X7_uses_30 rfl, List.forall_mem_cons.mpr ⟨s_bipush d_X7_uses_31 rfl, List.forall_mem_cons.mpr ⟨s_ic_ge d_X7_uses_33 (by decide), List.forall_mem_cons.mpr ⟨s_iload_n d_X7_uses_36 rfl, fun _ h => absurd h List.not_mem_nil⟩⟩⟩⟩⟩⟩⟩⟩⟩⟩⟩⟩
def t_X7_uses_2 : List (Nat × QO) := [(37, o_al 0 38), (38, o_k 0 39), (39, o_il 1 40), (40, o_il 3 41), (41, o_cV 1 7 144 7 4 44), (44, o_if (fun x => decide (x = 0)) 51 47), (47, o_k 0 48), (48, o_goto 54), (51, o_k 1 52), (52, o_il 3 53), (53, o_b (fun x y => x <<< (y &&& 31)) 54), (54, o_b (fun x y => x ||| y) 55)]
theorem ts_X7_uses_2 (sx : QX) : ∀ q ∈ t_X7_uses_2, q_Snd sx RX7 cX7_uses 4 (some .int) q.1 q.2 := List.forall_mem_cons.mpr ⟨s_aload_n d_X7_uses_37 rfl, List.forall_mem_cons.mpr ⟨s_iconst d_X7_uses_38 rfl, List.forall_mem_cons.mpr ⟨s_iload_n d_X7_uses_39 rfl, List.forall_mem_cons.mpr ⟨s_iload_n d_X7_uses_40 rfl, List.forall_mem_cons.mpr ⟨s_cV (T := TX7) (N := 30) rfl d_X7_uses_41 rfl k_5_39 k_5_41 k_0_47 k_1_12 k_5_42 ⟨by decide, by decide⟩ (by decide +kernel) (by decide), List.forall_mem_cons.mpr ⟨s_if_eq d_X7_uses_44 (by decide), List.forall_mem_cons.mpr ⟨s_iconst d_X7_uses_47 rfl, List.forall_mem_cons.mpr ⟨s_goto d_X7_uses_48 (by decide), List.forall_mem_cons.mpr ⟨s_iconst d_X7_uses_51 rfl, List.forall_mem_cons.mpr ⟨s_iload_n d_X7_uses_52 rfl, List.forall_mem_cons.mpr ⟨s_ishl d_X7_uses_53, List.forall_mem_cons.mpr ⟨s_ior d_X7_uses_54, fun _ h => absurd h List.not_mem_nil⟩⟩⟩⟩⟩⟩⟩⟩⟩⟩⟩⟩
def t_X7_uses_3 : List (Nat × QO) := [(55, o_is 2 56), (56, o_inc 3 1 59), (59, o_goto 30), (62, o_il 2 63), (63, o_ir false)]
theorem ts_X7_uses_3 (sx : QX) : ∀ q ∈ t_X7_uses_3, q_Snd sx RX7 cX7_uses 4 (some .int) q.1 q.2 := List.forall_mem_cons.mpr ⟨s_istore_n d_X7_uses_55 rfl (by decide), List.forall_mem_cons.mpr ⟨s_iinc d_X7_uses_56 rfl (by decide), List.forall_mem_cons.mpr ⟨s_goto d_X7_uses_59 (by decide), List.forall_mem_cons.mpr ⟨s_iload_n d_X7_uses_62 rfl, List.forall_mem_cons.mpr ⟨s_ir d_X7_uses_63 rfl, fun _ h => absurd h List.not_mem_nil⟩⟩⟩⟩⟩
def t_X7_uses (pc : Nat) : Option QO := cond (Nat.ble pc 36) (cond (Nat.ble pc 18) (q_look (t_X7_uses_0) pc) (q_look (t_X7_uses_1) pc)) (cond (Nat.ble pc 54) (q_look (t_X7_uses_2) pc) (q_look (t_X7_uses_3) pc))
theorem ts_X7_uses (sx : QX) (pc : Nat) : ∀ o, t_X7_uses pc = some o → q_Snd sx RX7 cX7_uses 4 (some .int) pc o := by
  unfold t_X7_uses
  exact q_cb (q_cb (q_look_all (ts_X7_uses_0 sx)) (q_look_all (ts_X7_uses_1 sx))) (q_cb (q_look_all (ts_X7_uses_2 sx)) (q_look_all (ts_X7_uses_3 sx)))
theorem d_X7_harmOf_0 : decode cX7_harmOf 0 = .ok (.iconst 0, 1) := by decide +kernel
theorem d_X7_harmOf_1 : decode cX7_harmOf 1 = .ok (.istore_n 3, 1) := by decide +kernel
theorem d_X7_harmOf_2 : decode cX7_harmOf 2 = .ok (.iconst 0, 1) := by decide +kernel
theorem d_X7_harmOf_3 : decode cX7_harmOf 3 = .ok (.istore 4, 2) := by decide +kernel
theorem d_X7_harmOf_5 : decode cX7_harmOf 5 = .ok (.iload 4, 2) := by decide +kernel
theorem d_X7_harmOf_7 : decode cX7_harmOf 7 = .ok (.aload_n 0, 1) := by decide +kernel
theorem d_X7_harmOf_8 : decode cX7_harmOf 8 = .ok (.getfield 82, 3) := by decide +kernel
theorem d_X7_harmOf_11 : decode cX7_harmOf 11 = .ok (.if_icmp .ge 51, 3) := by decide +kernel
theorem d_X7_harmOf_14 : decode cX7_harmOf 14 = .ok (.iload_n 3, 1) := by decide +kernel
theorem d_X7_harmOf_15 : decode cX7_harmOf 15 = .ok (.iload 4, 2) := by decide +kernel
theorem d_X7_harmOf_17 : decode cX7_harmOf 17 = .ok (.iload_n 1, 1) := by decide +kernel
theorem d_X7_harmOf_18 : decode cX7_harmOf 18 = .ok (.if_icmp .eq 35, 3) := by decide +kernel
theorem d_X7_harmOf_21 : decode cX7_harmOf 21 = .ok (.aload_n 0, 1) := by decide +kernel
theorem d_X7_harmOf_22 : decode cX7_harmOf 22 = .ok (.iconst 0, 1) := by decide +kernel
theorem d_X7_harmOf_23 : decode cX7_harmOf 23 = .ok (.iload_n 1, 1) := by decide +kernel
theorem d_X7_harmOf_24 : decode cX7_harmOf 24 = .ok (.iload 4, 2) := by decide +kernel
theorem d_X7_harmOf_26 : decode cX7_harmOf 26 = .ok (.invokevirtual 193, 3) := by decide +kernel
theorem d_X7_harmOf_29 : decode cX7_harmOf 29 = .ok (.ifCond .eq 24, 3) := by decide +kernel
theorem d_X7_harmOf_32 : decode cX7_harmOf 32 = .ok (.aload_n 0, 1) := by decide +kernel
theorem d_X7_harmOf_33 : decode cX7_harmOf 33 = .ok (.iload 4, 2) := by decide +kernel
theorem d_X7_harmOf_35 : decode cX7_harmOf 35 = .ok (.iload_n 2, 1) := by decide +kernel
theorem d_X7_harmOf_36 : decode cX7_harmOf 36 = .ok (.invokevirtual 171, 3) := by decide +kernel
theorem d_X7_harmOf_39 : decode cX7_harmOf 39 = .ok (.aload_n 0, 1) := by decide +kernel
theorem d_X7_harmOf_40 : decode cX7_harmOf 40 = .ok (.iconst 0, 1) := by decide +kernel
theorem d_X7_harmOf_41 : decode cX7_harmOf 41 = .ok (.iload 4, 2) := by decide +kernel
theorem d_X7_harmOf_43 : decode cX7_harmOf 43 = .ok (.iload_n 2, 1) := by decide +kernel
theorem d_X7_harmOf_44 : decode cX7_harmOf 44 = .ok (.invokevirtual 179, 3) := by decide +kernel
theorem d_X7_harmOf_47 : decode cX7_harmOf 47 = .ok (.invokestatic 182, 3) := by decide +kernel
theorem d_X7_harmOf_50 : decode cX7_harmOf 50 = .ok (.goto 4, 3) := by decide +kernel
theorem d_X7_harmOf_53 : decode cX7_harmOf 53 = .ok (.iconst 0, 1) := by decide +kernel
theorem d_X7_harmOf_54 : decode cX7_harmOf 54 = .ok (.iadd, 1) := by decide +kernel
theorem d_X7_harmOf_55 : decode cX7_harmOf 55 = .ok (.istore_n 3, 1) := by decide +kernel
theorem d_X7_harmOf_56 : decode cX7_harmOf 56 = .ok (.iinc 4 1, 3) := by decide +kernel
theorem d_X7_harmOf_59 : decode cX7_harmOf 59 = .ok (.goto (-54), 3) := by decide +kernel
theorem d_X7_harmOf_62 : decode cX7_harmOf 62 = .ok (.iload_n 3, 1) := by decide +kernel
theorem d_X7_harmOf_63 : decode cX7_harmOf 63 = .ok (.ireturn, 1) := by decide +kernel
def t_X7_harmOf_0 : List (Nat × QO) := [(0, o_k 0 1), (1, o_is 3 2), (2, o_k 0 3), (3, o_is 4 5), (5, o_il 4 7), (7, o_al 0 8), (8, o_gf 7 3 11), (11, o_ic (fun x y => decide (y ≤ x)) 62 14), (14, o_il 3 15), (15, o_il 4 17), (17, o_il 1 18), (18, o_ic (fun x y => decide (x = y)) 53 21)]
theorem ts_X7_harmOf_0 (sx : QX) : ∀ q ∈ t_X7_harmOf_0, q_Snd sx RX7 cX7_harmOf 5 (some .int) q.1 q.2 := List.forall_mem_cons.mpr ⟨s_iconst d_X7_harmOf_0 rfl, List.forall_mem_cons.mpr ⟨s_istore_n d_X7_harmOf_1 rfl (by decide), List.forall_mem_cons.mpr ⟨s_iconst d_X7_harmOf_2 rfl, List.forall_mem_cons.mpr ⟨s_istore d_X7_harmOf_3 (by decide), List.forall_mem_cons.mpr ⟨s_iload d_X7_harmOf_5, List.forall_mem_cons.mpr ⟨s_aload_n d_X7_harmOf_7 rfl, List.forall_mem_cons.mpr ⟨s_gf d_X7_harmOf_8 rfl (by decide) n_X7 in_X7 rfl k_4_32, List.forall_mem_cons.mpr ⟨s_ic_ge d_X7_harmOf_11 (by decide), List.forall_mem_cons.mpr ⟨s_iload_n d_X7_harmOf_14 rfl, List.forall_mem_cons.mpr ⟨s_iload d_X7_harmOf_15, List.forall_mem_cons.mpr ⟨s_iload_n d_X7_harmOf_17 rfl, List.forall_mem_cons.mpr ⟨s_ic_eq d_X7_harmOf_18 (by decide), fun _ h => absurd h List.not_mem_nil⟩⟩⟩⟩⟩⟩⟩⟩⟩⟩⟩⟩
def t_X7_harmOf_1 : List (Nat × QO) := [(21, o_al 0 22), (22, o_k 0 23), (23, o_il 1 24), (24, o_il 4 26), (26, o_cV 1 7 139 5 4 29), (29, o_if (fun x => decide (x = 0)) 53 32), (32, o_al 0 33), (33, o_il 4 35), (35, o_il 2 36), (36, o_cV 1 7 132 3 3 39), (39, o_al 0 40), (40, o_k 0 41)]
theorem ts_X7_harmOf_1 (sx : QX) : ∀ q ∈ t_X7_harmOf_1, q_Snd sx RX7 cX7_harmOf 5 (some .int) q.1 q.2 := List.forall_mem_cons.mpr ⟨s_aload_n d_X7_harmOf_21 rfl, List.forall_mem_cons.mpr ⟨s_iconst d_X7_harmOf_22 rfl, List.forall_mem_cons.mpr ⟨s_iload_n d_X7_harmOf_23 rfl, List.forall_mem_cons.mpr ⟨s_iload d_X7_harmOf_24, List.forall_mem_cons.mpr ⟨s_cV (T := TX7) (N := 30) rfl d_X7_harmOf_26 rfl k_5_18 k_5_20 k_0_44 k_1_12 k_5_21 ⟨by decide, by decide⟩ (by decide +kernel) (by decide), List.forall_mem_cons.mpr ⟨s_if_eq d_X7_harmOf_29 (by decide), List.forall_mem_cons.mpr ⟨s_aload_n d_X7_harmOf_32 rfl, List.forall_mem_cons.mpr ⟨s_iload d_X7_harmOf_33, List.forall_mem_cons.mpr ⟨s_iload_n d_X7_harmOf_35 rfl, List.forall_mem_cons.mpr ⟨s_cV (T := TX7) (N := 30) rfl d_X7_harmOf_36 rfl k_4_223 k_4_225 k_0_37 k_1_12 k_4_226 ⟨by decide, by decide⟩ (by decide +kernel) (by decide), List.forall_mem_cons.mpr ⟨s_aload_n d_X7_harmOf_39 rfl, List.forall_mem_cons.mpr ⟨s_iconst d_X7_harmOf_40 rfl, fun _ h => absurd h List.not_mem_nil⟩⟩⟩⟩⟩⟩⟩⟩⟩⟩⟩⟩
def t_X7_harmOf_2 : List (Nat × QO) := [(41, o_il 4 43), (43, o_il 2 44), (44, o_cV 1 7 134 4 4 47), (47, o_cS 1 133 2 2 50), (50, o_goto 54), (53, o_k 0 54), (54, o_b (fun x y => x + y) 55), (55, o_is 3 56), (56, o_inc 4 1 59), (59, o_goto 5), (62, o_il 3 63), (63, o_ir false)]
theorem ts_X7_harmOf_2 (sx : QX) : ∀ q ∈ t_X7_harmOf_2, q_Snd sx RX7 cX7_harmOf 5 (some .int) q.1 q.2 := List.forall_mem_cons.mpr ⟨s_iload d_X7_harmOf_41, List.forall_mem_cons.mpr ⟨s_iload_n d_X7_harmOf_43 rfl, List.forall_mem_cons.mpr ⟨s_cV (T := TX7) (N := 30) rfl d_X7_harmOf_44 rfl k_4_227 k_4_229 k_0_38 k_1_12 k_4_230 ⟨by decide, by decide⟩ (by decide +kernel) (by decide), List.forall_mem_cons.mpr ⟨s_cS rfl d_X7_harmOf_47 k_4_231 k_4_232 k_1_12 k_4_233 ⟨by decide, by decide⟩ (by decide +kernel) (by decide), List.forall_mem_cons.mpr ⟨s_goto d_X7_harmOf_50 (by decide), List.forall_mem_cons.mpr ⟨s_iconst d_X7_harmOf_53 rfl, List.forall_mem_cons.mpr ⟨s_iadd d_X7_harmOf_54, List.forall_mem_cons.mpr ⟨s_istore_n d_X7_harmOf_55 rfl (by decide), List.forall_mem_cons.mpr ⟨s_iinc d_X7_harmOf_56 rfl (by decide), List.forall_mem_cons.mpr ⟨s_goto d_X7_harmOf_59 (by decide), List.forall_mem_cons.mpr ⟨s_iload_n d_X7_harmOf_62 rfl, List.forall_mem_cons.mpr ⟨s_ir d_X7_harmOf_63 rfl, fun _ h => absurd h List.not_mem_nil⟩⟩⟩⟩⟩⟩⟩⟩⟩⟩⟩⟩
def t_X7_harmOf (pc : Nat) : Option QO := cond (Nat.ble pc 18) (q_look (t_X7_harmOf_0) pc) (cond (Nat.ble pc 40) (q_look (t_X7_harmOf_1) pc) (q_look (t_X7_harmOf_2) pc))
theorem ts_X7_harmOf (sx : QX) (pc : Nat) : ∀ o, t_X7_harmOf pc = some o → q_Snd sx RX7 cX7_harmOf 5 (some .int) pc o := by
  unfold t_X7_harmOf
  exact q_cb (q_look_all (ts_X7_harmOf_0 sx)) (q_cb (q_look_all (ts_X7_harmOf_1 sx)) (q_look_all (ts_X7_harmOf_2 sx)))
theorem d_X7_harm_0 : decode cX7_harm 0 = .ok (.aload_n 0, 1) := by decide +kernel
theorem d_X7_harm_1 : decode cX7_harm 1 = .ok (.iload_n 1, 1) := by decide +kernel
theorem d_X7_harm_2 : decode cX7_harm 2 = .ok (.invokevirtual 161, 3) := by decide +kernel
theorem d_X7_harm_5 : decode cX7_harm 5 = .ok (.ifCond .ne 5, 3) := by decide +kernel
theorem d_X7_harm_8 : decode cX7_harm 8 = .ok (.iconst (-1), 1) := by decide +kernel
theorem d_X7_harm_9 : decode cX7_harm 9 = .ok (.ireturn, 1) := by decide +kernel
theorem d_X7_harm_10 : decode cX7_harm 10 = .ok (.aload_n 0, 1) := by decide +kernel
theorem d_X7_harm_11 : decode cX7_harm 11 = .ok (.iconst 0, 1) := by decide +kernel
theorem d_X7_harm_12 : decode cX7_harm 12 = .ok (.iload_n 1, 1) := by decide +kernel
theorem d_X7_harm_13 : decode cX7_harm 13 = .ok (.invokevirtual 189, 3) := by decide +kernel
theorem d_X7_harm_16 : decode cX7_harm 16 = .ok (.ifCond .ne 6, 3) := by decide +kernel
theorem d_X7_harm_19 : decode cX7_harm 19 = .ok (.bipush (-2), 2) := by decide +kernel
theorem d_X7_harm_21 : decode cX7_harm 21 = .ok (.ireturn, 1) := by decide +kernel
theorem d_X7_harm_22 : decode cX7_harm 22 = .ok (.bipush (-4), 2) := by decide +kernel
theorem d_X7_harm_24 : decode cX7_harm 24 = .ok (.istore_n 2, 1) := by decide +kernel
theorem d_X7_harm_25 : decode cX7_harm 25 = .ok (.ldc 253, 2) := by decide +kernel
theorem d_X7_harm_27 : decode cX7_harm 27 = .ok (.istore_n 3, 1) := by decide +kernel
theorem d_X7_harm_28 : decode cX7_harm 28 = .ok (.iconst 0, 1) := by decide +kernel
theorem d_X7_harm_29 : decode cX7_harm 29 = .ok (.istore 4, 2) := by decide +kernel
theorem d_X7_harm_31 : decode cX7_harm 31 = .ok (.iconst 0, 1) := by decide +kernel
theorem d_X7_harm_32 : decode cX7_harm 32 = .ok (.istore 5, 2) := by decide +kernel
theorem d_X7_harm_34 : decode cX7_harm 34 = .ok (.iload 5, 2) := by decide +kernel
theorem d_X7_harm_36 : decode cX7_harm 36 = .ok (.aload_n 0, 1) := by decide +kernel
theorem d_X7_harm_37 : decode cX7_harm 37 = .ok (.getfield 92, 3) := by decide +kernel
theorem d_X7_harm_40 : decode cX7_harm 40 = .ok (.if_icmp .ge 136, 3) := by decide +kernel
theorem d_X7_harm_43 : decode cX7_harm 43 = .ok (.iconst 0, 1) := by decide +kernel
theorem d_X7_harm_44 : decode cX7_harm 44 = .ok (.istore 6, 2) := by decide +kernel
theorem d_X7_harm_46 : decode cX7_harm 46 = .ok (.iload 6, 2) := by decide +kernel
theorem d_X7_harm_48 : decode cX7_harm 48 = .ok (.aload_n 0, 1) := by decide +kernel
theorem d_X7_harm_49 : decode cX7_harm 49 = .ok (.getfield 89, 3) := by decide +kernel
theorem d_X7_harm_52 : decode cX7_harm 52 = .ok (.if_icmp .ge 118, 3) := by decide +kernel
theorem d_X7_harm_55 : decode cX7_harm 55 = .ok (.aload_n 0, 1) := by decide +kernel
theorem d_X7_harm_56 : decode cX7_harm 56 = .ok (.getfield 7, 3) := by decide +kernel
theorem d_X7_harm_59 : decode cX7_harm 59 = .ok (.bipush 79, 2) := by decide +kernel
theorem d_X7_harm_61 : decode cX7_harm 61 = .ok (.iload 5, 2) := by decide +kernel
theorem d_X7_harm_63 : decode cX7_harm 63 = .ok (.iadd, 1) := by decide +kernel
theorem d_X7_harm_64 : decode cX7_harm 64 = .ok (.iaload, 1) := by decide +kernel
theorem d_X7_harm_65 : decode cX7_harm 65 = .ok (.ifCond .le 105, 3) := by decide +kernel
theorem d_X7_harm_68 : decode cX7_harm 68 = .ok (.aload_n 0, 1) := by decide +kernel
theorem d_X7_harm_69 : decode cX7_harm 69 = .ok (.iconst 0, 1) := by decide +kernel
theorem d_X7_harm_70 : decode cX7_harm 70 = .ok (.iload 5, 2) := by decide +kernel
theorem d_X7_harm_72 : decode cX7_harm 72 = .ok (.iload_n 1, 1) := by decide +kernel
theorem d_X7_harm_73 : decode cX7_harm 73 = .ok (.iload 6, 2) := by decide +kernel
theorem d_X7_harm_75 : decode cX7_harm 75 = .ok (.invokevirtual 185, 3) := by decide +kernel
theorem d_X7_harm_78 : decode cX7_harm 78 = .ok (.istore 7, 2) := by decide +kernel
theorem d_X7_harm_80 : decode cX7_harm 80 = .ok (.aload_n 0, 1) := by decide +kernel
theorem d_X7_harm_81 : decode cX7_harm 81 = .ok (.iload_n 1, 1) := by decide +kernel
theorem d_X7_harm_82 : decode cX7_harm 82 = .ok (.iload 6, 2) := by decide +kernel
theorem d_X7_harm_84 : decode cX7_harm 84 = .ok (.invokevirtual 254, 3) := by decide +kernel
theorem d_X7_harm_87 : decode cX7_harm 87 = .ok (.istore 8, 2) := by decide +kernel
theorem d_X7_harm_89 : decode cX7_harm 89 = .ok (.iload 7, 2) := by decide +kernel
theorem d_X7_harm_91 : decode cX7_harm 91 = .ok (.ifCond .le 26, 3) := by decide +kernel
theorem d_X7_harm_94 : decode cX7_harm 94 = .ok (.iload 8, 2) := by decide +kernel
theorem d_X7_harm_96 : decode cX7_harm 96 = .ok (.iload_n 3, 1) := by decide +kernel
theorem d_X7_harm_97 : decode cX7_harm 97 = .ok (.if_icmp .lt 16, 3) := by decide +kernel
theorem d_X7_harm_100 : decode cX7_harm 100 = .ok (.iload 8, 2) := by decide +kernel
theorem d_X7_harm_102 : decode cX7_harm 102 = .ok (.iload_n 3, 1) := by decide +kernel
theorem d_X7_harm_103 : decode cX7_harm 103 = .ok (.if_icmp .ne 14, 3) := by decide +kernel
theorem d_X7_harm_106 : decode cX7_harm 106 = .ok (.iload 7, 2) := by decide +kernel
theorem d_X7_harm_108 : decode cX7_harm 108 = .ok (.iload 4, 2) := by decide +kernel
theorem d_X7_harm_110 : decode cX7_harm 110 = .ok (.if_icmp .le 7, 3) := by decide +kernel
theorem d_X7_harm_113 : decode cX7_harm 113 = .ok (.iconst 1, 1) := by decide +kernel
theorem d_X7_harm_114 : decode cX7_harm 114 = .ok (.goto 4, 3) := by decide +kernel
theorem d_X7_harm_117 : decode cX7_harm 117 = .ok (.iconst 0, 1) := by decide +kernel
theorem d_X7_harm_118 : decode cX7_harm 118 = .ok (.istore 9, 2) := by decide +kernel
theorem d_X7_harm_120 : decode cX7_harm 120 = .ok (.iload 9, 2) := by decide +kernel
theorem d_X7_harm_122 : decode cX7_harm 122 = .ok (.ifCond .eq 14, 3) := by decide +kernel
theorem d_X7_harm_125 : decode cX7_harm 125 = .ok (.bipush 10, 2) := by decide +kernel
theorem d_X7_harm_127 : decode cX7_harm 127 = .ok (.iload 5, 2) := by decide +kernel
theorem d_X7_harm_129 : decode cX7_harm 129 = .ok (.imul, 1) := by decide +kernel
theorem d_X7_harm_130 : decode cX7_harm 130 = .ok (.iload 6, 2) := by decide +kernel
theorem d_X7_harm_132 : decode cX7_harm 132 = .ok (.iadd, 1) := by decide +kernel
theorem d_X7_harm_133 : decode cX7_harm 133 = .ok (.goto 4, 3) := by decide +kernel
theorem d_X7_harm_136 : decode cX7_harm 136 = .ok (.iload_n 2, 1) := by decide +kernel
theorem d_X7_harm_137 : decode cX7_harm 137 = .ok (.istore_n 2, 1) := by decide +kernel
theorem d_X7_harm_138 : decode cX7_harm 138 = .ok (.iload 9, 2) := by decide +kernel
theorem d_X7_harm_140 : decode cX7_harm 140 = .ok (.ifCond .eq 8, 3) := by decide +kernel
theorem d_X7_harm_143 : decode cX7_harm 143 = .ok (.iload 8, 2) := by decide +kernel
theorem d_X7_harm_145 : decode cX7_harm 145 = .ok (.goto 4, 3) := by decide +kernel
theorem d_X7_harm_148 : decode cX7_harm 148 = .ok (.iload_n 3, 1) := by decide +kernel
theorem d_X7_harm_149 : decode cX7_harm 149 = .ok (.istore_n 3, 1) := by decide +kernel
theorem d_X7_harm_150 : decode cX7_harm 150 = .ok (.iload 9, 2) := by decide +kernel
theorem d_X7_harm_152 : decode cX7_harm 152 = .ok (.ifCond .eq 8, 3) := by decide +kernel
theorem d_X7_harm_155 : decode cX7_harm 155 = .ok (.iload 7, 2) := by decide +kernel
theorem d_X7_harm_157 : decode cX7_harm 157 = .ok (.goto 5, 3) := by decide +kernel
theorem d_X7_harm_160 : decode cX7_harm 160 = .ok (.iload 4, 2) := by decide +kernel
theorem d_X7_harm_162 : decode cX7_harm 162 = .ok (.istore 4, 2) := by decide +kernel
theorem d_X7_harm_164 : decode cX7_harm 164 = .ok (.iinc 6 1, 3) := by decide +kernel
theorem d_X7_harm_167 : decode cX7_harm 167 = .ok (.goto (-121), 3) := by decide +kernel
theorem d_X7_harm_170 : decode cX7_harm 170 = .ok (.iinc 5 1, 3) := by decide +kernel
theorem d_X7_harm_173 : decode cX7_harm 173 = .ok (.goto (-139), 3) := by decide +kernel
theorem d_X7_harm_176 : decode cX7_harm 176 = .ok (.iload_n 2, 1) := by decide +kernel
theorem d_X7_harm_177 : decode cX7_harm 177 = .ok (.ireturn, 1) := by decide +kernel
def t_X7_harm_0 : List (Nat × QO) := [(0, o_al 0 1), (1, o_il 1 2), (2, o_cV 1 7 106 2 2 5), (5, o_if (fun x => decide (x ≠ 0)) 10 8), (8, o_k (-1) 9), (9, o_ir false), (10, o_al 0 11), (11, o_k 0 12), (12, o_il 1 13), (13, o_cV 1 7 138 3 3 16), (16, o_if (fun x => decide (x ≠ 0)) 22 19), (19, o_k (-2) 21)]
theorem ts_X7_harm_0 (sx : QX) : ∀ q ∈ t_X7_harm_0, q_Snd sx RX7 cX7_harm 10 (some .int) q.1 q.2 := List.forall_mem_cons.mpr ⟨s_aload_n d_X7_harm_0 rfl, List.forall_mem_cons.mpr ⟨s_iload_n d_X7_harm_1 rfl, List.forall_mem_cons.mpr ⟨s_cV (T := TX7) (N := 30) rfl d_X7_harm_2 rfl k_4_183 k_4_185 k_0_32 k_1_12 k_4_186 ⟨by decide, by decide⟩ (by decide +kernel) (by decide), List.forall_mem_cons.mpr ⟨s_if_ne d_X7_harm_5 (by decide), List.forall_mem_cons.mpr ⟨s_iconst d_X7_harm_8 rfl, List.forall_mem_cons.mpr ⟨s_ir d_X7_harm_9 rfl, List.forall_mem_cons.mpr ⟨s_aload_n d_X7_harm_10 rfl, List.forall_mem_cons.mpr ⟨s_iconst d_X7_harm_11 rfl, List.forall_mem_cons.mpr ⟨s_iload_n d_X7_harm_12 rfl, List.forall_mem_cons.mpr ⟨s_cV (T := TX7) (N := 30) rfl d_X7_harm_13 rfl k_5_2 k_5_4 k_0_40 k_1_12 k_5_5 ⟨by decide, by decide⟩ (by decide +kernel) (by decide), List.forall_mem_cons.mpr ⟨s_if_ne d_X7_harm_16 (by decide), List.forall_mem_cons.mpr ⟨s_bipush d_X7_harm_19 rfl, fun _ h => absurd h List.not_mem_nil⟩⟩⟩⟩⟩⟩⟩⟩⟩⟩⟩⟩
def t_X7_harm_1 : List (Nat × QO) := [(21, o_ir false), (22, o_k (-4) 24), (24, o_is 2 25), (25, o_k 1000000 27), (27, o_is 3 28), (28, o_k 0 29), (29, o_is 4 31), (31, o_k 0 32), (32, o_is 5 34), (34, o_il 5 36), (36, o_al 0 37), (37, o_gf 7 8 40)]
theorem ts_X7_harm_1 (sx : QX) : ∀ q ∈ t_X7_harm_1, q_Snd sx RX7 cX7_harm 10 (some .int) q.1 q.2 := List.forall_mem_cons.mpr ⟨s_ir d_X7_harm_21 rfl, List.forall_mem_cons.mpr ⟨s_bipush d_X7_harm_22 rfl, List.forall_mem_cons.mpr ⟨s_istore_n d_X7_harm_24 rfl (by decide), List.forall_mem_cons.mpr ⟨s_ldc d_X7_harm_25 k_5_118, List.forall_mem_cons.mpr ⟨s_istore_n d_X7_harm_27 rfl (by decide), List.forall_mem_cons.mpr ⟨s_iconst d_X7_harm_28 rfl, List.forall_mem_cons.mpr ⟨s_istore d_X7_harm_29 (by decide), List.forall_mem_cons.mpr ⟨s_iconst d_X7_harm_31 rfl, List.forall_mem_cons.mpr ⟨s_istore d_X7_harm_32 (by decide), List.forall_mem_cons.mpr ⟨s_iload d_X7_harm_34, List.forall_mem_cons.mpr ⟨s_aload_n d_X7_harm_36 rfl, List.forall_mem_cons.mpr ⟨s_gf d_X7_harm_37 rfl (by decide) n_X7 in_X7 rfl k_4_37, fun _ h => absurd h List.not_mem_nil⟩⟩⟩⟩⟩⟩⟩⟩⟩⟩⟩⟩
def t_X7_harm_2 : List (Nat × QO) := [(40, o_ic (fun x y => decide (y ≤ x)) 176 43), (43, o_k 0 44), (44, o_is 6 46), (46, o_il 6 48), (48, o_al 0 49), (49, o_gf 7 6 52), (52, o_ic (fun x y => decide (y ≤ x)) 170 55), (55, o_al 0 56), (56, o_gf 7 0 59), (59, o_k 79 61), (61, o_il 5 63), (63, o_b (fun x y => x + y) 64)]
theorem ts_X7_harm_2 (sx : QX) : ∀ q ∈ t_X7_harm_2, q_Snd sx RX7 cX7_harm 10 (some .int) q.1 q.2 := List.forall_mem_cons.mpr ⟨s_ic_ge d_X7_harm_40 (by decide), List.forall_mem_cons.mpr ⟨s_iconst d_X7_harm_43 rfl, List.forall_mem_cons.mpr ⟨s_istore d_X7_harm_44 (by decide), List.forall_mem_cons.mpr ⟨s_iload d_X7_harm_46, List.forall_mem_cons.mpr ⟨s_aload_n d_X7_harm_48 rfl, List.forall_mem_cons.mpr ⟨s_gf d_X7_harm_49 rfl (by decide) n_X7 in_X7 rfl k_4_35, List.forall_mem_cons.mpr ⟨s_ic_ge d_X7_harm_52 (by decide), List.forall_mem_cons.mpr ⟨s_aload_n d_X7_harm_55 rfl, List.forall_mem_cons.mpr ⟨s_gf d_X7_harm_56 rfl (by decide) n_X7 in_X7 rfl k_4_29, List.forall_mem_cons.mpr ⟨s_bipush d_X7_harm_59 rfl, List.forall_mem_cons.mpr ⟨s_iload d_X7_harm_61, List.forall_mem_cons.mpr ⟨s_iadd d_X7_harm_63, fun _ h => absurd h List.not_mem_nil⟩⟩⟩⟩⟩⟩⟩⟩⟩⟩⟩⟩
def t_X7_harm_3 : List (Nat × QO) := [(64, o_iald 65), (65, o_if (fun x => decide (x ≤ 0)) 170 68), (68, o_al 0 69), (69, o_k 0 70), (70, o_il 5 72), (72, o_il 1 73), (73, o_il 6 75), (75, o_cV 1 7 136 5 5 78), (78, o_is 7 80), (80, o_al 0 81), (81, o_il 1 82), (82, o_il 6 84)]
theorem ts_X7_harm_3 (sx : QX) : ∀ q ∈ t_X7_harm_3, q_Snd sx RX7 cX7_harm 10 (some .int) q.1 q.2 := List.forall_mem_cons.mpr ⟨s_iald d_X7_harm_64, List.forall_mem_cons.mpr ⟨s_if_le d_X7_harm_65 (by decide), List.forall_mem_cons.mpr ⟨s_aload_n d_X7_harm_68 rfl, List.forall_mem_cons.mpr ⟨s_iconst d_X7_harm_69 rfl, List.forall_mem_cons.mpr ⟨s_iload d_X7_harm_70, List.forall_mem_cons.mpr ⟨s_iload_n d_X7_harm_72 rfl, List.forall_mem_cons.mpr ⟨s_iload d_X7_harm_73, List.forall_mem_cons.mpr ⟨s_cV (T := TX7) (N := 30) rfl d_X7_harm_75 rfl k_4_215 k_4_217 k_0_35 k_1_12 k_4_218 ⟨by decide, by decide⟩ (by decide +kernel) (by decide), List.forall_mem_cons.mpr ⟨s_istore d_X7_harm_78 (by decide), List.forall_mem_cons.mpr ⟨s_aload_n d_X7_harm_80 rfl, List.forall_mem_cons.mpr ⟨s_iload_n d_X7_harm_81 rfl, List.forall_mem_cons.mpr ⟨s_iload d_X7_harm_82, fun _ h => absurd h List.not_mem_nil⟩⟩⟩⟩⟩⟩⟩⟩⟩⟩⟩⟩
def t_X7_harm_4 : List (Nat × QO) := [(84, o_cV 1 7 165 5 3 87), (87, o_is 8 89), (89, o_il 7 91), (91, o_if (fun x => decide (x ≤ 0)) 117 94), (94, o_il 8 96), (96, o_il 3 97), (97, o_ic (fun x y => decide (x < y)) 113 100), (100, o_il 8 102), (102, o_il 3 103), (103, o_ic (fun x y => decide (x ≠ y)) 117 106), (106, o_il 7 108), (108, o_il 4 110)]
theorem ts_X7_harm_4 (sx : QX) : ∀ q ∈ t_X7_harm_4, q_Snd sx RX7 cX7_harm 10 (some .int) q.1 q.2 := List.forall_mem_cons.mpr ⟨s_cV (T := TX7) (N := 30) rfl d_X7_harm_84 rfl k_5_119 k_5_121 k_0_56 k_1_12 k_5_122 ⟨by decide, by decide⟩ (by decide +kernel) (by decide), List.forall_mem_cons.mpr ⟨s_istore d_X7_harm_87 (by decide), List.forall_mem_cons.mpr ⟨s_iload d_X7_harm_89, List.forall_mem_cons.mpr ⟨s_if_le d_X7_harm_91 (by decide), List.forall_mem_cons.mpr ⟨s_iload d_X7_harm_94, List.forall_mem_cons.mpr ⟨s_iload_n d_X7_harm_96 rfl, List.forall_mem_cons.mpr ⟨s_ic_lt d_X7_harm_97 (by decide), List.forall_mem_cons.mpr ⟨s_iload d_X7_harm_100, List.forall_mem_cons.mpr ⟨s_iload_n d_X7_harm_102 rfl, List.forall_mem_cons.mpr ⟨s_ic_ne d_X7_harm_103 (by decide), List.forall_mem_cons.mpr ⟨s_iload d_X7_harm_106, List.forall_mem_cons.mpr ⟨s_iload d_X7_harm_108, fun _ h => absurd h List.not_mem_nil⟩⟩⟩⟩⟩⟩⟩⟩⟩⟩⟩⟩
def t_X7_harm_5 : List (Nat × QO) := [(110, o_ic (fun x y => decide (x ≤ y)) 117 113), (113, o_k 1 114), (114, o_goto 118), (117, o_k 0 118), (118, o_is 9 120), (120, o_il 9 122), (122, o_if (fun x => decide (x = 0)) 136 125), (125, o_k 10 127), (127, o_il 5 129), (129, o_b (fun x y => x * y) 130), (130, o_il 6 132), (132, o_b (fun x y => x + y) 133)]
theorem ts_X7_harm_5 (sx : QX) : ∀ q ∈ t_X7_harm_5, q_Snd sx RX7 cX7_harm 10 (some .int) q.1 q.2 := List.forall_mem_cons.mpr ⟨s_ic_le d_X7_harm_110 (by decide), List.forall_mem_cons.mpr ⟨s_iconst d_X7_harm_113 rfl, List.forall_mem_cons.mpr ⟨s_goto d_X7_harm_114 (by decide), List.forall_mem_cons.mpr ⟨s_iconst d_X7_harm_117 rfl, List.forall_mem_cons.mpr ⟨s_istore d_X7_harm_118 (by decide), List.forall_mem_cons.mpr ⟨s_iload d_X7_harm_120, List.forall_mem_cons.mpr ⟨s_if_eq d_X7_harm_122 (by decide), List.forall_mem_cons.mpr ⟨s_bipush d_X7_harm_125 rfl, List.forall_mem_cons.mpr ⟨s_iload d_X7_harm_127, List.forall_mem_cons.mpr ⟨s_imul d_X7_harm_129, List.forall_mem_cons.mpr ⟨s_iload d_X7_harm_130, List.forall_mem_cons.mpr ⟨s_iadd d_X7_harm_132, fun _ h => absurd h List.not_mem_nil⟩⟩⟩⟩⟩⟩⟩⟩⟩⟩⟩⟩
def t_X7_harm_6 : List (Nat × QO) := [(133, o_goto 137), (136, o_il 2 137), (137, o_is 2 138), (138, o_il 9 140), (140, o_if (fun x => decide (x = 0)) 148 143), (143, o_il 8 145), (145, o_goto 149), (148, o_il 3 149), (149, o_is 3 150), (150, o_il 9 152), (152, o_if (fun x => decide (x = 0)) 160 155), (155, o_il 7 157)]
theorem ts_X7_harm_6 (sx : QX) : ∀ q ∈ t_X7_harm_6, q_Snd sx RX7 cX7_harm 10 (some .int) q.1 q.2 := List.forall_mem_cons.mpr ⟨s_goto d_X7_harm_133 (by decide), List.forall_mem_cons.mpr ⟨s_iload_n d_X7_harm_136 rfl, List.forall_mem_cons.mpr ⟨s_istore_n d_X7_harm_137 rfl (by decide), List.forall_mem_cons.mpr ⟨s_iload d_X7_harm_138, List.forall_mem_cons.mpr ⟨s_if_eq d_X7_harm_140 (by decide), List.forall_mem_cons.mpr ⟨s_iload d_X7_harm_143, List.forall_mem_cons.mpr ⟨s_goto d_X7_harm_145 (by decide), List.forall_mem_cons.mpr ⟨s_iload_n d_X7_harm_148 rfl, List.forall_mem_cons.mpr ⟨s_istore_n d_X7_harm_149 rfl (by decide), List.forall_mem_cons.mpr ⟨s_iload d_X7_harm_150, List.forall_mem_cons.mpr ⟨s_if_eq d_X7_harm_152 (by decide), List.forall_mem_cons.mpr ⟨s_iload d_X7_harm_155, fun _ h => absurd h List.not_mem_nil⟩⟩⟩⟩⟩⟩⟩⟩⟩⟩⟩⟩
def t_X7_harm_7 : List (Nat × QO) := [(157, o_goto 162), (160, o_il 4 162), (162, o_is 4 164), (164, o_inc 6 1 167), (167, o_goto 46), (170, o_inc 5 1 173), (173, o_goto 34), (176, o_il 2 177), (177, o_ir false)]
theorem ts_X7_harm_7 (sx : QX) : ∀ q ∈ t_X7_harm_7, q_Snd sx RX7 cX7_harm 10 (some .int) q.1 q.2 := List.forall_mem_cons.mpr ⟨s_goto d_X7_harm_157 (by decide), List.forall_mem_cons.mpr ⟨s_iload d_X7_harm_160, List.forall_mem_cons.mpr ⟨s_istore d_X7_harm_162 (by decide), List.forall_mem_cons.mpr ⟨s_iinc d_X7_harm_164 rfl (by decide), List.forall_mem_cons.mpr ⟨s_goto d_X7_harm_167 (by decide), List.forall_mem_cons.mpr ⟨s_iinc d_X7_harm_170 rfl (by decide), List.forall_mem_cons.mpr ⟨s_goto d_X7_harm_173 (by decide), List.forall_mem_cons.mpr ⟨s_iload_n d_X7_harm_176 rfl, List.forall_mem_cons.mpr ⟨s_ir d_X7_harm_177 rfl, fun _ h => absurd h List.not_mem_nil⟩⟩⟩⟩⟩⟩⟩⟩⟩
def t_X7_harm (pc : Nat) : Option QO := cond (Nat.ble pc 82) (cond (Nat.ble pc 37) (cond (Nat.ble pc 19) (q_look (t_X7_harm_0) pc) (q_look (t_X7_harm_1) pc)) (cond (Nat.ble pc 63) (q_look (t_X7_harm_2) pc) (q_look (t_X7_harm_3) pc))) (cond (Nat.ble pc 132) (cond (Nat.ble pc 108) (q_look (t_X7_harm_4) pc) (q_look (t_X7_harm_5) pc)) (cond (Nat.ble pc 155) (q_look (t_X7_harm_6) pc) (q_look (t_X7_harm_7) pc)))
theorem ts_X7_harm (sx : QX) (pc : Nat) : ∀ o, t_X7_harm pc = some o → q_Snd sx RX7 cX7_harm 10 (some .int) pc o := by
  unfold t_X7_harm
  exact q_cb (q_cb (q_cb (q_look_all (ts_X7_harm_0 sx)) (q_look_all (ts_X7_harm_1 sx))) (q_cb (q_look_all (ts_X7_harm_2 sx)) (q_look_all (ts_X7_harm_3 sx)))) (q_cb (q_cb (q_look_all (ts_X7_harm_4 sx)) (q_look_all (ts_X7_harm_5 sx))) (q_cb (q_look_all (ts_X7_harm_6 sx)) (q_look_all (ts_X7_harm_7 sx))))
theorem d_X7_lies_0 : decode cX7_lies 0 = .ok (.iconst 0, 1) := by decide +kernel
theorem d_X7_lies_1 : decode cX7_lies 1 = .ok (.istore_n 3, 1) := by decide +kernel
theorem d_X7_lies_2 : decode cX7_lies 2 = .ok (.iconst 0, 1) := by decide +kernel
theorem d_X7_lies_3 : decode cX7_lies 3 = .ok (.istore 4, 2) := by decide +kernel
theorem d_X7_lies_5 : decode cX7_lies 5 = .ok (.iload 4, 2) := by decide +kernel
theorem d_X7_lies_7 : decode cX7_lies 7 = .ok (.aload_n 0, 1) := by decide +kernel
theorem d_X7_lies_8 : decode cX7_lies 8 = .ok (.getfield 92, 3) := by decide +kernel
theorem d_X7_lies_11 : decode cX7_lies 11 = .ok (.if_icmp .ge 66, 3) := by decide +kernel
theorem d_X7_lies_14 : decode cX7_lies 14 = .ok (.aload_n 0, 1) := by decide +kernel
theorem d_X7_lies_15 : decode cX7_lies 15 = .ok (.getfield 7, 3) := by decide +kernel
theorem d_X7_lies_18 : decode cX7_lies 18 = .ok (.bipush 55, 2) := by decide +kernel
theorem d_X7_lies_20 : decode cX7_lies 20 = .ok (.bipush 6, 2) := by decide +kernel
theorem d_X7_lies_22 : decode cX7_lies 22 = .ok (.iload 4, 2) := by decide +kernel
theorem d_X7_lies_24 : decode cX7_lies 24 = .ok (.imul, 1) := by decide +kernel
theorem d_X7_lies_25 : decode cX7_lies 25 = .ok (.iadd, 1) := by decide +kernel
theorem d_X7_lies_26 : decode cX7_lies 26 = .ok (.iload_n 2, 1) := by decide +kernel
theorem d_X7_lies_27 : decode cX7_lies 27 = .ok (.iadd, 1) := by decide +kernel
theorem d_X7_lies_28 : decode cX7_lies 28 = .ok (.iaload, 1) := by decide +kernel
theorem d_X7_lies_29 : decode cX7_lies 29 = .ok (.istore 5, 2) := by decide +kernel
theorem d_X7_lies_31 : decode cX7_lies 31 = .ok (.iload_n 3, 1) := by decide +kernel
theorem d_X7_lies_32 : decode cX7_lies 32 = .ok (.ifCond .ne 33, 3) := by decide +kernel
theorem d_X7_lies_35 : decode cX7_lies 35 = .ok (.iload_n 1, 1) := by decide +kernel
theorem d_X7_lies_36 : decode cX7_lies 36 = .ok (.iload 4, 2) := by decide +kernel
theorem d_X7_lies_38 : decode cX7_lies 38 = .ok (.invokestatic 238, 3) := by decide +kernel
theorem d_X7_lies_41 : decode cX7_lies 41 = .ok (.ifCond .eq 28, 3) := by decide +kernel
theorem d_X7_lies_44 : decode cX7_lies 44 = .ok (.iload 5, 2) := by decide +kernel
theorem d_X7_lies_46 : decode cX7_lies 46 = .ok (.bipush (-4), 2) := by decide +kernel
theorem d_X7_lies_48 : decode cX7_lies 48 = .ok (.if_icmp .eq 21, 3) := by decide +kernel
theorem d_X7_lies_51 : decode cX7_lies 51 = .ok (.iload 5, 2) := by decide +kernel
theorem d_X7_lies_53 : decode cX7_lies 53 = .ok (.aload_n 0, 1) := by decide +kernel
theorem d_X7_lies_54 : decode cX7_lies 54 = .ok (.getfield 7, 3) := by decide +kernel
theorem d_X7_lies_57 : decode cX7_lies 57 = .ok (.bipush 13, 2) := by decide +kernel
theorem d_X7_lies_59 : decode cX7_lies 59 = .ok (.iload_n 2, 1) := by decide +kernel
theorem d_X7_lies_60 : decode cX7_lies 60 = .ok (.iadd, 1) := by decide +kernel
theorem d_X7_lies_61 : decode cX7_lies 61 = .ok (.iaload, 1) := by decide +kernel
theorem d_X7_lies_62 : decode cX7_lies 62 = .ok (.if_icmp .eq 7, 3) := by decide +kernel
theorem d_X7_lies_65 : decode cX7_lies 65 = .ok (.iconst 1, 1) := by decide +kernel
theorem d_X7_lies_66 : decode cX7_lies 66 = .ok (.goto 4, 3) := by decide +kernel
theorem d_X7_lies_69 : decode cX7_lies 69 = .ok (.iconst 0, 1) := by decide +kernel
theorem d_X7_lies_70 : decode cX7_lies 70 = .ok (.istore_n 3, 1) := by decide +kernel
theorem d_X7_lies_71 : decode cX7_lies 71 = .ok (.iinc 4 1, 3) := by decide +kernel
theorem d_X7_lies_74 : decode cX7_lies 74 = .ok (.goto (-69), 3) := by decide +kernel
theorem d_X7_lies_77 : decode cX7_lies 77 = .ok (.iload_n 3, 1) := by decide +kernel
theorem d_X7_lies_78 : decode cX7_lies 78 = .ok (.ireturn, 1) := by decide +kernel
def t_X7_lies_0 : List (Nat × QO) := [(0, o_k 0 1), (1, o_is 3 2), (2, o_k 0 3), (3, o_is 4 5), (5, o_il 4 7), (7, o_al 0 8), (8, o_gf 7 8 11), (11, o_ic (fun x y => decide (y ≤ x)) 77 14), (14, o_al 0 15), (15, o_gf 7 0 18), (18, o_k 55 20), (20, o_k 6 22)]
theorem ts_X7_lies_0 (sx : QX) : ∀ q ∈ t_X7_lies_0, q_Snd sx RX7 cX7_lies 6 (some .boolean) q.1 q.2 := List.forall_mem_cons.mpr ⟨s_iconst d_X7_lies_0 rfl, List.forall_mem_cons.mpr ⟨s_istore_n d_X7_lies_1 rfl (by decide), List.forall_mem_cons.mpr ⟨s_iconst d_X7_lies_2 rfl, List.forall_mem_cons.mpr ⟨s_istore d_X7_lies_3 (by decide), List.forall_mem_cons.mpr ⟨s_iload d_X7_lies_5, List.forall_mem_cons.mpr ⟨s_aload_n d_X7_lies_7 rfl, List.forall_mem_cons.mpr ⟨s_gf d_X7_lies_8 rfl (by decide) n_X7 in_X7 rfl k_4_37, List.forall_mem_cons.mpr ⟨s_ic_ge d_X7_lies_11 (by decide), List.forall_mem_cons.mpr ⟨s_aload_n d_X7_lies_14 rfl, List.forall_mem_cons.mpr ⟨s_gf d_X7_lies_15 rfl (by decide) n_X7 in_X7 rfl k_4_29, List.forall_mem_cons.mpr ⟨s_bipush d_X7_lies_18 rfl, List.forall_mem_cons.mpr ⟨s_bipush d_X7_lies_20 rfl, fun _ h => absurd h List.not_mem_nil⟩⟩⟩⟩⟩⟩⟩⟩⟩⟩⟩⟩
def t_X7_lies_1 : List (Nat × QO) := [(22, o_il 4 24), (24, o_b (fun x y => x * y) 25), (25, o_b (fun x y => x + y) 26), (26, o_il 2 27), (27, o_b (fun x y => x + y) 28), (28, o_iald 29), (29, o_is 5 31), (31, o_il 3 32), (32, o_if (fun x => decide (x ≠ 0)) 65 35), (35, o_il 1 36), (36, o_il 4 38), (38, o_cS 1 103 2 2 41)]
theorem ts_X7_lies_1 (sx : QX) : ∀ q ∈ t_X7_lies_1, q_Snd sx RX7 cX7_lies 6 (some .boolean) q.1 q.2 := List.forall_mem_cons.mpr ⟨s_iload d_X7_lies_22, List.forall_mem_cons.mpr ⟨s_imul d_X7_lies_24, List.forall_mem_cons.mpr ⟨s_iadd d_X7_lies_25, List.forall_mem_cons.mpr ⟨s_iload_n d_X7_lies_26 rfl, List.forall_mem_cons.mpr ⟨s_iadd d_X7_lies_27, List.forall_mem_cons.mpr ⟨s_iald d_X7_lies_28, List.forall_mem_cons.mpr ⟨s_istore d_X7_lies_29 (by decide), List.forall_mem_cons.mpr ⟨s_iload_n d_X7_lies_31 rfl, List.forall_mem_cons.mpr ⟨s_if_ne d_X7_lies_32 (by decide), List.forall_mem_cons.mpr ⟨s_iload_n d_X7_lies_35 rfl, List.forall_mem_cons.mpr ⟨s_iload d_X7_lies_36, List.forall_mem_cons.mpr ⟨s_cS rfl d_X7_lies_38 k_5_87 k_5_88 k_1_12 k_5_89 ⟨by decide, by decide⟩ (by decide +kernel) (by decide), fun _ h => absurd h List.not_mem_nil⟩⟩⟩⟩⟩⟩⟩⟩⟩⟩⟩⟩
def t_X7_lies_2 : List (Nat × QO) := [(41, o_if (fun x => decide (x = 0)) 69 44), (44, o_il 5 46), (46, o_k (-4) 48), (48, o_ic (fun x y => decide (x = y)) 69 51), (51, o_il 5 53), (53, o_al 0 54), (54, o_gf 7 0 57), (57, o_k 13 59), (59, o_il 2 60), (60, o_b (fun x y => x + y) 61), (61, o_iald 62), (62, o_ic (fun x y => decide (x = y)) 69 65)]
theorem ts_X7_lies_2 (sx : QX) : ∀ q ∈ t_X7_lies_2, q_Snd sx RX7 cX7_lies 6 (some .boolean) q.1 q.2 := List.forall_mem_cons.mpr ⟨s_if_eq d_X7_lies_41 (by decide), List.forall_mem_cons.mpr ⟨s_iload d_X7_lies_44, List.forall_mem_cons.mpr ⟨s_bipush d_X7_lies_46 rfl, List.forall_mem_cons.mpr ⟨s_ic_eq d_X7_lies_48 (by decide), List.forall_mem_cons.mpr ⟨s_iload d_X7_lies_51, List.forall_mem_cons.mpr ⟨s_aload_n d_X7_lies_53 rfl, List.forall_mem_cons.mpr ⟨s_gf d_X7_lies_54 rfl (by decide) n_X7 in_X7 rfl k_4_29, List.forall_mem_cons.mpr ⟨s_bipush d_X7_lies_57 rfl, List.forall_mem_cons.mpr ⟨s_iload_n d_X7_lies_59 rfl, List.forall_mem_cons.mpr ⟨s_iadd d_X7_lies_60, List.forall_mem_cons.mpr ⟨s_iald d_X7_lies_61, List.forall_mem_cons.mpr ⟨s_ic_eq d_X7_lies_62 (by decide), fun _ h => absurd h List.not_mem_nil⟩⟩⟩⟩⟩⟩⟩⟩⟩⟩⟩⟩
def t_X7_lies_3 : List (Nat × QO) := [(65, o_k 1 66), (66, o_goto 70), (69, o_k 0 70), (70, o_is 3 71), (71, o_inc 4 1 74), (74, o_goto 5), (77, o_il 3 78), (78, o_ir true)]
theorem ts_X7_lies_3 (sx : QX) : ∀ q ∈ t_X7_lies_3, q_Snd sx RX7 cX7_lies 6 (some .boolean) q.1 q.2 := List.forall_mem_cons.mpr ⟨s_iconst d_X7_lies_65 rfl, List.forall_mem_cons.mpr ⟨s_goto d_X7_lies_66 (by decide), List.forall_mem_cons.mpr ⟨s_iconst d_X7_lies_69 rfl, List.forall_mem_cons.mpr ⟨s_istore_n d_X7_lies_70 rfl (by decide), List.forall_mem_cons.mpr ⟨s_iinc d_X7_lies_71 rfl (by decide), List.forall_mem_cons.mpr ⟨s_goto d_X7_lies_74 (by decide), List.forall_mem_cons.mpr ⟨s_iload_n d_X7_lies_77 rfl, List.forall_mem_cons.mpr ⟨s_zr d_X7_lies_78 rfl, fun _ h => absurd h List.not_mem_nil⟩⟩⟩⟩⟩⟩⟩⟩
def t_X7_lies (pc : Nat) : Option QO := cond (Nat.ble pc 38) (cond (Nat.ble pc 20) (q_look (t_X7_lies_0) pc) (q_look (t_X7_lies_1) pc)) (cond (Nat.ble pc 62) (q_look (t_X7_lies_2) pc) (q_look (t_X7_lies_3) pc))
theorem ts_X7_lies (sx : QX) (pc : Nat) : ∀ o, t_X7_lies pc = some o → q_Snd sx RX7 cX7_lies 6 (some .boolean) pc o := by
  unfold t_X7_lies
  exact q_cb (q_cb (q_look_all (ts_X7_lies_0 sx)) (q_look_all (ts_X7_lies_1 sx))) (q_cb (q_look_all (ts_X7_lies_2 sx)) (q_look_all (ts_X7_lies_3 sx)))
theorem d_X7_liars_0 : decode cX7_liars 0 = .ok (.bipush (-4), 2) := by decide +kernel
theorem d_X7_liars_2 : decode cX7_liars 2 = .ok (.istore_n 1, 1) := by decide +kernel
theorem d_X7_liars_3 : decode cX7_liars 3 = .ok (.iconst 0, 1) := by decide +kernel
theorem d_X7_liars_4 : decode cX7_liars 4 = .ok (.istore_n 2, 1) := by decide +kernel
theorem d_X7_liars_5 : decode cX7_liars 5 = .ok (.iload_n 2, 1) := by decide +kernel
theorem d_X7_liars_6 : decode cX7_liars 6 = .ok (.iconst 1, 1) := by decide +kernel
theorem d_X7_liars_7 : decode cX7_liars 7 = .ok (.aload_n 0, 1) := by decide +kernel
theorem d_X7_liars_8 : decode cX7_liars 8 = .ok (.getfield 92, 3) := by decide +kernel
theorem d_X7_liars_11 : decode cX7_liars 11 = .ok (.ishl, 1) := by decide +kernel
theorem d_X7_liars_12 : decode cX7_liars 12 = .ok (.if_icmp .ge 94, 3) := by decide +kernel
theorem d_X7_liars_15 : decode cX7_liars 15 = .ok (.iload_n 1, 1) := by decide +kernel
theorem d_X7_liars_16 : decode cX7_liars 16 = .ok (.bipush (-4), 2) := by decide +kernel
theorem d_X7_liars_18 : decode cX7_liars 18 = .ok (.if_icmp .eq 14, 3) := by decide +kernel
theorem d_X7_liars_21 : decode cX7_liars 21 = .ok (.iload_n 2, 1) := by decide +kernel
theorem d_X7_liars_22 : decode cX7_liars 22 = .ok (.invokestatic 235, 3) := by decide +kernel
theorem d_X7_liars_25 : decode cX7_liars 25 = .ok (.iload_n 1, 1) := by decide +kernel
theorem d_X7_liars_26 : decode cX7_liars 26 = .ok (.invokestatic 235, 3) := by decide +kernel
theorem d_X7_liars_29 : decode cX7_liars 29 = .ok (.if_icmp .ge 7, 3) := by decide +kernel
theorem d_X7_liars_32 : decode cX7_liars 32 = .ok (.iconst 1, 1) := by decide +kernel
theorem d_X7_liars_33 : decode cX7_liars 33 = .ok (.goto 4, 3) := by decide +kernel
theorem d_X7_liars_36 : decode cX7_liars 36 = .ok (.iconst 0, 1) := by decide +kernel
theorem d_X7_liars_37 : decode cX7_liars 37 = .ok (.istore_n 3, 1) := by decide +kernel
theorem d_X7_liars_38 : decode cX7_liars 38 = .ok (.iconst 0, 1) := by decide +kernel
theorem d_X7_liars_39 : decode cX7_liars 39 = .ok (.istore 4, 2) := by decide +kernel
theorem d_X7_liars_41 : decode cX7_liars 41 = .ok (.iload 4, 2) := by decide +kernel
theorem d_X7_liars_43 : decode cX7_liars 43 = .ok (.aload_n 0, 1) := by decide +kernel
theorem d_X7_liars_44 : decode cX7_liars 44 = .ok (.getfield 82, 3) := by decide +kernel
theorem d_X7_liars_47 : decode cX7_liars 47 = .ok (.if_icmp .ge 43, 3) := by decide +kernel
theorem d_X7_liars_50 : decode cX7_liars 50 = .ok (.iload_n 3, 1) := by decide +kernel
theorem d_X7_liars_51 : decode cX7_liars 51 = .ok (.ifCond .eq 31, 3) := by decide +kernel
theorem d_X7_liars_54 : decode cX7_liars 54 = .ok (.aload_n 0, 1) := by decide +kernel
theorem d_X7_liars_55 : decode cX7_liars 55 = .ok (.getfield 7, 3) := by decide +kernel
theorem d_X7_liars_58 : decode cX7_liars 58 = .ok (.bipush 7, 2) := by decide +kernel
theorem d_X7_liars_60 : decode cX7_liars 60 = .ok (.iload 4, 2) := by decide +kernel
theorem d_X7_liars_62 : decode cX7_liars 62 = .ok (.iadd, 1) := by decide +kernel
theorem d_X7_liars_63 : decode cX7_liars 63 = .ok (.iaload, 1) := by decide +kernel
theorem d_X7_liars_64 : decode cX7_liars 64 = .ok (.iconst 3, 1) := by decide +kernel
theorem d_X7_liars_65 : decode cX7_liars 65 = .ok (.if_icmp .ne 13, 3) := by decide +kernel
theorem d_X7_liars_68 : decode cX7_liars 68 = .ok (.aload_n 0, 1) := by decide +kernel
theorem d_X7_liars_69 : decode cX7_liars 69 = .ok (.iload_n 2, 1) := by decide +kernel
theorem d_X7_liars_70 : decode cX7_liars 70 = .ok (.iload 4, 2) := by decide +kernel
theorem d_X7_liars_72 : decode cX7_liars 72 = .ok (.invokevirtual 257, 3) := by decide +kernel
theorem d_X7_liars_75 : decode cX7_liars 75 = .ok (.ifCond .eq 7, 3) := by decide +kernel
theorem d_X7_liars_78 : decode cX7_liars 78 = .ok (.iconst 1, 1) := by decide +kernel
theorem d_X7_liars_79 : decode cX7_liars 79 = .ok (.goto 4, 3) := by decide +kernel
theorem d_X7_liars_82 : decode cX7_liars 82 = .ok (.iconst 0, 1) := by decide +kernel
theorem d_X7_liars_83 : decode cX7_liars 83 = .ok (.istore_n 3, 1) := by decide +kernel
theorem d_X7_liars_84 : decode cX7_liars 84 = .ok (.iinc 4 1, 3) := by decide +kernel
theorem d_X7_liars_87 : decode cX7_liars 87 = .ok (.goto (-46), 3) := by decide +kernel
theorem d_X7_liars_90 : decode cX7_liars 90 = .ok (.iload_n 3, 1) := by decide +kernel
theorem d_X7_liars_91 : decode cX7_liars 91 = .ok (.ifCond .eq 7, 3) := by decide +kernel
theorem d_X7_liars_94 : decode cX7_liars 94 = .ok (.iload_n 2, 1) := by decide +kernel
theorem d_X7_liars_95 : decode cX7_liars 95 = .ok (.goto 4, 3) := by decide +kernel
theorem d_X7_liars_98 : decode cX7_liars 98 = .ok (.iload_n 1, 1) := by decide +kernel
theorem d_X7_liars_99 : decode cX7_liars 99 = .ok (.istore_n 1, 1) := by decide +kernel
theorem d_X7_liars_100 : decode cX7_liars 100 = .ok (.iinc 2 1, 3) := by decide +kernel
theorem d_X7_liars_103 : decode cX7_liars 103 = .ok (.goto (-98), 3) := by decide +kernel
theorem d_X7_liars_106 : decode cX7_liars 106 = .ok (.iload_n 1, 1) := by decide +kernel
theorem d_X7_liars_107 : decode cX7_liars 107 = .ok (.ireturn, 1) := by decide +kernel
def t_X7_liars_0 : List (Nat × QO) := [(0, o_k (-4) 2), (2, o_is 1 3), (3, o_k 0 4), (4, o_is 2 5), (5, o_il 2 6), (6, o_k 1 7), (7, o_al 0 8), (8, o_gf 7 8 11), (11, o_b (fun x y => x <<< (y &&& 31)) 12), (12, o_ic (fun x y => decide (y ≤ x)) 106 15), (15, o_il 1 16), (16, o_k (-4) 18)]
theorem ts_X7_liars_0 (sx : QX) : ∀ q ∈ t_X7_liars_0, q_Snd sx RX7 cX7_liars 5 (some .int) q.1 q.2 := List.forall_mem_cons.mpr ⟨s_bipush d_X7_liars_0 rfl, List.forall_mem_cons.mpr ⟨s_istore_n d_X7_liars_2 rfl (by decide), List.forall_mem_cons.mpr ⟨s_iconst d_X7_liars_3 rfl, List.forall_mem_cons.mpr ⟨s_istore_n d_X7_liars_4 rfl (by decide), List.forall_mem_cons.mpr ⟨s_iload_n d_X7_liars_5 rfl, List.forall_mem_cons.mpr ⟨s_iconst d_X7_liars_6 rfl, List.forall_mem_cons.mpr ⟨s_aload_n d_X7_liars_7 rfl, List.forall_mem_cons.mpr ⟨s_gf d_X7_liars_8 rfl (by decide) n_X7 in_X7 rfl k_4_37, List.forall_mem_cons.mpr ⟨s_ishl d_X7_liars_11, List.forall_mem_cons.mpr ⟨s_ic_ge d_X7_liars_12 (by decide), List.forall_mem_cons.mpr ⟨s_iload_n d_X7_liars_15 rfl, List.forall_mem_cons.mpr ⟨s_bipush d_X7_liars_16 rfl, fun _ h => absurd h List.not_mem_nil⟩⟩⟩⟩⟩⟩⟩⟩⟩⟩⟩⟩
def t_X7_liars_1 : List (Nat × QO) := [(18, o_ic (fun x y => decide (x = y)) 32 21), (21, o_il 2 22), (22, o_cS 1 104 3 1 25), (25, o_il 1 26), (26, o_cS 1 104 3 1 29), (29, o_ic (fun x y => decide (y ≤ x)) 36 32), (32, o_k 1 33), (33, o_goto 37), (36, o_k 0 37), (37, o_is 3 38), (38, o_k 0 39), (39, o_is 4 41)]
theorem ts_X7_liars_1 (sx : QX) : ∀ q ∈ t_X7_liars_1, q_Snd sx RX7 cX7_liars 5 (some .int) q.1 q.2 := List.forall_mem_cons.mpr ⟨s_ic_eq d_X7_liars_18 (by decide), List.forall_mem_cons.mpr ⟨s_iload_n d_X7_liars_21 rfl, List.forall_mem_cons.mpr ⟨s_cS rfl d_X7_liars_22 k_5_84 k_5_85 k_1_12 k_5_86 ⟨by decide, by decide⟩ (by decide +kernel) (by decide), List.forall_mem_cons.mpr ⟨s_iload_n d_X7_liars_25 rfl, List.forall_mem_cons.mpr ⟨s_cS rfl d_X7_liars_26 k_5_84 k_5_85 k_1_12 k_5_86 ⟨by decide, by decide⟩ (by decide +kernel) (by decide), List.forall_mem_cons.mpr ⟨s_ic_ge d_X7_liars_29 (by decide), List.forall_mem_cons.mpr ⟨s_iconst d_X7_liars_32 rfl, List.forall_mem_cons.mpr ⟨s_goto d_X7_liars_33 (by decide), List.forall_mem_cons.mpr ⟨s_iconst d_X7_liars_36 rfl, List.forall_mem_cons.mpr ⟨s_istore_n d_X7_liars_37 rfl (by decide), List.forall_mem_cons.mpr ⟨s_iconst d_X7_liars_38 rfl, List.forall_mem_cons.mpr ⟨s_istore d_X7_liars_39 (by decide), fun _ h => absurd h List.not_mem_nil⟩⟩⟩⟩⟩⟩⟩⟩⟩⟩⟩⟩
def t_X7_liars_2 : List (Nat × QO) := [(41, o_il 4 43), (43, o_al 0 44), (44, o_gf 7 3 47), (47, o_ic (fun x y => decide (y ≤ x)) 90 50), (50, o_il 3 51), (51, o_if (fun x => decide (x = 0)) 82 54), (54, o_al 0 55), (55, o_gf 7 0 58), (58, o_k 7 60), (60, o_il 4 62), (62, o_b (fun x y => x + y) 63), (63, o_iald 64)]
theorem ts_X7_liars_2 (sx : QX) : ∀ q ∈ t_X7_liars_2, q_Snd sx RX7 cX7_liars 5 (some .int) q.1 q.2 := List.forall_mem_cons.mpr ⟨s_iload d_X7_liars_41, List.forall_mem_cons.mpr ⟨s_aload_n d_X7_liars_43 rfl, List.forall_mem_cons.mpr ⟨s_gf d_X7_liars_44 rfl (by decide) n_X7 in_X7 rfl k_4_32, List.forall_mem_cons.mpr ⟨s_ic_ge d_X7_liars_47 (by decide), List.forall_mem_cons.mpr ⟨s_iload_n d_X7_liars_50 rfl, List.forall_mem_cons.mpr ⟨s_if_eq d_X7_liars_51 (by decide), List.forall_mem_cons.mpr ⟨s_aload_n d_X7_liars_54 rfl, List.forall_mem_cons.mpr ⟨s_gf d_X7_liars_55 rfl (by decide) n_X7 in_X7 rfl k_4_29, List.forall_mem_cons.mpr ⟨s_bipush d_X7_liars_58 rfl, List.forall_mem_cons.mpr ⟨s_iload d_X7_liars_60, List.forall_mem_cons.mpr ⟨s_iadd d_X7_liars_62, List.forall_mem_cons.mpr ⟨s_iald d_X7_liars_63, fun _ h => absurd h List.not_mem_nil⟩⟩⟩⟩⟩⟩⟩⟩⟩⟩⟩⟩
def t_X7_liars_3 : List (Nat × QO) := [(64, o_k 3 65), (65, o_ic (fun x y => decide (x ≠ y)) 78 68), (68, o_al 0 69), (69, o_il 2 70), (70, o_il 4 72), (72, o_cV 1 7 167 6 3 75), (75, o_if (fun x => decide (x = 0)) 82 78), (78, o_k 1 79), (79, o_goto 83), (82, o_k 0 83), (83, o_is 3 84), (84, o_inc 4 1 87)]
theorem ts_X7_liars_3 (sx : QX) : ∀ q ∈ t_X7_liars_3, q_Snd sx RX7 cX7_liars 5 (some .int) q.1 q.2 := List.forall_mem_cons.mpr ⟨s_iconst d_X7_liars_64 rfl, List.forall_mem_cons.mpr ⟨s_ic_ne d_X7_liars_65 (by decide), List.forall_mem_cons.mpr ⟨s_aload_n d_X7_liars_68 rfl, List.forall_mem_cons.mpr ⟨s_iload_n d_X7_liars_69 rfl, List.forall_mem_cons.mpr ⟨s_iload d_X7_liars_70, List.forall_mem_cons.mpr ⟨s_cV (T := TX7) (N := 30) rfl d_X7_liars_72 rfl k_5_127 k_5_129 k_0_57 k_1_12 k_5_130 ⟨by decide, by decide⟩ (by decide +kernel) (by decide), List.forall_mem_cons.mpr ⟨s_if_eq d_X7_liars_75 (by decide), List.forall_mem_cons.mpr ⟨s_iconst d_X7_liars_78 rfl, List.forall_mem_cons.mpr ⟨s_goto d_X7_liars_79 (by decide), List.forall_mem_cons.mpr ⟨s_iconst d_X7_liars_82 rfl, List.forall_mem_cons.mpr ⟨s_istore_n d_X7_liars_83 rfl (by decide), List.forall_mem_cons.mpr ⟨s_iinc d_X7_liars_84 rfl (by decide), fun _ h => absurd h List.not_mem_nil⟩⟩⟩⟩⟩⟩⟩⟩⟩⟩⟩⟩
def t_X7_liars_4 : List (Nat × QO) := [(87, o_goto 41), (90, o_il 3 91), (91, o_if (fun x => decide (x = 0)) 98 94), (94, o_il 2 95), (95, o_goto 99), (98, o_il 1 99), (99, o_is 1 100), (100, o_inc 2 1 103), (103, o_goto 5), (106, o_il 1 107), (107, o_ir false)]
theorem ts_X7_liars_4 (sx : QX) : ∀ q ∈ t_X7_liars_4, q_Snd sx RX7 cX7_liars 5 (some .int) q.1 q.2 := List.forall_mem_cons.mpr ⟨s_goto d_X7_liars_87 (by decide), List.forall_mem_cons.mpr ⟨s_iload_n d_X7_liars_90 rfl, List.forall_mem_cons.mpr ⟨s_if_eq d_X7_liars_91 (by decide), List.forall_mem_cons.mpr ⟨s_iload_n d_X7_liars_94 rfl, List.forall_mem_cons.mpr ⟨s_goto d_X7_liars_95 (by decide), List.forall_mem_cons.mpr ⟨s_iload_n d_X7_liars_98 rfl, List.forall_mem_cons.mpr ⟨s_istore_n d_X7_liars_99 rfl (by decide), List.forall_mem_cons.mpr ⟨s_iinc d_X7_liars_100 rfl (by decide), List.forall_mem_cons.mpr ⟨s_goto d_X7_liars_103 (by decide), List.forall_mem_cons.mpr ⟨s_iload_n d_X7_liars_106 rfl, List.forall_mem_cons.mpr ⟨s_ir d_X7_liars_107 rfl, fun _ h => absurd h List.not_mem_nil⟩⟩⟩⟩⟩⟩⟩⟩⟩⟩⟩
def t_X7_liars (pc : Nat) : Option QO := cond (Nat.ble pc 39) (cond (Nat.ble pc 16) (q_look (t_X7_liars_0) pc) (q_look (t_X7_liars_1) pc)) (cond (Nat.ble pc 63) (q_look (t_X7_liars_2) pc) (cond (Nat.ble pc 84) (q_look (t_X7_liars_3) pc) (q_look (t_X7_liars_4) pc)))
theorem ts_X7_liars (sx : QX) (pc : Nat) : ∀ o, t_X7_liars pc = some o → q_Snd sx RX7 cX7_liars 5 (some .int) pc o := by
  unfold t_X7_liars
  exact q_cb (q_cb (q_look_all (ts_X7_liars_0 sx)) (q_look_all (ts_X7_liars_1 sx))) (q_cb (q_look_all (ts_X7_liars_2 sx)) (q_cb (q_look_all (ts_X7_liars_3 sx)) (q_look_all (ts_X7_liars_4 sx))))
theorem d_X7_said_0 : decode cX7_said 0 = .ok (.aload_n 0, 1) := by decide +kernel
theorem d_X7_said_1 : decode cX7_said 1 = .ok (.iload_n 1, 1) := by decide +kernel
theorem d_X7_said_2 : decode cX7_said 2 = .ok (.invokevirtual 161, 3) := by decide +kernel
theorem d_X7_said_5 : decode cX7_said 5 = .ok (.ifCond .eq 25, 3) := by decide +kernel
theorem d_X7_said_8 : decode cX7_said 8 = .ok (.iload_n 2, 1) := by decide +kernel
theorem d_X7_said_9 : decode cX7_said 9 = .ok (.i2l, 1) := by decide +kernel
theorem d_X7_said_10 : decode cX7_said 10 = .ok (.lconst 0, 1) := by decide +kernel
theorem d_X7_said_11 : decode cX7_said 11 = .ok (.ldc2_w 260, 3) := by decide +kernel
theorem d_X7_said_14 : decode cX7_said 14 = .ok (.invokestatic 85, 3) := by decide +kernel
theorem d_X7_said_17 : decode cX7_said 17 = .ok (.ifCond .eq 13, 3) := by decide +kernel
theorem d_X7_said_20 : decode cX7_said 20 = .ok (.iload_n 3, 1) := by decide +kernel
theorem d_X7_said_21 : decode cX7_said 21 = .ok (.i2l, 1) := by decide +kernel
theorem d_X7_said_22 : decode cX7_said 22 = .ok (.lconst 0, 1) := by decide +kernel
theorem d_X7_said_23 : decode cX7_said 23 = .ok (.lconst 1, 1) := by decide +kernel
theorem d_X7_said_24 : decode cX7_said 24 = .ok (.invokestatic 85, 3) := by decide +kernel
theorem d_X7_said_27 : decode cX7_said 27 = .ok (.ifCond .ne 5, 3) := by decide +kernel
theorem d_X7_said_30 : decode cX7_said 30 = .ok (.iconst (-1), 1) := by decide +kernel
theorem d_X7_said_31 : decode cX7_said 31 = .ok (.ireturn, 1) := by decide +kernel
theorem d_X7_said_32 : decode cX7_said 32 = .ok (.aload_n 0, 1) := by decide +kernel
theorem d_X7_said_33 : decode cX7_said 33 = .ok (.iconst 0, 1) := by decide +kernel
theorem d_X7_said_34 : decode cX7_said 34 = .ok (.iload_n 1, 1) := by decide +kernel
theorem d_X7_said_35 : decode cX7_said 35 = .ok (.invokevirtual 189, 3) := by decide +kernel
theorem d_X7_said_38 : decode cX7_said 38 = .ok (.ifCond .ne 6, 3) := by decide +kernel
theorem d_X7_said_41 : decode cX7_said 41 = .ok (.bipush (-2), 2) := by decide +kernel
theorem d_X7_said_43 : decode cX7_said 43 = .ok (.ireturn, 1) := by decide +kernel
theorem d_X7_said_44 : decode cX7_said 44 = .ok (.iconst 0, 1) := by decide +kernel
theorem d_X7_said_45 : decode cX7_said 45 = .ok (.istore 4, 2) := by decide +kernel
theorem d_X7_said_47 : decode cX7_said 47 = .ok (.bipush (-4), 2) := by decide +kernel
theorem d_X7_said_49 : decode cX7_said 49 = .ok (.istore 5, 2) := by decide +kernel
theorem d_X7_said_51 : decode cX7_said 51 = .ok (.iconst 0, 1) := by decide +kernel
theorem d_X7_said_52 : decode cX7_said 52 = .ok (.istore 6, 2) := by decide +kernel
theorem d_X7_said_54 : decode cX7_said 54 = .ok (.iload 6, 2) := by decide +kernel
theorem d_X7_said_56 : decode cX7_said 56 = .ok (.aload_n 0, 1) := by decide +kernel
theorem d_X7_said_57 : decode cX7_said 57 = .ok (.getfield 92, 3) := by decide +kernel
theorem d_X7_said_60 : decode cX7_said 60 = .ok (.if_icmp .ge 88, 3) := by decide +kernel
theorem d_X7_said_63 : decode cX7_said 63 = .ok (.iconst 0, 1) := by decide +kernel
theorem d_X7_said_64 : decode cX7_said 64 = .ok (.istore 7, 2) := by decide +kernel
theorem d_X7_said_66 : decode cX7_said 66 = .ok (.iload 7, 2) := by decide +kernel
theorem d_X7_said_68 : decode cX7_said 68 = .ok (.aload_n 0, 1) := by decide +kernel
theorem d_X7_said_69 : decode cX7_said 69 = .ok (.getfield 89, 3) := by decide +kernel
theorem d_X7_said_72 : decode cX7_said 72 = .ok (.if_icmp .ge 70, 3) := by decide +kernel
theorem d_X7_said_75 : decode cX7_said 75 = .ok (.aload_n 0, 1) := by decide +kernel
theorem d_X7_said_76 : decode cX7_said 76 = .ok (.iconst 0, 1) := by decide +kernel
theorem d_X7_said_77 : decode cX7_said 77 = .ok (.iload 6, 2) := by decide +kernel
theorem d_X7_said_79 : decode cX7_said 79 = .ok (.iload_n 1, 1) := by decide +kernel
theorem d_X7_said_80 : decode cX7_said 80 = .ok (.iload 7, 2) := by decide +kernel
theorem d_X7_said_82 : decode cX7_said 82 = .ok (.invokevirtual 185, 3) := by decide +kernel
theorem d_X7_said_85 : decode cX7_said 85 = .ok (.iload_n 2, 1) := by decide +kernel
theorem d_X7_said_86 : decode cX7_said 86 = .ok (.if_icmp .ne 7, 3) := by decide +kernel
theorem d_X7_said_89 : decode cX7_said 89 = .ok (.iconst 1, 1) := by decide +kernel
theorem d_X7_said_90 : decode cX7_said 90 = .ok (.goto 4, 3) := by decide +kernel
theorem d_X7_said_93 : decode cX7_said 93 = .ok (.iconst 0, 1) := by decide +kernel
theorem d_X7_said_94 : decode cX7_said 94 = .ok (.istore 8, 2) := by decide +kernel
theorem d_X7_said_96 : decode cX7_said 96 = .ok (.iload 8, 2) := by decide +kernel
theorem d_X7_said_98 : decode cX7_said 98 = .ok (.ifCond .eq 19, 3) := by decide +kernel
theorem d_X7_said_101 : decode cX7_said 101 = .ok (.iload 4, 2) := by decide +kernel
theorem d_X7_said_103 : decode cX7_said 103 = .ok (.ifCond .ne 14, 3) := by decide +kernel
theorem d_X7_said_106 : decode cX7_said 106 = .ok (.bipush 10, 2) := by decide +kernel
theorem d_X7_said_108 : decode cX7_said 108 = .ok (.iload 6, 2) := by decide +kernel
theorem d_X7_said_110 : decode cX7_said 110 = .ok (.imul, 1) := by decide +kernel
theorem d_X7_said_111 : decode cX7_said 111 = .ok (.iload 7, 2) := by decide +kernel
theorem d_X7_said_113 : decode cX7_said 113 = .ok (.iadd, 1) := by decide +kernel
theorem d_X7_said_114 : decode cX7_said 114 = .ok (.goto 5, 3) := by decide +kernel
theorem d_X7_said_117 : decode cX7_said 117 = .ok (.iload 5, 2) := by decide +kernel
theorem d_X7_said_119 : decode cX7_said 119 = .ok (.istore 5, 2) := by decide +kernel
theorem d_X7_said_121 : decode cX7_said 121 = .ok (.iload 4, 2) := by decide +kernel
theorem d_X7_said_123 : decode cX7_said 123 = .ok (.iload 8, 2) := by decide +kernel
theorem d_X7_said_125 : decode cX7_said 125 = .ok (.ifCond .eq 7, 3) := by decide +kernel
theorem d_X7_said_128 : decode cX7_said 128 = .ok (.iconst 1, 1) := by decide +kernel
theorem d_X7_said_129 : decode cX7_said 129 = .ok (.goto 4, 3) := by decide +kernel
theorem d_X7_said_132 : decode cX7_said 132 = .ok (.iconst 0, 1) := by decide +kernel
theorem d_X7_said_133 : decode cX7_said 133 = .ok (.iadd, 1) := by decide +kernel
theorem d_X7_said_134 : decode cX7_said 134 = .ok (.istore 4, 2) := by decide +kernel
theorem d_X7_said_136 : decode cX7_said 136 = .ok (.iinc 7 1, 3) := by decide +kernel
theorem d_X7_said_139 : decode cX7_said 139 = .ok (.goto (-73), 3) := by decide +kernel
theorem d_X7_said_142 : decode cX7_said 142 = .ok (.iinc 6 1, 3) := by decide +kernel
theorem d_X7_said_145 : decode cX7_said 145 = .ok (.goto (-91), 3) := by decide +kernel
theorem d_X7_said_148 : decode cX7_said 148 = .ok (.iload_n 3, 1) := by decide +kernel
theorem d_X7_said_149 : decode cX7_said 149 = .ok (.ifCond .ne 8, 3) := by decide +kernel
theorem d_X7_said_152 : decode cX7_said 152 = .ok (.iload 4, 2) := by decide +kernel
theorem d_X7_said_154 : decode cX7_said 154 = .ok (.goto 5, 3) := by decide +kernel
theorem d_X7_said_157 : decode cX7_said 157 = .ok (.iload 5, 2) := by decide +kernel
theorem d_X7_said_159 : decode cX7_said 159 = .ok (.ireturn, 1) := by decide +kernel
def t_X7_said_0 : List (Nat × QO) := [(0, o_al 0 1), (1, o_il 1 2), (2, o_cV 1 7 106 2 2 5), (5, o_if (fun x => decide (x = 0)) 30 8), (8, o_il 2 9), (9, o_i2l 10), (10, o_kl 0 11), (11, o_kl 99 14), (14, o_cS 1 102 6 3 17), (17, o_if (fun x => decide (x = 0)) 30 20), (20, o_il 3 21), (21, o_i2l 22)]
theorem ts_X7_said_0 (sx : QX) : ∀ q ∈ t_X7_said_0, q_Snd sx RX7 cX7_said 9 (some .int) q.1 q.2 := List.forall_mem_cons.mpr ⟨s_aload_n d_X7_said_0 rfl, List.forall_mem_cons.mpr ⟨s_iload_n d_X7_said_1 rfl, List.forall_mem_cons.mpr ⟨s_cV (T := TX7) (N := 30) rfl d_X7_said_2 rfl k_4_183 k_4_185 k_0_32 k_1_12 k_4_186 ⟨by decide, by decide⟩ (by decide +kernel) (by decide), List.forall_mem_cons.mpr ⟨s_if_eq d_X7_said_5 (by decide), List.forall_mem_cons.mpr ⟨s_iload_n d_X7_said_8 rfl, List.forall_mem_cons.mpr ⟨s_i2l d_X7_said_9, List.forall_mem_cons.mpr ⟨s_lconst d_X7_said_10 rfl, List.forall_mem_cons.mpr ⟨s_ldc2 d_X7_said_11 k_5_135, List.forall_mem_cons.mpr ⟨s_cS rfl d_X7_said_14 k_4_126 k_4_127 k_1_12 k_4_128 ⟨by decide, by decide⟩ (by decide +kernel) (by decide), List.forall_mem_cons.mpr ⟨s_if_eq d_X7_said_17 (by decide), List.forall_mem_cons.mpr ⟨s_iload_n d_X7_said_20 rfl, List.forall_mem_cons.mpr ⟨s_i2l d_X7_said_21, fun _ h => absurd h List.not_mem_nil⟩⟩⟩⟩⟩⟩⟩⟩⟩⟩⟩⟩
def t_X7_said_1 : List (Nat × QO) := [(22, o_kl 0 23), (23, o_kl 1 24), (24, o_cS 1 102 6 3 27), (27, o_if (fun x => decide (x ≠ 0)) 32 30), (30, o_k (-1) 31), (31, o_ir false), (32, o_al 0 33), (33, o_k 0 34), (34, o_il 1 35), (35, o_cV 1 7 138 3 3 38), (38, o_if (fun x => decide (x ≠ 0)) 44 41), (41, o_k (-2) 43)]
theorem ts_X7_said_1 (sx : QX) : ∀ q ∈ t_X7_said_1, q_Snd sx RX7 cX7_said 9 (some .int) q.1 q.2 := List.forall_mem_cons.mpr ⟨s_lconst d_X7_said_22 rfl, List.forall_mem_cons.mpr ⟨s_lconst d_X7_said_23 rfl, List.forall_mem_cons.mpr ⟨s_cS rfl d_X7_said_24 k_4_126 k_4_127 k_1_12 k_4_128 ⟨by decide, by decide⟩ (by decide +kernel) (by decide), List.forall_mem_cons.mpr ⟨s_if_ne d_X7_said_27 (by decide), List.forall_mem_cons.mpr ⟨s_iconst d_X7_said_30 rfl, List.forall_mem_cons.mpr ⟨s_ir d_X7_said_31 rfl, List.forall_mem_cons.mpr ⟨s_aload_n d_X7_said_32 rfl, List.forall_mem_cons.mpr ⟨s_iconst d_X7_said_33 rfl, List.forall_mem_cons.mpr ⟨s_iload_n d_X7_said_34 rfl, List.forall_mem_cons.mpr ⟨s_cV (T := TX7) (N := 30) rfl d_X7_said_35 rfl k_5_2 k_5_4 k_0_40 k_1_12 k_5_5 ⟨by decide, by decide⟩ (by decide +kernel) (by decide), List.forall_mem_cons.mpr ⟨s_if_ne d_X7_said_38 (by decide), List.forall_mem_cons.mpr ⟨s_bipush d_X7_said_41 rfl, fun _ h => absurd h List.not_mem_nil⟩⟩⟩⟩⟩⟩⟩⟩⟩⟩⟩⟩
def t_X7_said_2 : List (Nat × QO) := [(43, o_ir false), (44, o_k 0 45), (45, o_is 4 47), (47, o_k (-4) 49), (49, o_is 5 51), (51, o_k 0 52), (52, o_is 6 54), (54, o_il 6 56), (56, o_al 0 57), (57, o_gf 7 8 60), (60, o_ic (fun x y => decide (y ≤ x)) 148 63), (63, o_k 0 64)]
theorem ts_X7_said_2 (sx : QX) : ∀ q ∈ t_X7_said_2, q_Snd sx RX7 cX7_said 9 (some .int) q.1 q.2 := List.forall_mem_cons.mpr ⟨s_ir d_X7_said_43 rfl, List.forall_mem_cons.mpr ⟨s_iconst d_X7_said_44 rfl, List.forall_mem_cons.mpr ⟨s_istore d_X7_said_45 (by decide), List.forall_mem_cons.mpr ⟨s_bipush d_X7_said_47 rfl, List.forall_mem_cons.mpr ⟨s_istore d_X7_said_49 (by decide), List.forall_mem_cons.mpr ⟨s_iconst d_X7_said_51 rfl, List.forall_mem_cons.mpr ⟨s_istore d_X7_said_52 (by decide), List.forall_mem_cons.mpr ⟨s_iload d_X7_said_54, List.forall_mem_cons.mpr ⟨s_aload_n d_X7_said_56 rfl, List.forall_mem_cons.mpr ⟨s_gf d_X7_said_57 rfl (by decide) n_X7 in_X7 rfl k_4_37, List.forall_mem_cons.mpr ⟨s_ic_ge d_X7_said_60 (by decide), List.forall_mem_cons.mpr ⟨s_iconst d_X7_said_63 rfl, fun _ h => absurd h List.not_mem_nil⟩⟩⟩⟩⟩⟩⟩⟩⟩⟩⟩⟩
def t_X7_said_3 : List (Nat × QO) := [(64, o_is 7 66), (66, o_il 7 68), (68, o_al 0 69), (69, o_gf 7 6 72), (72, o_ic (fun x y => decide (y ≤ x)) 142 75), (75, o_al 0 76), (76, o_k 0 77), (77, o_il 6 79), (79, o_il 1 80), (80, o_il 7 82), (82, o_cV 1 7 136 5 5 85), (85, o_il 2 86)]
theorem ts_X7_said_3 (sx : QX) : ∀ q ∈ t_X7_said_3, q_Snd sx RX7 cX7_said 9 (some .int) q.1 q.2 := List.forall_mem_cons.mpr ⟨s_istore d_X7_said_64 (by decide), List.forall_mem_cons.mpr ⟨s_iload d_X7_said_66, List.forall_mem_cons.mpr ⟨s_aload_n d_X7_said_68 rfl, List.forall_mem_cons.mpr ⟨s_gf d_X7_said_69 rfl (by decide) n_X7 in_X7 rfl k_4_35, List.forall_mem_cons.mpr ⟨s_ic_ge d_X7_said_72 (by decide), List.forall_mem_cons.mpr ⟨s_aload_n d_X7_said_75 rfl, List.forall_mem_cons.mpr ⟨s_iconst d_X7_said_76 rfl, List.forall_mem_cons.mpr ⟨s_iload d_X7_said_77, List.forall_mem_cons.mpr ⟨s_iload_n d_X7_said_79 rfl, List.forall_mem_cons.mpr ⟨s_iload d_X7_said_80, List.forall_mem_cons.mpr ⟨s_cV (T := TX7) (N := 30) rfl d_X7_said_82 rfl k_4_215 k_4_217 k_0_35 k_1_12 k_4_218 ⟨by decide, by decide⟩ (by decide +kernel) (by decide), List.forall_mem_cons.mpr ⟨s_iload_n d_X7_said_85 rfl, fun _ h => absurd h List.not_mem_nil⟩⟩⟩⟩⟩⟩⟩⟩⟩⟩⟩⟩
def t_X7_said_4 : List (Nat × QO) := [(86, o_ic (fun x y => decide (x ≠ y)) 93 89), (89, o_k 1 90), (90, o_goto 94), (93, o_k 0 94), (94, o_is 8 96), (96, o_il 8 98), (98, o_if (fun x => decide (x = 0)) 117 101), (101, o_il 4 103), (103, o_if (fun x => decide (x ≠ 0)) 117 106), (106, o_k 10 108), (108, o_il 6 110), (110, o_b (fun x y => x * y) 111)]
theorem ts_X7_said_4 (sx : QX) : ∀ q ∈ t_X7_said_4, q_Snd sx RX7 cX7_said 9 (some .int) q.1 q.2 := List.forall_mem_cons.mpr ⟨s_ic_ne d_X7_said_86 (by decide), List.forall_mem_cons.mpr ⟨s_iconst d_X7_said_89 rfl, List.forall_mem_cons.mpr ⟨s_goto d_X7_said_90 (by decide), List.forall_mem_cons.mpr ⟨s_iconst d_X7_said_93 rfl, List.forall_mem_cons.mpr ⟨s_istore d_X7_said_94 (by decide), List.forall_mem_cons.mpr ⟨s_iload d_X7_said_96, List.forall_mem_cons.mpr ⟨s_if_eq d_X7_said_98 (by decide), List.forall_mem_cons.mpr ⟨s_iload d_X7_said_101, List.forall_mem_cons.mpr ⟨s_if_ne d_X7_said_103 (by decide), List.forall_mem_cons.mpr ⟨s_bipush d_X7_said_106 rfl, List.forall_mem_cons.mpr ⟨s_iload d_X7_said_108, List.forall_mem_cons.mpr ⟨s_imul d_X7_said_110, fun _ h => absurd h List.not_mem_nil⟩⟩⟩⟩⟩⟩⟩⟩⟩⟩⟩⟩
def t_X7_said_5 : List (Nat × QO) := [(111, o_il 7 113), (113, o_b (fun x y => x + y) 114), (114, o_goto 119), (117, o_il 5 119), (119, o_is 5 121), (121, o_il 4 123), (123, o_il 8 125), (125, o_if (fun x => decide (x = 0)) 132 128), (128, o_k 1 129), (129, o_goto 133), (132, o_k 0 133), (133, o_b (fun x y => x + y) 134)]
theorem ts_X7_said_5 (sx : QX) : ∀ q ∈ t_X7_said_5, q_Snd sx RX7 cX7_said 9 (some .int) q.1 q.2 := List.forall_mem_cons.mpr ⟨s_iload d_X7_said_111, List.forall_mem_cons.mpr ⟨s_iadd d_X7_said_113, List.forall_mem_cons.mpr ⟨s_goto d_X7_said_114 (by decide), List.forall_mem_cons.mpr ⟨s_iload d_X7_said_117, List.forall_mem_cons.mpr ⟨s_istore d_X7_said_119 (by decide), List.forall_mem_cons.mpr ⟨s_iload d_X7_said_121, List.forall_mem_cons.mpr ⟨s_iload d_X7_said_123, List.forall_mem_cons.mpr ⟨s_if_eq d_X7_said_125 (by decide), List.forall_mem_cons.mpr ⟨s_iconst d_X7_said_128 rfl, List.forall_mem_cons.mpr ⟨s_goto d_X7_said_129 (by decide), List.forall_mem_cons.mpr ⟨s_iconst d_X7_said_132 rfl, List.forall_mem_cons.mpr ⟨s_iadd d_X7_said_133, fun _ h => absurd h List.not_mem_nil⟩⟩⟩⟩⟩⟩⟩⟩⟩⟩⟩⟩
def t_X7_said_6 : List (Nat × QO) := [(134, o_is 4 136), (136, o_inc 7 1 139), (139, o_goto 66), (142, o_inc 6 1 145), (145, o_goto 54), (148, o_il 3 149), (149, o_if (fun x => decide (x ≠ 0)) 157 152), (152, o_il 4 154), (154, o_goto 159), (157, o_il 5 159), (159, o_ir false)]
theorem ts_X7_said_6 (sx : QX) : ∀ q ∈ t_X7_said_6, q_Snd sx RX7 cX7_said 9 (some .int) q.1 q.2 := List.forall_mem_cons.mpr ⟨s_istore d_X7_said_134 (by decide), List.forall_mem_cons.mpr ⟨s_iinc d_X7_said_136 rfl (by decide), List.forall_mem_cons.mpr ⟨s_goto d_X7_said_139 (by decide), List.forall_mem_cons.mpr ⟨s_iinc d_X7_said_142 rfl (by decide), List.forall_mem_cons.mpr ⟨s_goto d_X7_said_145 (by decide), List.forall_mem_cons.mpr ⟨s_iload_n d_X7_said_148 rfl, List.forall_mem_cons.mpr ⟨s_if_ne d_X7_said_149 (by decide), List.forall_mem_cons.mpr ⟨s_iload d_X7_said_152, List.forall_mem_cons.mpr ⟨s_goto d_X7_said_154 (by decide), List.forall_mem_cons.mpr ⟨s_iload d_X7_said_157, List.forall_mem_cons.mpr ⟨s_ir d_X7_said_159 rfl, fun _ h => absurd h List.not_mem_nil⟩⟩⟩⟩⟩⟩⟩⟩⟩⟩⟩
def t_X7_said (pc : Nat) : Option QO := cond (Nat.ble pc 63) (cond (Nat.ble pc 21) (q_look (t_X7_said_0) pc) (cond (Nat.ble pc 41) (q_look (t_X7_said_1) pc) (q_look (t_X7_said_2) pc))) (cond (Nat.ble pc 110) (cond (Nat.ble pc 85) (q_look (t_X7_said_3) pc) (q_look (t_X7_said_4) pc)) (cond (Nat.ble pc 133) (q_look (t_X7_said_5) pc) (q_look (t_X7_said_6) pc)))
theorem ts_X7_said (sx : QX) (pc : Nat) : ∀ o, t_X7_said pc = some o → q_Snd sx RX7 cX7_said 9 (some .int) pc o := by
  unfold t_X7_said
  exact q_cb (q_cb (q_look_all (ts_X7_said_0 sx)) (q_cb (q_look_all (ts_X7_said_1 sx)) (q_look_all (ts_X7_said_2 sx)))) (q_cb (q_cb (q_look_all (ts_X7_said_3 sx)) (q_look_all (ts_X7_said_4 sx))) (q_cb (q_look_all (ts_X7_said_5 sx)) (q_look_all (ts_X7_said_6 sx))))
theorem d_X7_deaf_0 : decode cX7_deaf 0 = .ok (.aload_n 0, 1) := by decide +kernel
theorem d_X7_deaf_1 : decode cX7_deaf 1 = .ok (.iload_n 1, 1) := by decide +kernel
theorem d_X7_deaf_2 : decode cX7_deaf 2 = .ok (.invokevirtual 168, 3) := by decide +kernel
theorem d_X7_deaf_5 : decode cX7_deaf 5 = .ok (.ifCond .eq 56, 3) := by decide +kernel
theorem d_X7_deaf_8 : decode cX7_deaf 8 = .ok (.aload_n 0, 1) := by decide +kernel
theorem d_X7_deaf_9 : decode cX7_deaf 9 = .ok (.iload_n 2, 1) := by decide +kernel
theorem d_X7_deaf_10 : decode cX7_deaf 10 = .ok (.invokevirtual 161, 3) := by decide +kernel
theorem d_X7_deaf_13 : decode cX7_deaf 13 = .ok (.ifCond .eq 48, 3) := by decide +kernel
theorem d_X7_deaf_16 : decode cX7_deaf 16 = .ok (.aload_n 0, 1) := by decide +kernel
theorem d_X7_deaf_17 : decode cX7_deaf 17 = .ok (.iload_n 3, 1) := by decide +kernel
theorem d_X7_deaf_18 : decode cX7_deaf 18 = .ok (.invokevirtual 165, 3) := by decide +kernel
theorem d_X7_deaf_21 : decode cX7_deaf 21 = .ok (.ifCond .eq 40, 3) := by decide +kernel
theorem d_X7_deaf_24 : decode cX7_deaf 24 = .ok (.iload 4, 2) := by decide +kernel
theorem d_X7_deaf_26 : decode cX7_deaf 26 = .ok (.i2l, 1) := by decide +kernel
theorem d_X7_deaf_27 : decode cX7_deaf 27 = .ok (.lconst 0, 1) := by decide +kernel
theorem d_X7_deaf_28 : decode cX7_deaf 28 = .ok (.ldc2_w 262, 3) := by decide +kernel
theorem d_X7_deaf_31 : decode cX7_deaf 31 = .ok (.invokestatic 85, 3) := by decide +kernel
theorem d_X7_deaf_34 : decode cX7_deaf 34 = .ok (.ifCond .eq 27, 3) := by decide +kernel
theorem d_X7_deaf_37 : decode cX7_deaf 37 = .ok (.iload 5, 2) := by decide +kernel
theorem d_X7_deaf_39 : decode cX7_deaf 39 = .ok (.i2l, 1) := by decide +kernel
theorem d_X7_deaf_40 : decode cX7_deaf 40 = .ok (.lconst 0, 1) := by decide +kernel
theorem d_X7_deaf_41 : decode cX7_deaf 41 = .ok (.ldc2_w 264, 3) := by decide +kernel
theorem d_X7_deaf_44 : decode cX7_deaf 44 = .ok (.invokestatic 85, 3) := by decide +kernel
theorem d_X7_deaf_47 : decode cX7_deaf 47 = .ok (.ifCond .eq 14, 3) := by decide +kernel
theorem d_X7_deaf_50 : decode cX7_deaf 50 = .ok (.iload 6, 2) := by decide +kernel
theorem d_X7_deaf_52 : decode cX7_deaf 52 = .ok (.i2l, 1) := by decide +kernel
theorem d_X7_deaf_53 : decode cX7_deaf 53 = .ok (.lconst 0, 1) := by decide +kernel
theorem d_X7_deaf_54 : decode cX7_deaf 54 = .ok (.lconst 1, 1) := by decide +kernel
theorem d_X7_deaf_55 : decode cX7_deaf 55 = .ok (.invokestatic 85, 3) := by decide +kernel
theorem d_X7_deaf_58 : decode cX7_deaf 58 = .ok (.ifCond .ne 5, 3) := by decide +kernel
theorem d_X7_deaf_61 : decode cX7_deaf 61 = .ok (.iconst (-1), 1) := by decide +kernel
theorem d_X7_deaf_62 : decode cX7_deaf 62 = .ok (.ireturn, 1) := by decide +kernel
theorem d_X7_deaf_63 : decode cX7_deaf 63 = .ok (.aload_n 0, 1) := by decide +kernel
theorem d_X7_deaf_64 : decode cX7_deaf 64 = .ok (.iconst 0, 1) := by decide +kernel
theorem d_X7_deaf_65 : decode cX7_deaf 65 = .ok (.iload_n 2, 1) := by decide +kernel
theorem d_X7_deaf_66 : decode cX7_deaf 66 = .ok (.invokevirtual 189, 3) := by decide +kernel
theorem d_X7_deaf_69 : decode cX7_deaf 69 = .ok (.ifCond .ne 6, 3) := by decide +kernel
theorem d_X7_deaf_72 : decode cX7_deaf 72 = .ok (.bipush (-2), 2) := by decide +kernel
theorem d_X7_deaf_74 : decode cX7_deaf 74 = .ok (.ireturn, 1) := by decide +kernel
theorem d_X7_deaf_75 : decode cX7_deaf 75 = .ok (.iconst 0, 1) := by decide +kernel
theorem d_X7_deaf_76 : decode cX7_deaf 76 = .ok (.istore 7, 2) := by decide +kernel
theorem d_X7_deaf_78 : decode cX7_deaf 78 = .ok (.iconst 1, 1) := by decide +kernel
theorem d_X7_deaf_79 : decode cX7_deaf 79 = .ok (.istore 8, 2) := by decide +kernel
theorem d_X7_deaf_81 : decode cX7_deaf 81 = .ok (.iconst 0, 1) := by decide +kernel
theorem d_X7_deaf_82 : decode cX7_deaf 82 = .ok (.istore 9, 2) := by decide +kernel
theorem d_X7_deaf_84 : decode cX7_deaf 84 = .ok (.iload 9, 2) := by decide +kernel
theorem d_X7_deaf_86 : decode cX7_deaf 86 = .ok (.iload 4, 2) := by decide +kernel
theorem d_X7_deaf_88 : decode cX7_deaf 88 = .ok (.if_icmp .ge 16, 3) := by decide +kernel
theorem d_X7_deaf_91 : decode cX7_deaf 91 = .ok (.iload 8, 2) := by decide +kernel
theorem d_X7_deaf_93 : decode cX7_deaf 93 = .ok (.bipush 10, 2) := by decide +kernel
theorem d_X7_deaf_95 : decode cX7_deaf 95 = .ok (.imul, 1) := by decide +kernel
theorem d_X7_deaf_96 : decode cX7_deaf 96 = .ok (.istore 8, 2) := by decide +kernel
theorem d_X7_deaf_98 : decode cX7_deaf 98 = .ok (.iinc 9 1, 3) := by decide +kernel
theorem d_X7_deaf_101 : decode cX7_deaf 101 = .ok (.goto (-17), 3) := by decide +kernel
theorem d_X7_deaf_104 : decode cX7_deaf 104 = .ok (.iconst 0, 1) := by decide +kernel
theorem d_X7_deaf_105 : decode cX7_deaf 105 = .ok (.istore 9, 2) := by decide +kernel
theorem d_X7_deaf_107 : decode cX7_deaf 107 = .ok (.iload 9, 2) := by decide +kernel
theorem d_X7_deaf_109 : decode cX7_deaf 109 = .ok (.iconst 1, 1) := by decide +kernel
theorem d_X7_deaf_110 : decode cX7_deaf 110 = .ok (.iload 4, 2) := by decide +kernel
theorem d_X7_deaf_112 : decode cX7_deaf 112 = .ok (.ishl, 1) := by decide +kernel
theorem d_X7_deaf_113 : decode cX7_deaf 113 = .ok (.if_icmp .ge 124, 3) := by decide +kernel
theorem d_X7_deaf_116 : decode cX7_deaf 116 = .ok (.iconst 1, 1) := by decide +kernel
theorem d_X7_deaf_117 : decode cX7_deaf 117 = .ok (.istore 10, 2) := by decide +kernel
theorem d_X7_deaf_119 : decode cX7_deaf 119 = .ok (.aload_n 0, 1) := by decide +kernel
theorem d_X7_deaf_120 : decode cX7_deaf 120 = .ok (.getfield 7, 3) := by decide +kernel
theorem d_X7_deaf_123 : decode cX7_deaf 123 = .ok (.iconst 1, 1) := by decide +kernel
theorem d_X7_deaf_124 : decode cX7_deaf 124 = .ok (.iload_n 2, 1) := by decide +kernel
theorem d_X7_deaf_125 : decode cX7_deaf 125 = .ok (.iadd, 1) := by decide +kernel
theorem d_X7_deaf_126 : decode cX7_deaf 126 = .ok (.iaload, 1) := by decide +kernel
theorem d_X7_deaf_127 : decode cX7_deaf 127 = .ok (.istore 11, 2) := by decide +kernel
theorem d_X7_deaf_129 : decode cX7_deaf 129 = .ok (.iconst 0, 1) := by decide +kernel
theorem d_X7_deaf_130 : decode cX7_deaf 130 = .ok (.istore 12, 2) := by decide +kernel
theorem d_X7_deaf_132 : decode cX7_deaf 132 = .ok (.iload 12, 2) := by decide +kernel
theorem d_X7_deaf_134 : decode cX7_deaf 134 = .ok (.iload 4, 2) := by decide +kernel
theorem d_X7_deaf_136 : decode cX7_deaf 136 = .ok (.if_icmp .ge 73, 3) := by decide +kernel
theorem d_X7_deaf_139 : decode cX7_deaf 139 = .ok (.iload 10, 2) := by decide +kernel
theorem d_X7_deaf_141 : decode cX7_deaf 141 = .ok (.iload 9, 2) := by decide +kernel
theorem d_X7_deaf_143 : decode cX7_deaf 143 = .ok (.iload 12, 2) := by decide +kernel
theorem d_X7_deaf_145 : decode cX7_deaf 145 = .ok (.invokestatic 238, 3) := by decide +kernel
theorem d_X7_deaf_148 : decode cX7_deaf 148 = .ok (.ifCond .eq 8, 3) := by decide +kernel
theorem d_X7_deaf_151 : decode cX7_deaf 151 = .ok (.iload 5, 2) := by decide +kernel
theorem d_X7_deaf_153 : decode cX7_deaf 153 = .ok (.goto 8, 3) := by decide +kernel
theorem d_X7_deaf_156 : decode cX7_deaf 156 = .ok (.bipush 10, 2) := by decide +kernel
theorem d_X7_deaf_158 : decode cX7_deaf 158 = .ok (.iload 5, 2) := by decide +kernel
theorem d_X7_deaf_160 : decode cX7_deaf 160 = .ok (.isub, 1) := by decide +kernel
theorem d_X7_deaf_161 : decode cX7_deaf 161 = .ok (.imul, 1) := by decide +kernel
theorem d_X7_deaf_162 : decode cX7_deaf 162 = .ok (.istore 10, 2) := by decide +kernel
theorem d_X7_deaf_164 : decode cX7_deaf 164 = .ok (.iload 11, 2) := by decide +kernel
theorem d_X7_deaf_166 : decode cX7_deaf 166 = .ok (.iload 9, 2) := by decide +kernel
theorem d_X7_deaf_168 : decode cX7_deaf 168 = .ok (.iload 12, 2) := by decide +kernel
theorem d_X7_deaf_170 : decode cX7_deaf 170 = .ok (.invokestatic 238, 3) := by decide +kernel
theorem d_X7_deaf_173 : decode cX7_deaf 173 = .ok (.ifCond .eq 7, 3) := by decide +kernel
theorem d_X7_deaf_176 : decode cX7_deaf 176 = .ok (.iconst 0, 1) := by decide +kernel
theorem d_X7_deaf_177 : decode cX7_deaf 177 = .ok (.goto 23, 3) := by decide +kernel
theorem d_X7_deaf_180 : decode cX7_deaf 180 = .ok (.aload_n 0, 1) := by decide +kernel
theorem d_X7_deaf_181 : decode cX7_deaf 181 = .ok (.iload_n 1, 1) := by decide +kernel
theorem d_X7_deaf_182 : decode cX7_deaf 182 = .ok (.iload_n 2, 1) := by decide +kernel
theorem d_X7_deaf_183 : decode cX7_deaf 183 = .ok (.iload_n 3, 1) := by decide +kernel
theorem d_X7_deaf_184 : decode cX7_deaf 184 = .ok (.invokevirtual 175, 3) := by decide +kernel
theorem d_X7_deaf_187 : decode cX7_deaf 187 = .ok (.aload_n 0, 1) := by decide +kernel
theorem d_X7_deaf_188 : decode cX7_deaf 188 = .ok (.iconst 0, 1) := by decide +kernel
theorem d_X7_deaf_189 : decode cX7_deaf 189 = .ok (.iload_n 2, 1) := by decide +kernel
theorem d_X7_deaf_190 : decode cX7_deaf 190 = .ok (.iload_n 3, 1) := by decide +kernel
theorem d_X7_deaf_191 : decode cX7_deaf 191 = .ok (.invokevirtual 179, 3) := by decide +kernel
theorem d_X7_deaf_194 : decode cX7_deaf 194 = .ok (.iload 12, 2) := by decide +kernel
theorem d_X7_deaf_196 : decode cX7_deaf 196 = .ok (.iadd, 1) := by decide +kernel
theorem d_X7_deaf_197 : decode cX7_deaf 197 = .ok (.invokestatic 182, 3) := by decide +kernel
theorem d_X7_deaf_200 : decode cX7_deaf 200 = .ok (.iadd, 1) := by decide +kernel
theorem d_X7_deaf_201 : decode cX7_deaf 201 = .ok (.istore 11, 2) := by decide +kernel
theorem d_X7_deaf_203 : decode cX7_deaf 203 = .ok (.iinc 12 1, 3) := by decide +kernel
theorem d_X7_deaf_206 : decode cX7_deaf 206 = .ok (.goto (-74), 3) := by decide +kernel
theorem d_X7_deaf_209 : decode cX7_deaf 209 = .ok (.iload 7, 2) := by decide +kernel
theorem d_X7_deaf_211 : decode cX7_deaf 211 = .ok (.iload 11, 2) := by decide +kernel
theorem d_X7_deaf_213 : decode cX7_deaf 213 = .ok (.aload_n 0, 1) := by decide +kernel
theorem d_X7_deaf_214 : decode cX7_deaf 214 = .ok (.getfield 16, 3) := by decide +kernel
theorem d_X7_deaf_217 : decode cX7_deaf 217 = .ok (.iload_n 2, 1) := by decide +kernel
theorem d_X7_deaf_218 : decode cX7_deaf 218 = .ok (.iaload, 1) := by decide +kernel
theorem d_X7_deaf_219 : decode cX7_deaf 219 = .ok (.if_icmp .lt 8, 3) := by decide +kernel
theorem d_X7_deaf_222 : decode cX7_deaf 222 = .ok (.iload 10, 2) := by decide +kernel
theorem d_X7_deaf_224 : decode cX7_deaf 224 = .ok (.goto 4, 3) := by decide +kernel
theorem d_X7_deaf_227 : decode cX7_deaf 227 = .ok (.iconst 0, 1) := by decide +kernel
theorem d_X7_deaf_228 : decode cX7_deaf 228 = .ok (.iadd, 1) := by decide +kernel
theorem d_X7_deaf_229 : decode cX7_deaf 229 = .ok (.istore 7, 2) := by decide +kernel
theorem d_X7_deaf_231 : decode cX7_deaf 231 = .ok (.iinc 9 1, 3) := by decide +kernel
theorem d_X7_deaf_234 : decode cX7_deaf 234 = .ok (.goto (-127), 3) := by decide +kernel
theorem d_X7_deaf_237 : decode cX7_deaf 237 = .ok (.iload 7, 2) := by decide +kernel
theorem d_X7_deaf_239 : decode cX7_deaf 239 = .ok (.istore 9, 2) := by decide +kernel
theorem d_X7_deaf_241 : decode cX7_deaf 241 = .ok (.iload 8, 2) := by decide +kernel
theorem d_X7_deaf_243 : decode cX7_deaf 243 = .ok (.istore 10, 2) := by decide +kernel
theorem d_X7_deaf_245 : decode cX7_deaf 245 = .ok (.iload 10, 2) := by decide +kernel
theorem d_X7_deaf_247 : decode cX7_deaf 247 = .ok (.ifCond .eq 21, 3) := by decide +kernel
theorem d_X7_deaf_250 : decode cX7_deaf 250 = .ok (.iload 9, 2) := by decide +kernel
theorem d_X7_deaf_252 : decode cX7_deaf 252 = .ok (.iload 10, 2) := by decide +kernel
theorem d_X7_deaf_254 : decode cX7_deaf 254 = .ok (.irem, 1) := by decide +kernel
theorem d_X7_deaf_255 : decode cX7_deaf 255 = .ok (.istore 11, 2) := by decide +kernel
theorem d_X7_deaf_257 : decode cX7_deaf 257 = .ok (.iload 10, 2) := by decide +kernel
theorem d_X7_deaf_259 : decode cX7_deaf 259 = .ok (.istore 9, 2) := by decide +kernel
theorem d_X7_deaf_261 : decode cX7_deaf 261 = .ok (.iload 11, 2) := by decide +kernel
theorem d_X7_deaf_263 : decode cX7_deaf 263 = .ok (.istore 10, 2) := by decide +kernel
theorem d_X7_deaf_265 : decode cX7_deaf 265 = .ok (.goto (-20), 3) := by decide +kernel
theorem d_X7_deaf_268 : decode cX7_deaf 268 = .ok (.iload 6, 2) := by decide +kernel
theorem d_X7_deaf_270 : decode cX7_deaf 270 = .ok (.ifCond .ne 11, 3) := by decide +kernel
theorem d_X7_deaf_273 : decode cX7_deaf 273 = .ok (.iload 7, 2) := by decide +kernel
theorem d_X7_deaf_275 : decode cX7_deaf 275 = .ok (.iload 9, 2) := by decide +kernel
theorem d_X7_deaf_277 : decode cX7_deaf 277 = .ok (.idiv, 1) := by decide +kernel
theorem d_X7_deaf_278 : decode cX7_deaf 278 = .ok (.goto 8, 3) := by decide +kernel
theorem d_X7_deaf_281 : decode cX7_deaf 281 = .ok (.iload 8, 2) := by decide +kernel
theorem d_X7_deaf_283 : decode cX7_deaf 283 = .ok (.iload 9, 2) := by decide +kernel
theorem d_X7_deaf_285 : decode cX7_deaf 285 = .ok (.idiv, 1) := by decide +kernel
theorem d_X7_deaf_286 : decode cX7_deaf 286 = .ok (.ireturn, 1) := by decide +kernel
def t_X7_deaf_0 : List (Nat × QO) := [(0, o_al 0 1), (1, o_il 1 2), (2, o_cV 1 7 108 2 2 5), (5, o_if (fun x => decide (x = 0)) 61 8), (8, o_al 0 9), (9, o_il 2 10), (10, o_cV 1 7 106 2 2 13), (13, o_if (fun x => decide (x = 0)) 61 16), (16, o_al 0 17), (17, o_il 3 18), (18, o_cV 1 7 107 2 2 21), (21, o_if (fun x => decide (x = 0)) 61 24)]
theorem ts_X7_deaf_0 (sx : QX) : ∀ q ∈ t_X7_deaf_0, q_Snd sx RX7 cX7_deaf 13 (some .int) q.1 q.2 := List.forall_mem_cons.mpr ⟨s_aload_n d_X7_deaf_0 rfl, List.forall_mem_cons.mpr ⟨s_iload_n d_X7_deaf_1 rfl, List.forall_mem_cons.mpr ⟨s_cV (T := TX7) (N := 30) rfl d_X7_deaf_2 rfl k_4_199 k_4_201 k_0_34 k_1_12 k_4_202 ⟨by decide, by decide⟩ (by decide +kernel) (by decide), List.forall_mem_cons.mpr ⟨s_if_eq d_X7_deaf_5 (by decide), List.forall_mem_cons.mpr ⟨s_aload_n d_X7_deaf_8 rfl, List.forall_mem_cons.mpr ⟨s_iload_n d_X7_deaf_9 rfl, List.forall_mem_cons.mpr ⟨s_cV (T := TX7) (N := 30) rfl d_X7_deaf_10 rfl k_4_183 k_4_185 k_0_32 k_1_12 k_4_186 ⟨by decide, by decide⟩ (by decide +kernel) (by decide), List.forall_mem_cons.mpr ⟨s_if_eq d_X7_deaf_13 (by decide), List.forall_mem_cons.mpr ⟨s_aload_n d_X7_deaf_16 rfl, List.forall_mem_cons.mpr ⟨s_iload_n d_X7_deaf_17 rfl, List.forall_mem_cons.mpr ⟨s_cV (T := TX7) (N := 30) rfl d_X7_deaf_18 rfl k_4_191 k_4_193 k_0_33 k_1_12 k_4_194 ⟨by decide, by decide⟩ (by decide +kernel) (by decide), List.forall_mem_cons.mpr ⟨s_if_eq d_X7_deaf_21 (by decide), fun _ h => absurd h List.not_mem_nil⟩⟩⟩⟩⟩⟩⟩⟩⟩⟩⟩⟩
def t_X7_deaf_1 : List (Nat × QO) := [(24, o_il 4 26), (26, o_i2l 27), (27, o_kl 0 28), (28, o_kl 8 31), (31, o_cS 1 102 6 3 34), (34, o_if (fun x => decide (x = 0)) 61 37), (37, o_il 5 39), (39, o_i2l 40), (40, o_kl 0 41), (41, o_kl 10 44), (44, o_cS 1 102 6 3 47), (47, o_if (fun x => decide (x = 0)) 61 50)]
theorem ts_X7_deaf_1 (sx : QX) : ∀ q ∈ t_X7_deaf_1, q_Snd sx RX7 cX7_deaf 13 (some .int) q.1 q.2 := List.forall_mem_cons.mpr ⟨s_iload d_X7_deaf_24, List.forall_mem_cons.mpr ⟨s_i2l d_X7_deaf_26, List.forall_mem_cons.mpr ⟨s_lconst d_X7_deaf_27 rfl, List.forall_mem_cons.mpr ⟨s_ldc2 d_X7_deaf_28 k_5_140, List.forall_mem_cons.mpr ⟨s_cS rfl d_X7_deaf_31 k_4_126 k_4_127 k_1_12 k_4_128 ⟨by decide, by decide⟩ (by decide +kernel) (by decide), List.forall_mem_cons.mpr ⟨s_if_eq d_X7_deaf_34 (by decide), List.forall_mem_cons.mpr ⟨s_iload d_X7_deaf_37, List.forall_mem_cons.mpr ⟨s_i2l d_X7_deaf_39, List.forall_mem_cons.mpr ⟨s_lconst d_X7_deaf_40 rfl, List.forall_mem_cons.mpr ⟨s_ldc2 d_X7_deaf_41 k_5_141, List.forall_mem_cons.mpr ⟨s_cS rfl d_X7_deaf_44 k_4_126 k_4_127 k_1_12 k_4_128 ⟨by decide, by decide⟩ (by decide +kernel) (by decide), List.forall_mem_cons.mpr ⟨s_if_eq d_X7_deaf_47 (by decide), fun _ h => absurd h List.not_mem_nil⟩⟩⟩⟩⟩⟩⟩⟩⟩⟩⟩⟩
def t_X7_deaf_2 : List (Nat × QO) := [(50, o_il 6 52), (52, o_i2l 53), (53, o_kl 0 54), (54, o_kl 1 55), (55, o_cS 1 102 6 3 58), (58, o_if (fun x => decide (x ≠ 0)) 63 61), (61, o_k (-1) 62), (62, o_ir false), (63, o_al 0 64), (64, o_k 0 65), (65, o_il 2 66), (66, o_cV 1 7 138 3 3 69)]
theorem ts_X7_deaf_2 (sx : QX) : ∀ q ∈ t_X7_deaf_2, q_Snd sx RX7 cX7_deaf 13 (some .int) q.1 q.2 := List.forall_mem_cons.mpr ⟨s_iload d_X7_deaf_50, List.forall_mem_cons.mpr ⟨s_i2l d_X7_deaf_52, List.forall_mem_cons.mpr ⟨s_lconst d_X7_deaf_53 rfl, List.forall_mem_cons.mpr ⟨s_lconst d_X7_deaf_54 rfl, List.forall_mem_cons.mpr ⟨s_cS rfl d_X7_deaf_55 k_4_126 k_4_127 k_1_12 k_4_128 ⟨by decide, by decide⟩ (by decide +kernel) (by decide), List.forall_mem_cons.mpr ⟨s_if_ne d_X7_deaf_58 (by decide), List.forall_mem_cons.mpr ⟨s_iconst d_X7_deaf_61 rfl, List.forall_mem_cons.mpr ⟨s_ir d_X7_deaf_62 rfl, List.forall_mem_cons.mpr ⟨s_aload_n d_X7_deaf_63 rfl, List.forall_mem_cons.mpr ⟨s_iconst d_X7_deaf_64 rfl, List.forall_mem_cons.mpr ⟨s_iload_n d_X7_deaf_65 rfl, List.forall_mem_cons.mpr ⟨s_cV (T := TX7) (N := 30) rfl d_X7_deaf_66 rfl k_5_2 k_5_4 k_0_40 k_1_12 k_5_5 ⟨by decide, by decide⟩ (by decide +kernel) (by decide), fun _ h => absurd h List.not_mem_nil⟩⟩⟩⟩⟩⟩⟩⟩⟩⟩⟩⟩
def t_X7_deaf_3 : List (Nat × QO) := [(69, o_if (fun x => decide (x ≠ 0)) 75 72), (72, o_k (-2) 74), (74, o_ir false), (75, o_k 0 76), (76, o_is 7 78), (78, o_k 1 79), (79, o_is 8 81), (81, o_k 0 82), (82, o_is 9 84), (84, o_il 9 86), (86, o_il 4 88), (88, o_ic (fun x y => decide (y ≤ x)) 104 91)]
theorem ts_X7_deaf_3 (sx : QX) : ∀ q ∈ t_X7_deaf_3, q_Snd sx RX7 cX7_deaf 13 (some .int) q.1 q.2 := List.forall_mem_cons.mpr ⟨s_if_ne d_X7_deaf_69 (by decide), List.forall_mem_cons.mpr ⟨s_bipush d_X7_deaf_72 rfl, List.forall_mem_cons.mpr ⟨s_ir d_X7_deaf_74 rfl, List.forall_mem_cons.mpr ⟨s_iconst d_X7_deaf_75 rfl, List.forall_mem_cons.mpr ⟨s_istore d_X7_deaf_76 (by decide), List.forall_mem_cons.mpr ⟨s_iconst d_X7_deaf_78 rfl, List.forall_mem_cons.mpr ⟨s_istore d_X7_deaf_79 (by decide), List.forall_mem_cons.mpr ⟨s_iconst d_X7_deaf_81 rfl, List.forall_mem_cons.mpr ⟨s_istore d_X7_deaf_82 (by decide), List.forall_mem_cons.mpr ⟨s_iload d_X7_deaf_84, List.forall_mem_cons.mpr ⟨s_iload d_X7_deaf_86, List.forall_mem_cons.mpr ⟨s_ic_ge d_X7_deaf_88 (by decide), fun _ h => absurd h List.not_mem_nil⟩⟩⟩⟩⟩⟩⟩⟩⟩⟩⟩⟩
def t_X7_deaf_4 : List (Nat × QO) := [(91, o_il 8 93), (93, o_k 10 95), (95, o_b (fun x y => x * y) 96), (96, o_is 8 98), (98, o_inc 9 1 101), (101, o_goto 84), (104, o_k 0 105), (105, o_is 9 107), (107, o_il 9 109), (109, o_k 1 110), (110, o_il 4 112), (112, o_b (fun x y => x <<< (y &&& 31)) 113)]
theorem ts_X7_deaf_4 (sx : QX) : ∀ q ∈ t_X7_deaf_4, q_Snd sx RX7 cX7_deaf 13 (some .int) q.1 q.2 := List.forall_mem_cons.mpr ⟨s_iload d_X7_deaf_91, List.forall_mem_cons.mpr ⟨s_bipush d_X7_deaf_93 rfl, List.forall_mem_cons.mpr ⟨s_imul d_X7_deaf_95, List.forall_mem_cons.mpr ⟨s_istore d_X7_deaf_96 (by decide), List.forall_mem_cons.mpr ⟨s_iinc d_X7_deaf_98 rfl (by decide), List.forall_mem_cons.mpr ⟨s_goto d_X7_deaf_101 (by decide), List.forall_mem_cons.mpr ⟨s_iconst d_X7_deaf_104 rfl, List.forall_mem_cons.mpr ⟨s_istore d_X7_deaf_105 (by decide), List.forall_mem_cons.mpr ⟨s_iload d_X7_deaf_107, List.forall_mem_cons.mpr ⟨s_iconst d_X7_deaf_109 rfl, List.forall_mem_cons.mpr ⟨s_iload d_X7_deaf_110, List.forall_mem_cons.mpr ⟨s_ishl d_X7_deaf_112, fun _ h => absurd h List.not_mem_nil⟩⟩⟩⟩⟩⟩⟩⟩⟩⟩⟩⟩
def t_X7_deaf_5 : List (Nat × QO) := [(113, o_ic (fun x y => decide (y ≤ x)) 237 116), (116, o_k 1 117), (117, o_is 10 119), (119, o_al 0 120), (120, o_gf 7 0 123), (123, o_k 1 124), (124, o_il 2 125), (125, o_b (fun x y => x + y) 126), (126, o_iald 127), (127, o_is 11 129), (129, o_k 0 130), (130, o_is 12 132)]
theorem ts_X7_deaf_5 (sx : QX) : ∀ q ∈ t_X7_deaf_5, q_Snd sx RX7 cX7_deaf 13 (some .int) q.1 q.2 := List.forall_mem_cons.mpr ⟨s_ic_ge d_X7_deaf_113 (by decide), List.forall_mem_cons.mpr ⟨s_iconst d_X7_deaf_116 rfl, List.forall_mem_cons.mpr ⟨s_istore d_X7_deaf_117 (by decide), List.forall_mem_cons.mpr ⟨s_aload_n d_X7_deaf_119 rfl, List.forall_mem_cons.mpr ⟨s_gf d_X7_deaf_120 rfl (by decide) n_X7 in_X7 rfl k_4_29, List.forall_mem_cons.mpr ⟨s_iconst d_X7_deaf_123 rfl, List.forall_mem_cons.mpr ⟨s_iload_n d_X7_deaf_124 rfl, List.forall_mem_cons.mpr ⟨s_iadd d_X7_deaf_125, List.forall_mem_cons.mpr ⟨s_iald d_X7_deaf_126, List.forall_mem_cons.mpr ⟨s_istore d_X7_deaf_127 (by decide), List.forall_mem_cons.mpr ⟨s_iconst d_X7_deaf_129 rfl, List.forall_mem_cons.mpr ⟨s_istore d_X7_deaf_130 (by decide), fun _ h => absurd h List.not_mem_nil⟩⟩⟩⟩⟩⟩⟩⟩⟩⟩⟩⟩
def t_X7_deaf_6 : List (Nat × QO) := [(132, o_il 12 134), (134, o_il 4 136), (136, o_ic (fun x y => decide (y ≤ x)) 209 139), (139, o_il 10 141), (141, o_il 9 143), (143, o_il 12 145), (145, o_cS 1 103 2 2 148), (148, o_if (fun x => decide (x = 0)) 156 151), (151, o_il 5 153), (153, o_goto 161), (156, o_k 10 158), (158, o_il 5 160)]
theorem ts_X7_deaf_6 (sx : QX) : ∀ q ∈ t_X7_deaf_6, q_Snd sx RX7 cX7_deaf 13 (some .int) q.1 q.2 := List.forall_mem_cons.mpr ⟨s_iload d_X7_deaf_132, List.forall_mem_cons.mpr ⟨s_iload d_X7_deaf_134, List.forall_mem_cons.mpr ⟨s_ic_ge d_X7_deaf_136 (by decide), List.forall_mem_cons.mpr ⟨s_iload d_X7_deaf_139, List.forall_mem_cons.mpr ⟨s_iload d_X7_deaf_141, List.forall_mem_cons.mpr ⟨s_iload d_X7_deaf_143, List.forall_mem_cons.mpr ⟨s_cS rfl d_X7_deaf_145 k_5_87 k_5_88 k_1_12 k_5_89 ⟨by decide, by decide⟩ (by decide +kernel) (by decide), List.forall_mem_cons.mpr ⟨s_if_eq d_X7_deaf_148 (by decide), List.forall_mem_cons.mpr ⟨s_iload d_X7_deaf_151, List.forall_mem_cons.mpr ⟨s_goto d_X7_deaf_153 (by decide), List.forall_mem_cons.mpr ⟨s_bipush d_X7_deaf_156 rfl, List.forall_mem_cons.mpr ⟨s_iload d_X7_deaf_158, fun _ h => absurd h List.not_mem_nil⟩⟩⟩⟩⟩⟩⟩⟩⟩⟩⟩⟩
def t_X7_deaf_7 : List (Nat × QO) := [(160, o_b (fun x y => x - y) 161), (161, o_b (fun x y => x * y) 162), (162, o_is 10 164), (164, o_il 11 166), (166, o_il 9 168), (168, o_il 12 170), (170, o_cS 1 103 2 2 173), (173, o_if (fun x => decide (x = 0)) 180 176), (176, o_k 0 177), (177, o_goto 200), (180, o_al 0 181), (181, o_il 1 182)]
theorem ts_X7_deaf_7 (sx : QX) : ∀ q ∈ t_X7_deaf_7, q_Snd sx RX7 cX7_deaf 13 (some .int) q.1 q.2 := List.forall_mem_cons.mpr ⟨s_isub d_X7_deaf_160, List.forall_mem_cons.mpr ⟨s_imul d_X7_deaf_161, List.forall_mem_cons.mpr ⟨s_istore d_X7_deaf_162 (by decide), List.forall_mem_cons.mpr ⟨s_iload d_X7_deaf_164, List.forall_mem_cons.mpr ⟨s_iload d_X7_deaf_166, List.forall_mem_cons.mpr ⟨s_iload d_X7_deaf_168, List.forall_mem_cons.mpr ⟨s_cS rfl d_X7_deaf_170 k_5_87 k_5_88 k_1_12 k_5_89 ⟨by decide, by decide⟩ (by decide +kernel) (by decide), List.forall_mem_cons.mpr ⟨s_if_eq d_X7_deaf_173 (by decide), List.forall_mem_cons.mpr ⟨s_iconst d_X7_deaf_176 rfl, List.forall_mem_cons.mpr ⟨s_goto d_X7_deaf_177 (by decide), List.forall_mem_cons.mpr ⟨s_aload_n d_X7_deaf_180 rfl, List.forall_mem_cons.mpr ⟨s_iload_n d_X7_deaf_181 rfl, fun _ h => absurd h List.not_mem_nil⟩⟩⟩⟩⟩⟩⟩⟩⟩⟩⟩⟩
def t_X7_deaf_8 : List (Nat × QO) := [(182, o_il 2 183), (183, o_il 3 184), (184, o_cV 1 7 135 5 4 187), (187, o_al 0 188), (188, o_k 0 189), (189, o_il 2 190), (190, o_il 3 191), (191, o_cV 1 7 134 4 4 194), (194, o_il 12 196), (196, o_b (fun x y => x + y) 197), (197, o_cS 1 133 2 2 200), (200, o_b (fun x y => x + y) 201)]
theorem ts_X7_deaf_8 (sx : QX) : ∀ q ∈ t_X7_deaf_8, q_Snd sx RX7 cX7_deaf 13 (some .int) q.1 q.2 := List.forall_mem_cons.mpr ⟨s_iload_n d_X7_deaf_182 rfl, List.forall_mem_cons.mpr ⟨s_iload_n d_X7_deaf_183 rfl, List.forall_mem_cons.mpr ⟨s_cV (T := TX7) (N := 30) rfl d_X7_deaf_184 rfl k_4_219 k_4_221 k_0_36 k_1_12 k_4_222 ⟨by decide, by decide⟩ (by decide +kernel) (by decide), List.forall_mem_cons.mpr ⟨s_aload_n d_X7_deaf_187 rfl, List.forall_mem_cons.mpr ⟨s_iconst d_X7_deaf_188 rfl, List.forall_mem_cons.mpr ⟨s_iload_n d_X7_deaf_189 rfl, List.forall_mem_cons.mpr ⟨s_iload_n d_X7_deaf_190 rfl, List.forall_mem_cons.mpr ⟨s_cV (T := TX7) (N := 30) rfl d_X7_deaf_191 rfl k_4_227 k_4_229 k_0_38 k_1_12 k_4_230 ⟨by decide, by decide⟩ (by decide +kernel) (by decide), List.forall_mem_cons.mpr ⟨s_iload d_X7_deaf_194, List.forall_mem_cons.mpr ⟨s_iadd d_X7_deaf_196, List.forall_mem_cons.mpr ⟨s_cS rfl d_X7_deaf_197 k_4_231 k_4_232 k_1_12 k_4_233 ⟨by decide, by decide⟩ (by decide +kernel) (by decide), List.forall_mem_cons.mpr ⟨s_iadd d_X7_deaf_200, fun _ h => absurd h List.not_mem_nil⟩⟩⟩⟩⟩⟩⟩⟩⟩⟩⟩⟩
def t_X7_deaf_9 : List (Nat × QO) := [(201, o_is 11 203), (203, o_inc 12 1 206), (206, o_goto 132), (209, o_il 7 211), (211, o_il 11 213), (213, o_al 0 214), (214, o_gf 7 5 217), (217, o_il 2 218), (218, o_iald 219), (219, o_ic (fun x y => decide (x < y)) 227 222), (222, o_il 10 224), (224, o_goto 228)]
theorem ts_X7_deaf_9 (sx : QX) : ∀ q ∈ t_X7_deaf_9, q_Snd sx RX7 cX7_deaf 13 (some .int) q.1 q.2 := List.forall_mem_cons.mpr ⟨s_istore d_X7_deaf_201 (by decide), List.forall_mem_cons.mpr ⟨s_iinc d_X7_deaf_203 rfl (by decide), List.forall_mem_cons.mpr ⟨s_goto d_X7_deaf_206 (by decide), List.forall_mem_cons.mpr ⟨s_iload d_X7_deaf_209, List.forall_mem_cons.mpr ⟨s_iload d_X7_deaf_211, List.forall_mem_cons.mpr ⟨s_aload_n d_X7_deaf_213 rfl, List.forall_mem_cons.mpr ⟨s_gf d_X7_deaf_214 rfl (by decide) n_X7 in_X7 rfl k_4_34, List.forall_mem_cons.mpr ⟨s_iload_n d_X7_deaf_217 rfl, List.forall_mem_cons.mpr ⟨s_iald d_X7_deaf_218, List.forall_mem_cons.mpr ⟨s_ic_lt d_X7_deaf_219 (by decide), List.forall_mem_cons.mpr ⟨s_iload d_X7_deaf_222, List.forall_mem_cons.mpr ⟨s_goto d_X7_deaf_224 (by decide), fun _ h => absurd h List.not_mem_nil⟩⟩⟩⟩⟩⟩⟩⟩⟩⟩⟩⟩
def t_X7_deaf_10 : List (Nat × QO) := [(227, o_k 0 228), (228, o_b (fun x y => x + y) 229), (229, o_is 7 231), (231, o_inc 9 1 234), (234, o_goto 107), (237, o_il 7 239), (239, o_is 9 241), (241, o_il 8 243), (243, o_is 10 245), (245, o_il 10 247), (247, o_if (fun x => decide (x = 0)) 268 250), (250, o_il 9 252)]
theorem ts_X7_deaf_10 (sx : QX) : ∀ q ∈ t_X7_deaf_10, q_Snd sx RX7 cX7_deaf 13 (some .int) q.1 q.2 := List.forall_mem_cons.mpr ⟨s_iconst d_X7_deaf_227 rfl, List.forall_mem_cons.mpr ⟨s_iadd d_X7_deaf_228, List.forall_mem_cons.mpr ⟨s_istore d_X7_deaf_229 (by decide), List.forall_mem_cons.mpr ⟨s_iinc d_X7_deaf_231 rfl (by decide), List.forall_mem_cons.mpr ⟨s_goto d_X7_deaf_234 (by decide), List.forall_mem_cons.mpr ⟨s_iload d_X7_deaf_237, List.forall_mem_cons.mpr ⟨s_istore d_X7_deaf_239 (by decide), List.forall_mem_cons.mpr ⟨s_iload d_X7_deaf_241, List.forall_mem_cons.mpr ⟨s_istore d_X7_deaf_243 (by decide), List.forall_mem_cons.mpr ⟨s_iload d_X7_deaf_245, List.forall_mem_cons.mpr ⟨s_if_eq d_X7_deaf_247 (by decide), List.forall_mem_cons.mpr ⟨s_iload d_X7_deaf_250, fun _ h => absurd h List.not_mem_nil⟩⟩⟩⟩⟩⟩⟩⟩⟩⟩⟩⟩
def t_X7_deaf_11 : List (Nat × QO) := [(252, o_il 10 254), (254, o_bz (fun x y => x - x / y * y) 255), (255, o_is 11 257), (257, o_il 10 259), (259, o_is 9 261), (261, o_il 11 263), (263, o_is 10 265), (265, o_goto 245), (268, o_il 6 270), (270, o_if (fun x => decide (x ≠ 0)) 281 273), (273, o_il 7 275), (275, o_il 9 277)]
theorem ts_X7_deaf_11 (sx : QX) : ∀ q ∈ t_X7_deaf_11, q_Snd sx RX7 cX7_deaf 13 (some .int) q.1 q.2 := List.forall_mem_cons.mpr ⟨s_iload d_X7_deaf_252, List.forall_mem_cons.mpr ⟨s_irem d_X7_deaf_254, List.forall_mem_cons.mpr ⟨s_istore d_X7_deaf_255 (by decide), List.forall_mem_cons.mpr ⟨s_iload d_X7_deaf_257, List.forall_mem_cons.mpr ⟨s_istore d_X7_deaf_259 (by decide), List.forall_mem_cons.mpr ⟨s_iload d_X7_deaf_261, List.forall_mem_cons.mpr ⟨s_istore d_X7_deaf_263 (by decide), List.forall_mem_cons.mpr ⟨s_goto d_X7_deaf_265 (by decide), List.forall_mem_cons.mpr ⟨s_iload d_X7_deaf_268, List.forall_mem_cons.mpr ⟨s_if_ne d_X7_deaf_270 (by decide), List.forall_mem_cons.mpr ⟨s_iload d_X7_deaf_273, List.forall_mem_cons.mpr ⟨s_iload d_X7_deaf_275, fun _ h => absurd h List.not_mem_nil⟩⟩⟩⟩⟩⟩⟩⟩⟩⟩⟩⟩
def t_X7_deaf_12 : List (Nat × QO) := [(277, o_bz (fun x y => x / y) 278), (278, o_goto 286), (281, o_il 8 283), (283, o_il 9 285), (285, o_bz (fun x y => x / y) 286), (286, o_ir false)]
theorem ts_X7_deaf_12 (sx : QX) : ∀ q ∈ t_X7_deaf_12, q_Snd sx RX7 cX7_deaf 13 (some .int) q.1 q.2 := List.forall_mem_cons.mpr ⟨s_idiv d_X7_deaf_277, List.forall_mem_cons.mpr ⟨s_goto d_X7_deaf_278 (by decide), List.forall_mem_cons.mpr ⟨s_iload d_X7_deaf_281, List.forall_mem_cons.mpr ⟨s_iload d_X7_deaf_283, List.forall_mem_cons.mpr ⟨s_idiv d_X7_deaf_285, List.forall_mem_cons.mpr ⟨s_ir d_X7_deaf_286 rfl, fun _ h => absurd h List.not_mem_nil⟩⟩⟩⟩⟩⟩
def t_X7_deaf (pc : Nat) : Option QO := cond (Nat.ble pc 130) (cond (Nat.ble pc 66) (cond (Nat.ble pc 21) (q_look (t_X7_deaf_0) pc) (cond (Nat.ble pc 47) (q_look (t_X7_deaf_1) pc) (q_look (t_X7_deaf_2) pc))) (cond (Nat.ble pc 88) (q_look (t_X7_deaf_3) pc) (cond (Nat.ble pc 112) (q_look (t_X7_deaf_4) pc) (q_look (t_X7_deaf_5) pc)))) (cond (Nat.ble pc 200) (cond (Nat.ble pc 158) (q_look (t_X7_deaf_6) pc) (cond (Nat.ble pc 181) (q_look (t_X7_deaf_7) pc) (q_look (t_X7_deaf_8) pc))) (cond (Nat.ble pc 250) (cond (Nat.ble pc 224) (q_look (t_X7_deaf_9) pc) (q_look (t_X7_deaf_10) pc)) (cond (Nat.ble pc 275) (q_look (t_X7_deaf_11) pc) (q_look (t_X7_deaf_12) pc))))
theorem ts_X7_deaf (sx : QX) (pc : Nat) : ∀ o, t_X7_deaf pc = some o → q_Snd sx RX7 cX7_deaf 13 (some .int) pc o := by
  unfold t_X7_deaf
  exact q_cb (q_cb (q_cb (q_look_all (ts_X7_deaf_0 sx)) (q_cb (q_look_all (ts_X7_deaf_1 sx)) (q_look_all (ts_X7_deaf_2 sx)))) (q_cb (q_look_all (ts_X7_deaf_3 sx)) (q_cb (q_look_all (ts_X7_deaf_4 sx)) (q_look_all (ts_X7_deaf_5 sx))))) (q_cb (q_cb (q_look_all (ts_X7_deaf_6 sx)) (q_cb (q_look_all (ts_X7_deaf_7 sx)) (q_look_all (ts_X7_deaf_8 sx)))) (q_cb (q_cb (q_look_all (ts_X7_deaf_9 sx)) (q_look_all (ts_X7_deaf_10 sx))) (q_cb (q_look_all (ts_X7_deaf_11 sx)) (q_look_all (ts_X7_deaf_12 sx)))))
theorem d_X7_manyHow_0 : decode cX7_manyHow 0 = .ok (.iconst 0, 1) := by decide +kernel
theorem d_X7_manyHow_1 : decode cX7_manyHow 1 = .ok (.istore_n 3, 1) := by decide +kernel
theorem d_X7_manyHow_2 : decode cX7_manyHow 2 = .ok (.iconst 0, 1) := by decide +kernel
theorem d_X7_manyHow_3 : decode cX7_manyHow 3 = .ok (.istore 4, 2) := by decide +kernel
theorem d_X7_manyHow_5 : decode cX7_manyHow 5 = .ok (.iload 4, 2) := by decide +kernel
theorem d_X7_manyHow_7 : decode cX7_manyHow 7 = .ok (.aload_n 0, 1) := by decide +kernel
theorem d_X7_manyHow_8 : decode cX7_manyHow 8 = .ok (.getfield 82, 3) := by decide +kernel
theorem d_X7_manyHow_11 : decode cX7_manyHow 11 = .ok (.if_icmp .ge 33, 3) := by decide +kernel
theorem d_X7_manyHow_14 : decode cX7_manyHow 14 = .ok (.iload_n 3, 1) := by decide +kernel
theorem d_X7_manyHow_15 : decode cX7_manyHow 15 = .ok (.aload_n 0, 1) := by decide +kernel
theorem d_X7_manyHow_16 : decode cX7_manyHow 16 = .ok (.getfield 7, 3) := by decide +kernel
theorem d_X7_manyHow_19 : decode cX7_manyHow 19 = .ok (.iload_n 1, 1) := by decide +kernel
theorem d_X7_manyHow_20 : decode cX7_manyHow 20 = .ok (.bipush 7, 2) := by decide +kernel
theorem d_X7_manyHow_22 : decode cX7_manyHow 22 = .ok (.iadd, 1) := by decide +kernel
theorem d_X7_manyHow_23 : decode cX7_manyHow 23 = .ok (.iload 4, 2) := by decide +kernel
theorem d_X7_manyHow_25 : decode cX7_manyHow 25 = .ok (.iadd, 1) := by decide +kernel
theorem d_X7_manyHow_26 : decode cX7_manyHow 26 = .ok (.iaload, 1) := by decide +kernel
theorem d_X7_manyHow_27 : decode cX7_manyHow 27 = .ok (.iload_n 2, 1) := by decide +kernel
theorem d_X7_manyHow_28 : decode cX7_manyHow 28 = .ok (.if_icmp .ne 7, 3) := by decide +kernel
theorem d_X7_manyHow_31 : decode cX7_manyHow 31 = .ok (.iconst 1, 1) := by decide +kernel
theorem d_X7_manyHow_32 : decode cX7_manyHow 32 = .ok (.goto 4, 3) := by decide +kernel
theorem d_X7_manyHow_35 : decode cX7_manyHow 35 = .ok (.iconst 0, 1) := by decide +kernel
theorem d_X7_manyHow_36 : decode cX7_manyHow 36 = .ok (.iadd, 1) := by decide +kernel
theorem d_X7_manyHow_37 : decode cX7_manyHow 37 = .ok (.istore_n 3, 1) := by decide +kernel
theorem d_X7_manyHow_38 : decode cX7_manyHow 38 = .ok (.iinc 4 1, 3) := by decide +kernel
theorem d_X7_manyHow_41 : decode cX7_manyHow 41 = .ok (.goto (-36), 3) := by decide +kernel
theorem d_X7_manyHow_44 : decode cX7_manyHow 44 = .ok (.iload_n 3, 1) := by decide +kernel
theorem d_X7_manyHow_45 : decode cX7_manyHow 45 = .ok (.ireturn, 1) := by decide +kernel
def t_X7_manyHow_0 : List (Nat × QO) := [(0, o_k 0 1), (1, o_is 3 2), (2, o_k 0 3), (3, o_is 4 5), (5, o_il 4 7), (7, o_al 0 8), (8, o_gf 7 3 11), (11, o_ic (fun x y => decide (y ≤ x)) 44 14), (14, o_il 3 15), (15, o_al 0 16), (16, o_gf 7 0 19), (19, o_il 1 20)]
theorem ts_X7_manyHow_0 (sx : QX) : ∀ q ∈ t_X7_manyHow_0, q_Snd sx RX7 cX7_manyHow 5 (some .int) q.1 q.2 := List.forall_mem_cons.mpr ⟨s_iconst d_X7_manyHow_0 rfl, List.forall_mem_cons.mpr ⟨s_istore_n d_X7_manyHow_1 rfl (by decide), List.forall_mem_cons.mpr ⟨s_iconst d_X7_manyHow_2 rfl, List.forall_mem_cons.mpr ⟨s_istore d_X7_manyHow_3 (by decide), List.forall_mem_cons.mpr ⟨s_iload d_X7_manyHow_5, List.forall_mem_cons.mpr ⟨s_aload_n d_X7_manyHow_7 rfl, List.forall_mem_cons.mpr ⟨s_gf d_X7_manyHow_8 rfl (by decide) n_X7 in_X7 rfl k_4_32, List.forall_mem_cons.mpr ⟨s_ic_ge d_X7_manyHow_11 (by decide), List.forall_mem_cons.mpr ⟨s_iload_n d_X7_manyHow_14 rfl, List.forall_mem_cons.mpr ⟨s_aload_n d_X7_manyHow_15 rfl, List.forall_mem_cons.mpr ⟨s_gf d_X7_manyHow_16 rfl (by decide) n_X7 in_X7 rfl k_4_29, List.forall_mem_cons.mpr ⟨s_iload_n d_X7_manyHow_19 rfl, fun _ h => absurd h List.not_mem_nil⟩⟩⟩⟩⟩⟩⟩⟩⟩⟩⟩⟩
def t_X7_manyHow_1 : List (Nat × QO) := [(20, o_k 7 22), (22, o_b (fun x y => x + y) 23), (23, o_il 4 25), (25, o_b (fun x y => x + y) 26), (26, o_iald 27), (27, o_il 2 28), (28, o_ic (fun x y => decide (x ≠ y)) 35 31), (31, o_k 1 32), (32, o_goto 36), (35, o_k 0 36), (36, o_b (fun x y => x + y) 37), (37, o_is 3 38)]
theorem ts_X7_manyHow_1 (sx : QX) : ∀ q ∈ t_X7_manyHow_1, q_Snd sx RX7 cX7_manyHow 5 (some .int) q.1 q.2 := List.forall_mem_cons.mpr ⟨s_bipush d_X7_manyHow_20 rfl, List.forall_mem_cons.mpr ⟨s_iadd d_X7_manyHow_22, List.forall_mem_cons.mpr ⟨s_iload d_X7_manyHow_23, List.forall_mem_cons.mpr ⟨s_iadd d_X7_manyHow_25, List.forall_mem_cons.mpr ⟨s_iald d_X7_manyHow_26, List.forall_mem_cons.mpr ⟨s_iload_n d_X7_manyHow_27 rfl, List.forall_mem_cons.mpr ⟨s_ic_ne d_X7_manyHow_28 (by decide), List.forall_mem_cons.mpr ⟨s_iconst d_X7_manyHow_31 rfl, List.forall_mem_cons.mpr ⟨s_goto d_X7_manyHow_32 (by decide), List.forall_mem_cons.mpr ⟨s_iconst d_X7_manyHow_35 rfl, List.forall_mem_cons.mpr ⟨s_iadd d_X7_manyHow_36, List.forall_mem_cons.mpr ⟨s_istore_n d_X7_manyHow_37 rfl (by decide), fun _ h => absurd h List.not_mem_nil⟩⟩⟩⟩⟩⟩⟩⟩⟩⟩⟩⟩
def t_X7_manyHow_2 : List (Nat × QO) := [(38, o_inc 4 1 41), (41, o_goto 5), (44, o_il 3 45), (45, o_ir false)]
theorem ts_X7_manyHow_2 (sx : QX) : ∀ q ∈ t_X7_manyHow_2, q_Snd sx RX7 cX7_manyHow 5 (some .int) q.1 q.2 := List.forall_mem_cons.mpr ⟨s_iinc d_X7_manyHow_38 rfl (by decide), List.forall_mem_cons.mpr ⟨s_goto d_X7_manyHow_41 (by decide), List.forall_mem_cons.mpr ⟨s_iload_n d_X7_manyHow_44 rfl, List.forall_mem_cons.mpr ⟨s_ir d_X7_manyHow_45 rfl, fun _ h => absurd h List.not_mem_nil⟩⟩⟩⟩
def t_X7_manyHow (pc : Nat) : Option QO := cond (Nat.ble pc 19) (q_look (t_X7_manyHow_0) pc) (cond (Nat.ble pc 37) (q_look (t_X7_manyHow_1) pc) (q_look (t_X7_manyHow_2) pc))
theorem ts_X7_manyHow (sx : QX) (pc : Nat) : ∀ o, t_X7_manyHow pc = some o → q_Snd sx RX7 cX7_manyHow 5 (some .int) pc o := by
  unfold t_X7_manyHow
  exact q_cb (q_look_all (ts_X7_manyHow_0 sx)) (q_cb (q_look_all (ts_X7_manyHow_1 sx)) (q_look_all (ts_X7_manyHow_2 sx)))
theorem d_X7_doesBy_0 : decode cX7_doesBy 0 = .ok (.iload_n 1, 1) := by decide +kernel
theorem d_X7_doesBy_1 : decode cX7_doesBy 1 = .ok (.bipush 8, 2) := by decide +kernel
theorem d_X7_doesBy_3 : decode cX7_doesBy 3 = .ok (.idiv, 1) := by decide +kernel
theorem d_X7_doesBy_4 : decode cX7_doesBy 4 = .ok (.aload_n 0, 1) := by decide +kernel
theorem d_X7_doesBy_5 : decode cX7_doesBy 5 = .ok (.getfield 82, 3) := by decide +kernel
theorem d_X7_doesBy_8 : decode cX7_doesBy 8 = .ok (.irem, 1) := by decide +kernel
theorem d_X7_doesBy_9 : decode cX7_doesBy 9 = .ok (.istore_n 2, 1) := by decide +kernel
theorem d_X7_doesBy_10 : decode cX7_doesBy 10 = .ok (.iload_n 1, 1) := by decide +kernel
theorem d_X7_doesBy_11 : decode cX7_doesBy 11 = .ok (.bipush 64, 2) := by decide +kernel
theorem d_X7_doesBy_13 : decode cX7_doesBy 13 = .ok (.idiv, 1) := by decide +kernel
theorem d_X7_doesBy_14 : decode cX7_doesBy 14 = .ok (.aload_n 0, 1) := by decide +kernel
theorem d_X7_doesBy_15 : decode cX7_doesBy 15 = .ok (.getfield 92, 3) := by decide +kernel
theorem d_X7_doesBy_18 : decode cX7_doesBy 18 = .ok (.irem, 1) := by decide +kernel
theorem d_X7_doesBy_19 : decode cX7_doesBy 19 = .ok (.istore_n 3, 1) := by decide +kernel
theorem d_X7_doesBy_20 : decode cX7_doesBy 20 = .ok (.iload_n 1, 1) := by decide +kernel
theorem d_X7_doesBy_21 : decode cX7_doesBy 21 = .ok (.bipush 8, 2) := by decide +kernel
theorem d_X7_doesBy_23 : decode cX7_doesBy 23 = .ok (.irem, 1) := by decide +kernel
theorem d_X7_doesBy_24 : decode cX7_doesBy 24 = .ok (.istore 4, 2) := by decide +kernel
theorem d_X7_doesBy_26 : decode cX7_doesBy 26 = .ok (.iload 4, 2) := by decide +kernel
theorem d_X7_doesBy_28 : decode cX7_doesBy 28 = .ok (.iconst 5, 1) := by decide +kernel
theorem d_X7_doesBy_29 : decode cX7_doesBy 29 = .ok (.if_icmp .ge 35, 3) := by decide +kernel
theorem d_X7_doesBy_32 : decode cX7_doesBy 32 = .ok (.aload_n 0, 1) := by decide +kernel
theorem d_X7_doesBy_33 : decode cX7_doesBy 33 = .ok (.bipush 83, 2) := by decide +kernel
theorem d_X7_doesBy_35 : decode cX7_doesBy 35 = .ok (.iload_n 3, 1) := by decide +kernel
theorem d_X7_doesBy_36 : decode cX7_doesBy 36 = .ok (.iload_n 2, 1) := by decide +kernel
theorem d_X7_doesBy_37 : decode cX7_doesBy 37 = .ok (.invokevirtual 205, 3) := by decide +kernel
theorem d_X7_doesBy_40 : decode cX7_doesBy 40 = .ok (.ifCond .eq 110, 3) := by decide +kernel
theorem d_X7_doesBy_43 : decode cX7_doesBy 43 = .ok (.aload_n 0, 1) := by decide +kernel
theorem d_X7_doesBy_44 : decode cX7_doesBy 44 = .ok (.bipush 83, 2) := by decide +kernel
theorem d_X7_doesBy_46 : decode cX7_doesBy 46 = .ok (.iload_n 3, 1) := by decide +kernel
theorem d_X7_doesBy_47 : decode cX7_doesBy 47 = .ok (.iload_n 2, 1) := by decide +kernel
theorem d_X7_doesBy_48 : decode cX7_doesBy 48 = .ok (.iload_n 1, 1) := by decide +kernel
theorem d_X7_doesBy_49 : decode cX7_doesBy 49 = .ok (.sipush 256, 3) := by decide +kernel
theorem d_X7_doesBy_52 : decode cX7_doesBy 52 = .ok (.idiv, 1) := by decide +kernel
theorem d_X7_doesBy_53 : decode cX7_doesBy 53 = .ok (.aload_n 0, 1) := by decide +kernel
theorem d_X7_doesBy_54 : decode cX7_doesBy 54 = .ok (.getfield 89, 3) := by decide +kernel
theorem d_X7_doesBy_57 : decode cX7_doesBy 57 = .ok (.irem, 1) := by decide +kernel
theorem d_X7_doesBy_58 : decode cX7_doesBy 58 = .ok (.invokevirtual 211, 3) := by decide +kernel
theorem d_X7_doesBy_61 : decode cX7_doesBy 61 = .ok (.goto 89, 3) := by decide +kernel
theorem d_X7_doesBy_64 : decode cX7_doesBy 64 = .ok (.iload 4, 2) := by decide +kernel
theorem d_X7_doesBy_66 : decode cX7_doesBy 66 = .ok (.iconst 5, 1) := by decide +kernel
theorem d_X7_doesBy_67 : decode cX7_doesBy 67 = .ok (.if_icmp .ne 39, 3) := by decide +kernel
theorem d_X7_doesBy_70 : decode cX7_doesBy 70 = .ok (.aload_n 0, 1) := by decide +kernel
theorem d_X7_doesBy_71 : decode cX7_doesBy 71 = .ok (.bipush 83, 2) := by decide +kernel
theorem d_X7_doesBy_73 : decode cX7_doesBy 73 = .ok (.iload_n 2, 1) := by decide +kernel
theorem d_X7_doesBy_74 : decode cX7_doesBy 74 = .ok (.invokevirtual 189, 3) := by decide +kernel
theorem d_X7_doesBy_77 : decode cX7_doesBy 77 = .ok (.ifCond .eq 73, 3) := by decide +kernel
theorem d_X7_doesBy_80 : decode cX7_doesBy 80 = .ok (.aload_n 0, 1) := by decide +kernel
theorem d_X7_doesBy_81 : decode cX7_doesBy 81 = .ok (.getfield 7, 3) := by decide +kernel
theorem d_X7_doesBy_84 : decode cX7_doesBy 84 = .ok (.sipush 138, 3) := by decide +kernel
theorem d_X7_doesBy_87 : decode cX7_doesBy 87 = .ok (.bipush 6, 2) := by decide +kernel
theorem d_X7_doesBy_89 : decode cX7_doesBy 89 = .ok (.iload_n 3, 1) := by decide +kernel
theorem d_X7_doesBy_90 : decode cX7_doesBy 90 = .ok (.imul, 1) := by decide +kernel
theorem d_X7_doesBy_91 : decode cX7_doesBy 91 = .ok (.iadd, 1) := by decide +kernel
theorem d_X7_doesBy_92 : decode cX7_doesBy 92 = .ok (.iload_n 2, 1) := by decide +kernel
theorem d_X7_doesBy_93 : decode cX7_doesBy 93 = .ok (.iadd, 1) := by decide +kernel
theorem d_X7_doesBy_94 : decode cX7_doesBy 94 = .ok (.iload_n 1, 1) := by decide +kernel
theorem d_X7_doesBy_95 : decode cX7_doesBy 95 = .ok (.sipush 256, 3) := by decide +kernel
theorem d_X7_doesBy_98 : decode cX7_doesBy 98 = .ok (.idiv, 1) := by decide +kernel
theorem d_X7_doesBy_99 : decode cX7_doesBy 99 = .ok (.bipush 8, 2) := by decide +kernel
theorem d_X7_doesBy_101 : decode cX7_doesBy 101 = .ok (.irem, 1) := by decide +kernel
theorem d_X7_doesBy_102 : decode cX7_doesBy 102 = .ok (.iastore, 1) := by decide +kernel
theorem d_X7_doesBy_103 : decode cX7_doesBy 103 = .ok (.goto 47, 3) := by decide +kernel
theorem d_X7_doesBy_106 : decode cX7_doesBy 106 = .ok (.iload 4, 2) := by decide +kernel
theorem d_X7_doesBy_108 : decode cX7_doesBy 108 = .ok (.bipush 6, 2) := by decide +kernel
theorem d_X7_doesBy_110 : decode cX7_doesBy 110 = .ok (.if_icmp .ne 34, 3) := by decide +kernel
theorem d_X7_doesBy_113 : decode cX7_doesBy 113 = .ok (.aload_n 0, 1) := by decide +kernel
theorem d_X7_doesBy_114 : decode cX7_doesBy 114 = .ok (.getfield 7, 3) := by decide +kernel
theorem d_X7_doesBy_117 : decode cX7_doesBy 117 = .ok (.bipush 90, 2) := by decide +kernel
theorem d_X7_doesBy_119 : decode cX7_doesBy 119 = .ok (.iload_n 2, 1) := by decide +kernel
theorem d_X7_doesBy_120 : decode cX7_doesBy 120 = .ok (.iadd, 1) := by decide +kernel
theorem d_X7_doesBy_121 : decode cX7_doesBy 121 = .ok (.iaload, 1) := by decide +kernel
theorem d_X7_doesBy_122 : decode cX7_doesBy 122 = .ok (.iconst 1, 1) := by decide +kernel
theorem d_X7_doesBy_123 : decode cX7_doesBy 123 = .ok (.if_icmp .ne 27, 3) := by decide +kernel
theorem d_X7_doesBy_126 : decode cX7_doesBy 126 = .ok (.aload_n 0, 1) := by decide +kernel
theorem d_X7_doesBy_127 : decode cX7_doesBy 127 = .ok (.bipush 83, 2) := by decide +kernel
theorem d_X7_doesBy_129 : decode cX7_doesBy 129 = .ok (.iload_n 2, 1) := by decide +kernel
theorem d_X7_doesBy_130 : decode cX7_doesBy 130 = .ok (.iload_n 1, 1) := by decide +kernel
theorem d_X7_doesBy_131 : decode cX7_doesBy 131 = .ok (.sipush 256, 3) := by decide +kernel
theorem d_X7_doesBy_134 : decode cX7_doesBy 134 = .ok (.idiv, 1) := by decide +kernel
theorem d_X7_doesBy_135 : decode cX7_doesBy 135 = .ok (.bipush 8, 2) := by decide +kernel
theorem d_X7_doesBy_137 : decode cX7_doesBy 137 = .ok (.irem, 1) := by decide +kernel
theorem d_X7_doesBy_138 : decode cX7_doesBy 138 = .ok (.invokevirtual 217, 3) := by decide +kernel
theorem d_X7_doesBy_141 : decode cX7_doesBy 141 = .ok (.goto 9, 3) := by decide +kernel
theorem d_X7_doesBy_144 : decode cX7_doesBy 144 = .ok (.aload_n 0, 1) := by decide +kernel
theorem d_X7_doesBy_145 : decode cX7_doesBy 145 = .ok (.bipush 83, 2) := by decide +kernel
theorem d_X7_doesBy_147 : decode cX7_doesBy 147 = .ok (.invokevirtual 223, 3) := by decide +kernel
theorem d_X7_doesBy_150 : decode cX7_doesBy 150 = .ok (.return_, 1) := by decide +kernel
def t_X7_doesBy_0 : List (Nat × QO) := [(0, o_il 1 1), (1, o_k 8 3), (3, o_bz (fun x y => x / y) 4), (4, o_al 0 5), (5, o_gf 7 3 8), (8, o_bz (fun x y => x - x / y * y) 9), (9, o_is 2 10), (10, o_il 1 11), (11, o_k 64 13), (13, o_bz (fun x y => x / y) 14), (14, o_al 0 15), (15, o_gf 7 8 18)]
theorem ts_X7_doesBy_0 (sx : QX) : ∀ q ∈ t_X7_doesBy_0, q_Snd sx RX7 cX7_doesBy 5 none q.1 q.2 := List.forall_mem_cons.mpr ⟨s_iload_n d_X7_doesBy_0 rfl, List.forall_mem_cons.mpr ⟨s_bipush d_X7_doesBy_1 rfl, List.forall_mem_cons.mpr ⟨s_idiv d_X7_doesBy_3, List.forall_mem_cons.mpr ⟨s_aload_n d_X7_doesBy_4 rfl, List.forall_mem_cons.mpr ⟨s_gf d_X7_doesBy_5 rfl (by decide) n_X7 in_X7 rfl k_4_32, List.forall_mem_cons.mpr ⟨s_irem d_X7_doesBy_8, List.forall_mem_cons.mpr ⟨s_istore_n d_X7_doesBy_9 rfl (by decide), List.forall_mem_cons.mpr ⟨s_iload_n d_X7_doesBy_10 rfl, List.forall_mem_cons.mpr ⟨s_bipush d_X7_doesBy_11 rfl, List.forall_mem_cons.mpr ⟨s_idiv d_X7_doesBy_13, List.forall_mem_cons.mpr ⟨s_aload_n d_X7_doesBy_14 rfl, List.forall_mem_cons.mpr ⟨s_gf d_X7_doesBy_15 rfl (by decide) n_X7 in_X7 rfl k_4_37, fun _ h => absurd h List.not_mem_nil⟩⟩⟩⟩⟩⟩⟩⟩⟩⟩⟩⟩
def t_X7_doesBy_1 : List (Nat × QO) := [(18, o_bz (fun x y => x - x / y * y) 19), (19, o_is 3 20), (20, o_il 1 21), (21, o_k 8 23), (23, o_bz (fun x y => x - x / y * y) 24), (24, o_is 4 26), (26, o_il 4 28), (28, o_k 5 29), (29, o_ic (fun x y => decide (y ≤ x)) 64 32), (32, o_al 0 33), (33, o_k 83 35), (35, o_il 3 36)]
theorem ts_X7_doesBy_1 (sx : QX) : ∀ q ∈ t_X7_doesBy_1, q_Snd sx RX7 cX7_doesBy 5 none q.1 q.2 := List.forall_mem_cons.mpr ⟨s_irem d_X7_doesBy_18, List.forall_mem_cons.mpr ⟨s_istore_n d_X7_doesBy_19 rfl (by decide), List.forall_mem_cons.mpr ⟨s_iload_n d_X7_doesBy_20 rfl, List.forall_mem_cons.mpr ⟨s_bipush d_X7_doesBy_21 rfl, List.forall_mem_cons.mpr ⟨s_irem d_X7_doesBy_23, List.forall_mem_cons.mpr ⟨s_istore d_X7_doesBy_24 (by decide), List.forall_mem_cons.mpr ⟨s_iload d_X7_doesBy_26, List.forall_mem_cons.mpr ⟨s_iconst d_X7_doesBy_28 rfl, List.forall_mem_cons.mpr ⟨s_ic_ge d_X7_doesBy_29 (by decide), List.forall_mem_cons.mpr ⟨s_aload_n d_X7_doesBy_32 rfl, List.forall_mem_cons.mpr ⟨s_bipush d_X7_doesBy_33 rfl, List.forall_mem_cons.mpr ⟨s_iload_n d_X7_doesBy_35 rfl, fun _ h => absurd h List.not_mem_nil⟩⟩⟩⟩⟩⟩⟩⟩⟩⟩⟩⟩
def t_X7_doesBy_2 : List (Nat × QO) := [(36, o_il 2 37), (37, o_cV 1 7 143 4 4 40), (40, o_if (fun x => decide (x = 0)) 150 43), (43, o_al 0 44), (44, o_k 83 46), (46, o_il 3 47), (47, o_il 2 48), (48, o_il 1 49), (49, o_k 256 52), (52, o_bz (fun x y => x / y) 53), (53, o_al 0 54), (54, o_gf 7 6 57)]
theorem ts_X7_doesBy_2 (sx : QX) : ∀ q ∈ t_X7_doesBy_2, q_Snd sx RX7 cX7_doesBy 5 none q.1 q.2 := List.forall_mem_cons.mpr ⟨s_iload_n d_X7_doesBy_36 rfl, List.forall_mem_cons.mpr ⟨s_cV (T := TX7) (N := 30) rfl d_X7_doesBy_37 rfl k_4_238 k_5_0 k_0_39 k_1_12 k_5_1 ⟨by decide, by decide⟩ (by decide +kernel) (by decide), List.forall_mem_cons.mpr ⟨s_if_eq d_X7_doesBy_40 (by decide), List.forall_mem_cons.mpr ⟨s_aload_n d_X7_doesBy_43 rfl, List.forall_mem_cons.mpr ⟨s_bipush d_X7_doesBy_44 rfl, List.forall_mem_cons.mpr ⟨s_iload_n d_X7_doesBy_46 rfl, List.forall_mem_cons.mpr ⟨s_iload_n d_X7_doesBy_47 rfl, List.forall_mem_cons.mpr ⟨s_iload_n d_X7_doesBy_48 rfl, List.forall_mem_cons.mpr ⟨s_sipush d_X7_doesBy_49 rfl, List.forall_mem_cons.mpr ⟨s_idiv d_X7_doesBy_52, List.forall_mem_cons.mpr ⟨s_aload_n d_X7_doesBy_53 rfl, List.forall_mem_cons.mpr ⟨s_gf d_X7_doesBy_54 rfl (by decide) n_X7 in_X7 rfl k_4_35, fun _ h => absurd h List.not_mem_nil⟩⟩⟩⟩⟩⟩⟩⟩⟩⟩⟩⟩
def t_X7_doesBy_3 : List (Nat × QO) := [(57, o_bz (fun x y => x - x / y * y) 58), (58, o_cV 0 7 141 6 5 61), (61, o_goto 150), (64, o_il 4 66), (66, o_k 5 67), (67, o_ic (fun x y => decide (x ≠ y)) 106 70), (70, o_al 0 71), (71, o_k 83 73), (73, o_il 2 74), (74, o_cV 1 7 138 3 3 77), (77, o_if (fun x => decide (x = 0)) 150 80), (80, o_al 0 81)]
theorem ts_X7_doesBy_3 (sx : QX) : ∀ q ∈ t_X7_doesBy_3, q_Snd sx RX7 cX7_doesBy 5 none q.1 q.2 := List.forall_mem_cons.mpr ⟨s_irem d_X7_doesBy_57, List.forall_mem_cons.mpr ⟨s_cV (T := TX7) (N := 30) rfl d_X7_doesBy_58 rfl k_5_14 k_5_16 k_0_43 k_1_12 k_5_17 ⟨by decide, by decide⟩ (by decide +kernel) (by decide), List.forall_mem_cons.mpr ⟨s_goto d_X7_doesBy_61 (by decide), List.forall_mem_cons.mpr ⟨s_iload d_X7_doesBy_64, List.forall_mem_cons.mpr ⟨s_iconst d_X7_doesBy_66 rfl, List.forall_mem_cons.mpr ⟨s_ic_ne d_X7_doesBy_67 (by decide), List.forall_mem_cons.mpr ⟨s_aload_n d_X7_doesBy_70 rfl, List.forall_mem_cons.mpr ⟨s_bipush d_X7_doesBy_71 rfl, List.forall_mem_cons.mpr ⟨s_iload_n d_X7_doesBy_73 rfl, List.forall_mem_cons.mpr ⟨s_cV (T := TX7) (N := 30) rfl d_X7_doesBy_74 rfl k_5_2 k_5_4 k_0_40 k_1_12 k_5_5 ⟨by decide, by decide⟩ (by decide +kernel) (by decide), List.forall_mem_cons.mpr ⟨s_if_eq d_X7_doesBy_77 (by decide), List.forall_mem_cons.mpr ⟨s_aload_n d_X7_doesBy_80 rfl, fun _ h => absurd h List.not_mem_nil⟩⟩⟩⟩⟩⟩⟩⟩⟩⟩⟩⟩
def t_X7_doesBy_4 : List (Nat × QO) := [(81, o_gf 7 0 84), (84, o_k 138 87), (87, o_k 6 89), (89, o_il 3 90), (90, o_b (fun x y => x * y) 91), (91, o_b (fun x y => x + y) 92), (92, o_il 2 93), (93, o_b (fun x y => x + y) 94), (94, o_il 1 95), (95, o_k 256 98), (98, o_bz (fun x y => x / y) 99), (99, o_k 8 101)]
theorem ts_X7_doesBy_4 (sx : QX) : ∀ q ∈ t_X7_doesBy_4, q_Snd sx RX7 cX7_doesBy 5 none q.1 q.2 := List.forall_mem_cons.mpr ⟨s_gf d_X7_doesBy_81 rfl (by decide) n_X7 in_X7 rfl k_4_29, List.forall_mem_cons.mpr ⟨s_sipush d_X7_doesBy_84 rfl, List.forall_mem_cons.mpr ⟨s_bipush d_X7_doesBy_87 rfl, List.forall_mem_cons.mpr ⟨s_iload_n d_X7_doesBy_89 rfl, List.forall_mem_cons.mpr ⟨s_imul d_X7_doesBy_90, List.forall_mem_cons.mpr ⟨s_iadd d_X7_doesBy_91, List.forall_mem_cons.mpr ⟨s_iload_n d_X7_doesBy_92 rfl, List.forall_mem_cons.mpr ⟨s_iadd d_X7_doesBy_93, List.forall_mem_cons.mpr ⟨s_iload_n d_X7_doesBy_94 rfl, List.forall_mem_cons.mpr ⟨s_sipush d_X7_doesBy_95 rfl, List.forall_mem_cons.mpr ⟨s_idiv d_X7_doesBy_98, List.forall_mem_cons.mpr ⟨s_bipush d_X7_doesBy_99 rfl, fun _ h => absurd h List.not_mem_nil⟩⟩⟩⟩⟩⟩⟩⟩⟩⟩⟩⟩
def t_X7_doesBy_5 : List (Nat × QO) := [(101, o_bz (fun x y => x - x / y * y) 102), (102, o_iast 103), (103, o_goto 150), (106, o_il 4 108), (108, o_k 6 110), (110, o_ic (fun x y => decide (x ≠ y)) 144 113), (113, o_al 0 114), (114, o_gf 7 0 117), (117, o_k 90 119), (119, o_il 2 120), (120, o_b (fun x y => x + y) 121), (121, o_iald 122)]
theorem ts_X7_doesBy_5 (sx : QX) : ∀ q ∈ t_X7_doesBy_5, q_Snd sx RX7 cX7_doesBy 5 none q.1 q.2 := List.forall_mem_cons.mpr ⟨s_irem d_X7_doesBy_101, List.forall_mem_cons.mpr ⟨s_iast d_X7_doesBy_102, List.forall_mem_cons.mpr ⟨s_goto d_X7_doesBy_103 (by decide), List.forall_mem_cons.mpr ⟨s_iload d_X7_doesBy_106, List.forall_mem_cons.mpr ⟨s_bipush d_X7_doesBy_108 rfl, List.forall_mem_cons.mpr ⟨s_ic_ne d_X7_doesBy_110 (by decide), List.forall_mem_cons.mpr ⟨s_aload_n d_X7_doesBy_113 rfl, List.forall_mem_cons.mpr ⟨s_gf d_X7_doesBy_114 rfl (by decide) n_X7 in_X7 rfl k_4_29, List.forall_mem_cons.mpr ⟨s_bipush d_X7_doesBy_117 rfl, List.forall_mem_cons.mpr ⟨s_iload_n d_X7_doesBy_119 rfl, List.forall_mem_cons.mpr ⟨s_iadd d_X7_doesBy_120, List.forall_mem_cons.mpr ⟨s_iald d_X7_doesBy_121, fun _ h => absurd h List.not_mem_nil⟩⟩⟩⟩⟩⟩⟩⟩⟩⟩⟩⟩
def t_X7_doesBy_6 : List (Nat × QO) := [(122, o_k 1 123), (123, o_ic (fun x y => decide (x ≠ y)) 150 126), (126, o_al 0 127), (127, o_k 83 129), (129, o_il 2 130), (130, o_il 1 131), (131, o_k 256 134), (134, o_bz (fun x y => x / y) 135), (135, o_k 8 137), (137, o_bz (fun x y => x - x / y * y) 138), (138, o_cV 0 7 145 4 4 141), (141, o_goto 150)]
theorem ts_X7_doesBy_6 (sx : QX) : ∀ q ∈ t_X7_doesBy_6, q_Snd sx RX7 cX7_doesBy 5 none q.1 q.2 := List.forall_mem_cons.mpr ⟨s_iconst d_X7_doesBy_122 rfl, List.forall_mem_cons.mpr ⟨s_ic_ne d_X7_doesBy_123 (by decide), List.forall_mem_cons.mpr ⟨s_aload_n d_X7_doesBy_126 rfl, List.forall_mem_cons.mpr ⟨s_bipush d_X7_doesBy_127 rfl, List.forall_mem_cons.mpr ⟨s_iload_n d_X7_doesBy_129 rfl, List.forall_mem_cons.mpr ⟨s_iload_n d_X7_doesBy_130 rfl, List.forall_mem_cons.mpr ⟨s_sipush d_X7_doesBy_131 rfl, List.forall_mem_cons.mpr ⟨s_idiv d_X7_doesBy_134, List.forall_mem_cons.mpr ⟨s_bipush d_X7_doesBy_135 rfl, List.forall_mem_cons.mpr ⟨s_irem d_X7_doesBy_137, List.forall_mem_cons.mpr ⟨s_cV (T := TX7) (N := 30) rfl d_X7_doesBy_138 rfl k_5_35 k_5_37 k_0_46 k_1_12 k_5_38 ⟨by decide, by decide⟩ (by decide +kernel) (by decide), List.forall_mem_cons.mpr ⟨s_goto d_X7_doesBy_141 (by decide), fun _ h => absurd h List.not_mem_nil⟩⟩⟩⟩⟩⟩⟩⟩⟩⟩⟩⟩
def t_X7_doesBy_7 : List (Nat × QO) := [(144, o_al 0 145), (145, o_k 83 147), (147, o_cV 0 7 142 3 2 150), (150, o_vr)]
theorem ts_X7_doesBy_7 (sx : QX) : ∀ q ∈ t_X7_doesBy_7, q_Snd sx RX7 cX7_doesBy 5 none q.1 q.2 := List.forall_mem_cons.mpr ⟨s_aload_n d_X7_doesBy_144 rfl, List.forall_mem_cons.mpr ⟨s_bipush d_X7_doesBy_145 rfl, List.forall_mem_cons.mpr ⟨s_cV (T := TX7) (N := 30) rfl d_X7_doesBy_147 rfl k_5_48 k_5_50 k_0_48 k_1_12 k_5_51 ⟨by decide, by decide⟩ (by decide +kernel) (by decide), List.forall_mem_cons.mpr ⟨s_vr d_X7_doesBy_150 rfl, fun _ h => absurd h List.not_mem_nil⟩⟩⟩⟩
def t_X7_doesBy (pc : Nat) : Option QO := cond (Nat.ble pc 80) (cond (Nat.ble pc 35) (cond (Nat.ble pc 15) (q_look (t_X7_doesBy_0) pc) (q_look (t_X7_doesBy_1) pc)) (cond (Nat.ble pc 54) (q_look (t_X7_doesBy_2) pc) (q_look (t_X7_doesBy_3) pc))) (cond (Nat.ble pc 121) (cond (Nat.ble pc 99) (q_look (t_X7_doesBy_4) pc) (q_look (t_X7_doesBy_5) pc)) (cond (Nat.ble pc 141) (q_look (t_X7_doesBy_6) pc) (q_look (t_X7_doesBy_7) pc)))
theorem ts_X7_doesBy (sx : QX) (pc : Nat) : ∀ o, t_X7_doesBy pc = some o → q_Snd sx RX7 cX7_doesBy 5 none pc o := by
  unfold t_X7_doesBy
  exact q_cb (q_cb (q_cb (q_look_all (ts_X7_doesBy_0 sx)) (q_look_all (ts_X7_doesBy_1 sx))) (q_cb (q_look_all (ts_X7_doesBy_2 sx)) (q_look_all (ts_X7_doesBy_3 sx)))) (q_cb (q_cb (q_look_all (ts_X7_doesBy_4 sx)) (q_look_all (ts_X7_doesBy_5 sx))) (q_cb (q_look_all (ts_X7_doesBy_6 sx)) (q_look_all (ts_X7_doesBy_7 sx))))
theorem d_X7_year_0 : decode cX7_year 0 = .ok (.iload_n 1, 1) := by decide +kernel
theorem d_X7_year_1 : decode cX7_year 1 = .ok (.i2l, 1) := by decide +kernel
theorem d_X7_year_2 : decode cX7_year 2 = .ok (.lconst 0, 1) := by decide +kernel
theorem d_X7_year_3 : decode cX7_year 3 = .ok (.ldc2_w 266, 3) := by decide +kernel
theorem d_X7_year_6 : decode cX7_year 6 = .ok (.invokestatic 85, 3) := by decide +kernel
theorem d_X7_year_9 : decode cX7_year 9 = .ok (.ifCond .eq 25, 3) := by decide +kernel
theorem d_X7_year_12 : decode cX7_year 12 = .ok (.iload_n 2, 1) := by decide +kernel
theorem d_X7_year_13 : decode cX7_year 13 = .ok (.i2l, 1) := by decide +kernel
theorem d_X7_year_14 : decode cX7_year 14 = .ok (.lconst 1, 1) := by decide +kernel
theorem d_X7_year_15 : decode cX7_year 15 = .ok (.ldc2_w 268, 3) := by decide +kernel
theorem d_X7_year_18 : decode cX7_year 18 = .ok (.invokestatic 85, 3) := by decide +kernel
theorem d_X7_year_21 : decode cX7_year 21 = .ok (.ifCond .eq 13, 3) := by decide +kernel
theorem d_X7_year_24 : decode cX7_year 24 = .ok (.iload_n 3, 1) := by decide +kernel
theorem d_X7_year_25 : decode cX7_year 25 = .ok (.i2l, 1) := by decide +kernel
theorem d_X7_year_26 : decode cX7_year 26 = .ok (.lconst 0, 1) := by decide +kernel
theorem d_X7_year_27 : decode cX7_year 27 = .ok (.lconst 1, 1) := by decide +kernel
theorem d_X7_year_28 : decode cX7_year 28 = .ok (.invokestatic 85, 3) := by decide +kernel
theorem d_X7_year_31 : decode cX7_year 31 = .ok (.ifCond .ne 5, 3) := by decide +kernel
theorem d_X7_year_34 : decode cX7_year 34 = .ok (.iconst (-1), 1) := by decide +kernel
theorem d_X7_year_35 : decode cX7_year 35 = .ok (.ireturn, 1) := by decide +kernel
theorem d_X7_year_36 : decode cX7_year 36 = .ok (.aload_n 0, 1) := by decide +kernel
theorem d_X7_year_37 : decode cX7_year 37 = .ok (.invokevirtual 247, 3) := by decide +kernel
theorem d_X7_year_40 : decode cX7_year 40 = .ok (.iconst 0, 1) := by decide +kernel
theorem d_X7_year_41 : decode cX7_year 41 = .ok (.istore 4, 2) := by decide +kernel
theorem d_X7_year_43 : decode cX7_year 43 = .ok (.iload 4, 2) := by decide +kernel
theorem d_X7_year_45 : decode cX7_year 45 = .ok (.iload_n 2, 1) := by decide +kernel
theorem d_X7_year_46 : decode cX7_year 46 = .ok (.if_icmp .ge 41, 3) := by decide +kernel
theorem d_X7_year_49 : decode cX7_year 49 = .ok (.ldc2_w 270, 3) := by decide +kernel
theorem d_X7_year_52 : decode cX7_year 52 = .ok (.iload_n 1, 1) := by decide +kernel
theorem d_X7_year_53 : decode cX7_year 53 = .ok (.i2l, 1) := by decide +kernel
theorem d_X7_year_54 : decode cX7_year 54 = .ok (.lmul, 1) := by decide +kernel
theorem d_X7_year_55 : decode cX7_year 55 = .ok (.ldc2_w 272, 3) := by decide +kernel
theorem d_X7_year_58 : decode cX7_year 58 = .ok (.iload 4, 2) := by decide +kernel
theorem d_X7_year_60 : decode cX7_year 60 = .ok (.i2l, 1) := by decide +kernel
theorem d_X7_year_61 : decode cX7_year 61 = .ok (.lmul, 1) := by decide +kernel
theorem d_X7_year_62 : decode cX7_year 62 = .ok (.ladd, 1) := by decide +kernel
theorem d_X7_year_63 : decode cX7_year 63 = .ok (.lconst 1, 1) := by decide +kernel
theorem d_X7_year_64 : decode cX7_year 64 = .ok (.ladd, 1) := by decide +kernel
theorem d_X7_year_65 : decode cX7_year 65 = .ok (.lstore 5, 2) := by decide +kernel
theorem d_X7_year_67 : decode cX7_year 67 = .ok (.aload_n 0, 1) := by decide +kernel
theorem d_X7_year_68 : decode cX7_year 68 = .ok (.lload 5, 2) := by decide +kernel
theorem d_X7_year_70 : decode cX7_year 70 = .ok (.lload 5, 2) := by decide +kernel
theorem d_X7_year_72 : decode cX7_year 72 = .ok (.lmul, 1) := by decide +kernel
theorem d_X7_year_73 : decode cX7_year 73 = .ok (.ldc2_w 274, 3) := by decide +kernel
theorem d_X7_year_76 : decode cX7_year 76 = .ok (.lrem, 1) := by decide +kernel
theorem d_X7_year_77 : decode cX7_year 77 = .ok (.l2i, 1) := by decide +kernel
theorem d_X7_year_78 : decode cX7_year 78 = .ok (.invokevirtual 276, 3) := by decide +kernel
theorem d_X7_year_81 : decode cX7_year 81 = .ok (.iinc 4 1, 3) := by decide +kernel
theorem d_X7_year_84 : decode cX7_year 84 = .ok (.goto (-41), 3) := by decide +kernel
theorem d_X7_year_87 : decode cX7_year 87 = .ok (.aload_n 0, 1) := by decide +kernel
theorem d_X7_year_88 : decode cX7_year 88 = .ok (.bipush 83, 2) := by decide +kernel
theorem d_X7_year_90 : decode cX7_year 90 = .ok (.iload_n 3, 1) := by decide +kernel
theorem d_X7_year_91 : decode cX7_year 91 = .ok (.ifCond .ne 7, 3) := by decide +kernel
theorem d_X7_year_94 : decode cX7_year 94 = .ok (.iconst 2, 1) := by decide +kernel
theorem d_X7_year_95 : decode cX7_year 95 = .ok (.goto 4, 3) := by decide +kernel
theorem d_X7_year_98 : decode cX7_year 98 = .ok (.iconst 3, 1) := by decide +kernel
theorem d_X7_year_99 : decode cX7_year 99 = .ok (.invokevirtual 279, 3) := by decide +kernel
theorem d_X7_year_102 : decode cX7_year 102 = .ok (.ireturn, 1) := by decide +kernel
def t_X7_year_0 : List (Nat × QO) := [(0, o_il 1 1), (1, o_i2l 2), (2, o_kl 0 3), (3, o_kl 9999 6), (6, o_cS 1 102 6 3 9), (9, o_if (fun x => decide (x = 0)) 34 12), (12, o_il 2 13), (13, o_i2l 14), (14, o_kl 1 15), (15, o_kl 60 18), (18, o_cS 1 102 6 3 21), (21, o_if (fun x => decide (x = 0)) 34 24)]
theorem ts_X7_year_0 (sx : QX) : ∀ q ∈ t_X7_year_0, q_Snd sx RX7 cX7_year 7 (some .int) q.1 q.2 := List.forall_mem_cons.mpr ⟨s_iload_n d_X7_year_0 rfl, List.forall_mem_cons.mpr ⟨s_i2l d_X7_year_1, List.forall_mem_cons.mpr ⟨s_lconst d_X7_year_2 rfl, List.forall_mem_cons.mpr ⟨s_ldc2 d_X7_year_3 k_5_146, List.forall_mem_cons.mpr ⟨s_cS rfl d_X7_year_6 k_4_126 k_4_127 k_1_12 k_4_128 ⟨by decide, by decide⟩ (by decide +kernel) (by decide), List.forall_mem_cons.mpr ⟨s_if_eq d_X7_year_9 (by decide), List.forall_mem_cons.mpr ⟨s_iload_n d_X7_year_12 rfl, List.forall_mem_cons.mpr ⟨s_i2l d_X7_year_13, List.forall_mem_cons.mpr ⟨s_lconst d_X7_year_14 rfl, List.forall_mem_cons.mpr ⟨s_ldc2 d_X7_year_15 k_5_147, List.forall_mem_cons.mpr ⟨s_cS rfl d_X7_year_18 k_4_126 k_4_127 k_1_12 k_4_128 ⟨by decide, by decide⟩ (by decide +kernel) (by decide), List.forall_mem_cons.mpr ⟨s_if_eq d_X7_year_21 (by decide), fun _ h => absurd h List.not_mem_nil⟩⟩⟩⟩⟩⟩⟩⟩⟩⟩⟩⟩
def t_X7_year_1 : List (Nat × QO) := [(24, o_il 3 25), (25, o_i2l 26), (26, o_kl 0 27), (27, o_kl 1 28), (28, o_cS 1 102 6 3 31), (31, o_if (fun x => decide (x ≠ 0)) 36 34), (34, o_k (-1) 35), (35, o_ir false), (36, o_al 0 37), (37, o_cV 0 7 152 1 1 40), (40, o_k 0 41), (41, o_is 4 43)]
theorem ts_X7_year_1 (sx : QX) : ∀ q ∈ t_X7_year_1, q_Snd sx RX7 cX7_year 7 (some .int) q.1 q.2 := List.forall_mem_cons.mpr ⟨s_iload_n d_X7_year_24 rfl, List.forall_mem_cons.mpr ⟨s_i2l d_X7_year_25, List.forall_mem_cons.mpr ⟨s_lconst d_X7_year_26 rfl, List.forall_mem_cons.mpr ⟨s_lconst d_X7_year_27 rfl, List.forall_mem_cons.mpr ⟨s_cS rfl d_X7_year_28 k_4_126 k_4_127 k_1_12 k_4_128 ⟨by decide, by decide⟩ (by decide +kernel) (by decide), List.forall_mem_cons.mpr ⟨s_if_ne d_X7_year_31 (by decide), List.forall_mem_cons.mpr ⟨s_iconst d_X7_year_34 rfl, List.forall_mem_cons.mpr ⟨s_ir d_X7_year_35 rfl, List.forall_mem_cons.mpr ⟨s_aload_n d_X7_year_36 rfl, List.forall_mem_cons.mpr ⟨s_cV (T := TX7) (N := 30) rfl d_X7_year_37 rfl k_5_98 k_5_100 k_0_54 k_1_12 k_5_101 ⟨by decide, by decide⟩ (by decide +kernel) (by decide), List.forall_mem_cons.mpr ⟨s_iconst d_X7_year_40 rfl, List.forall_mem_cons.mpr ⟨s_istore d_X7_year_41 (by decide), fun _ h => absurd h List.not_mem_nil⟩⟩⟩⟩⟩⟩⟩⟩⟩⟩⟩⟩
def t_X7_year_2 : List (Nat × QO) := [(43, o_il 4 45), (45, o_il 2 46), (46, o_ic (fun x y => decide (y ≤ x)) 87 49), (49, o_kl 7919 52), (52, o_il 1 53), (53, o_i2l 54), (54, o_lb (fun x y => x * y) 55), (55, o_kl 6151 58), (58, o_il 4 60), (60, o_i2l 61), (61, o_lb (fun x y => x * y) 62), (62, o_lb (fun x y => x + y) 63)]
theorem ts_X7_year_2 (sx : QX) : ∀ q ∈ t_X7_year_2, q_Snd sx RX7 cX7_year 7 (some .int) q.1 q.2 := List.forall_mem_cons.mpr ⟨s_iload d_X7_year_43, List.forall_mem_cons.mpr ⟨s_iload_n d_X7_year_45 rfl, List.forall_mem_cons.mpr ⟨s_ic_ge d_X7_year_46 (by decide), List.forall_mem_cons.mpr ⟨s_ldc2 d_X7_year_49 k_5_148, List.forall_mem_cons.mpr ⟨s_iload_n d_X7_year_52 rfl, List.forall_mem_cons.mpr ⟨s_i2l d_X7_year_53, List.forall_mem_cons.mpr ⟨s_lmul d_X7_year_54, List.forall_mem_cons.mpr ⟨s_ldc2 d_X7_year_55 k_5_149, List.forall_mem_cons.mpr ⟨s_iload d_X7_year_58, List.forall_mem_cons.mpr ⟨s_i2l d_X7_year_60, List.forall_mem_cons.mpr ⟨s_lmul d_X7_year_61, List.forall_mem_cons.mpr ⟨s_ladd d_X7_year_62, fun _ h => absurd h List.not_mem_nil⟩⟩⟩⟩⟩⟩⟩⟩⟩⟩⟩⟩
def t_X7_year_3 : List (Nat × QO) := [(63, o_kl 1 64), (64, o_lb (fun x y => x + y) 65), (65, o_ls 5 67), (67, o_al 0 68), (68, o_ll 5 70), (70, o_ll 5 72), (72, o_lb (fun x y => x * y) 73), (73, o_kl 65521 76), (76, o_lbz (fun x y => x - x / y * y) 77), (77, o_l2i 78), (78, o_cV 0 7 172 5 2 81), (81, o_inc 4 1 84)]
theorem ts_X7_year_3 (sx : QX) : ∀ q ∈ t_X7_year_3, q_Snd sx RX7 cX7_year 7 (some .int) q.1 q.2 := List.forall_mem_cons.mpr ⟨s_lconst d_X7_year_63 rfl, List.forall_mem_cons.mpr ⟨s_ladd d_X7_year_64, List.forall_mem_cons.mpr ⟨s_lstore d_X7_year_65 (by decide), List.forall_mem_cons.mpr ⟨s_aload_n d_X7_year_67 rfl, List.forall_mem_cons.mpr ⟨s_lload d_X7_year_68, List.forall_mem_cons.mpr ⟨s_lload d_X7_year_70, List.forall_mem_cons.mpr ⟨s_lmul d_X7_year_72, List.forall_mem_cons.mpr ⟨s_ldc2 d_X7_year_73 k_5_150, List.forall_mem_cons.mpr ⟨s_lrem d_X7_year_76, List.forall_mem_cons.mpr ⟨s_l2i d_X7_year_77, List.forall_mem_cons.mpr ⟨s_cV (T := TX7) (N := 30) rfl d_X7_year_78 rfl k_5_151 k_5_153 k_0_58 k_1_12 k_5_154 ⟨by decide, by decide⟩ (by decide +kernel) (by decide), List.forall_mem_cons.mpr ⟨s_iinc d_X7_year_81 rfl (by decide), fun _ h => absurd h List.not_mem_nil⟩⟩⟩⟩⟩⟩⟩⟩⟩⟩⟩⟩
def t_X7_year_4 : List (Nat × QO) := [(84, o_goto 43), (87, o_al 0 88), (88, o_k 83 90), (90, o_il 3 91), (91, o_if (fun x => decide (x ≠ 0)) 98 94), (94, o_k 2 95), (95, o_goto 99), (98, o_k 3 99), (99, o_cV 1 7 171 5 3 102), (102, o_ir false)]
theorem ts_X7_year_4 (sx : QX) : ∀ q ∈ t_X7_year_4, q_Snd sx RX7 cX7_year 7 (some .int) q.1 q.2 := List.forall_mem_cons.mpr ⟨s_goto d_X7_year_84 (by decide), List.forall_mem_cons.mpr ⟨s_aload_n d_X7_year_87 rfl, List.forall_mem_cons.mpr ⟨s_bipush d_X7_year_88 rfl, List.forall_mem_cons.mpr ⟨s_iload_n d_X7_year_90 rfl, List.forall_mem_cons.mpr ⟨s_if_ne d_X7_year_91 (by decide), List.forall_mem_cons.mpr ⟨s_iconst d_X7_year_94 rfl, List.forall_mem_cons.mpr ⟨s_goto d_X7_year_95 (by decide), List.forall_mem_cons.mpr ⟨s_iconst d_X7_year_98 rfl, List.forall_mem_cons.mpr ⟨s_cV (T := TX7) (N := 30) rfl d_X7_year_99 rfl k_5_155 k_5_157 k_0_59 k_1_12 k_5_158 ⟨by decide, by decide⟩ (by decide +kernel) (by decide), List.forall_mem_cons.mpr ⟨s_ir d_X7_year_102 rfl, fun _ h => absurd h List.not_mem_nil⟩⟩⟩⟩⟩⟩⟩⟩⟩⟩
def t_X7_year (pc : Nat) : Option QO := cond (Nat.ble pc 41) (cond (Nat.ble pc 21) (q_look (t_X7_year_0) pc) (q_look (t_X7_year_1) pc)) (cond (Nat.ble pc 62) (q_look (t_X7_year_2) pc) (cond (Nat.ble pc 81) (q_look (t_X7_year_3) pc) (q_look (t_X7_year_4) pc)))
theorem ts_X7_year (sx : QX) (pc : Nat) : ∀ o, t_X7_year pc = some o → q_Snd sx RX7 cX7_year 7 (some .int) pc o := by
  unfold t_X7_year
  exact q_cb (q_cb (q_look_all (ts_X7_year_0 sx)) (q_look_all (ts_X7_year_1 sx))) (q_cb (q_look_all (ts_X7_year_2 sx)) (q_cb (q_look_all (ts_X7_year_3 sx)) (q_look_all (ts_X7_year_4 sx))))
theorem d_X7_keep_0 : decode cX7_keep 0 = .ok (.aload_n 0, 1) := by decide +kernel
theorem d_X7_keep_1 : decode cX7_keep 1 = .ok (.getfield 110, 3) := by decide +kernel
theorem d_X7_keep_4 : decode cX7_keep 4 = .ok (.iconst 2, 1) := by decide +kernel
theorem d_X7_keep_5 : decode cX7_keep 5 = .ok (.if_icmp .ne 6, 3) := by decide +kernel
theorem d_X7_keep_8 : decode cX7_keep 8 = .ok (.bipush (-3), 2) := by decide +kernel
theorem d_X7_keep_10 : decode cX7_keep 10 = .ok (.ireturn, 1) := by decide +kernel
theorem d_X7_keep_11 : decode cX7_keep 11 = .ok (.aload_n 0, 1) := by decide +kernel
theorem d_X7_keep_12 : decode cX7_keep 12 = .ok (.iconst 0, 1) := by decide +kernel
theorem d_X7_keep_13 : decode cX7_keep 13 = .ok (.sipush 166, 3) := by decide +kernel
theorem d_X7_keep_16 : decode cX7_keep 16 = .ok (.bipush 83, 2) := by decide +kernel
theorem d_X7_keep_18 : decode cX7_keep 18 = .ok (.aload_n 0, 1) := by decide +kernel
theorem d_X7_keep_19 : decode cX7_keep 19 = .ok (.getfield 110, 3) := by decide +kernel
theorem d_X7_keep_22 : decode cX7_keep 22 = .ok (.imul, 1) := by decide +kernel
theorem d_X7_keep_23 : decode cX7_keep 23 = .ok (.iadd, 1) := by decide +kernel
theorem d_X7_keep_24 : decode cX7_keep 24 = .ok (.invokevirtual 202, 3) := by decide +kernel
theorem d_X7_keep_27 : decode cX7_keep 27 = .ok (.aload_n 0, 1) := by decide +kernel
theorem d_X7_keep_28 : decode cX7_keep 28 = .ok (.dup, 1) := by decide +kernel
theorem d_X7_keep_29 : decode cX7_keep 29 = .ok (.getfield 110, 3) := by decide +kernel
theorem d_X7_keep_32 : decode cX7_keep 32 = .ok (.iconst 1, 1) := by decide +kernel
theorem d_X7_keep_33 : decode cX7_keep 33 = .ok (.iadd, 1) := by decide +kernel
theorem d_X7_keep_34 : decode cX7_keep 34 = .ok (.putfield 110, 3) := by decide +kernel
theorem d_X7_keep_37 : decode cX7_keep 37 = .ok (.aload_n 0, 1) := by decide +kernel
theorem d_X7_keep_38 : decode cX7_keep 38 = .ok (.getfield 110, 3) := by decide +kernel
theorem d_X7_keep_41 : decode cX7_keep 41 = .ok (.ireturn, 1) := by decide +kernel
def t_X7_keep_0 : List (Nat × QO) := [(0, o_al 0 1), (1, o_gf 7 2 4), (4, o_k 2 5), (5, o_ic (fun x y => decide (x ≠ y)) 11 8), (8, o_k (-3) 10), (10, o_ir false), (11, o_al 0 12), (12, o_k 0 13), (13, o_k 166 16), (16, o_k 83 18), (18, o_al 0 19), (19, o_gf 7 2 22)]
theorem ts_X7_keep_0 (sx : QX) : ∀ q ∈ t_X7_keep_0, q_Snd sx RX7 cX7_keep 1 (some .int) q.1 q.2 := List.forall_mem_cons.mpr ⟨s_aload_n d_X7_keep_0 rfl, List.forall_mem_cons.mpr ⟨s_gf d_X7_keep_1 rfl (by decide) n_X7 in_X7 rfl k_4_31, List.forall_mem_cons.mpr ⟨s_iconst d_X7_keep_4 rfl, List.forall_mem_cons.mpr ⟨s_ic_ne d_X7_keep_5 (by decide), List.forall_mem_cons.mpr ⟨s_bipush d_X7_keep_8 rfl, List.forall_mem_cons.mpr ⟨s_ir d_X7_keep_10 rfl, List.forall_mem_cons.mpr ⟨s_aload_n d_X7_keep_11 rfl, List.forall_mem_cons.mpr ⟨s_iconst d_X7_keep_12 rfl, List.forall_mem_cons.mpr ⟨s_sipush d_X7_keep_13 rfl, List.forall_mem_cons.mpr ⟨s_bipush d_X7_keep_16 rfl, List.forall_mem_cons.mpr ⟨s_aload_n d_X7_keep_18 rfl, List.forall_mem_cons.mpr ⟨s_gf d_X7_keep_19 rfl (by decide) n_X7 in_X7 rfl k_4_31, fun _ h => absurd h List.not_mem_nil⟩⟩⟩⟩⟩⟩⟩⟩⟩⟩⟩⟩
def t_X7_keep_1 : List (Nat × QO) := [(22, o_b (fun x y => x * y) 23), (23, o_b (fun x y => x + y) 24), (24, o_cV 0 7 105 4 3 27), (27, o_al 0 28), (28, o_dup 29), (29, o_gf 7 2 32), (32, o_k 1 33), (33, o_b (fun x y => x + y) 34), (34, o_pf 7 2 37), (37, o_al 0 38), (38, o_gf 7 2 41), (41, o_ir false)]
theorem ts_X7_keep_1 (sx : QX) : ∀ q ∈ t_X7_keep_1, q_Snd sx RX7 cX7_keep 1 (some .int) q.1 q.2 := List.forall_mem_cons.mpr ⟨s_imul d_X7_keep_22, List.forall_mem_cons.mpr ⟨s_iadd d_X7_keep_23, List.forall_mem_cons.mpr ⟨s_cV (T := TX7) (N := 30) rfl d_X7_keep_24 rfl k_5_10 k_5_12 k_0_42 k_1_12 k_5_13 ⟨by decide, by decide⟩ (by decide +kernel) (by decide), List.forall_mem_cons.mpr ⟨s_aload_n d_X7_keep_27 rfl, List.forall_mem_cons.mpr ⟨s_dup d_X7_keep_28, List.forall_mem_cons.mpr ⟨s_gf d_X7_keep_29 rfl (by decide) n_X7 in_X7 rfl k_4_31, List.forall_mem_cons.mpr ⟨s_iconst d_X7_keep_32 rfl, List.forall_mem_cons.mpr ⟨s_iadd d_X7_keep_33, List.forall_mem_cons.mpr ⟨s_pf tyX7 d_X7_keep_34 rfl (by decide) n_X7 in_X7 rfl k_4_31 tyX7_ok nmX7 rfl rfl, List.forall_mem_cons.mpr ⟨s_aload_n d_X7_keep_37 rfl, List.forall_mem_cons.mpr ⟨s_gf d_X7_keep_38 rfl (by decide) n_X7 in_X7 rfl k_4_31, List.forall_mem_cons.mpr ⟨s_ir d_X7_keep_41 rfl, fun _ h => absurd h List.not_mem_nil⟩⟩⟩⟩⟩⟩⟩⟩⟩⟩⟩⟩
def t_X7_keep (pc : Nat) : Option QO := cond (Nat.ble pc 19) (q_look (t_X7_keep_0) pc) (q_look (t_X7_keep_1) pc)
theorem ts_X7_keep (sx : QX) (pc : Nat) : ∀ o, t_X7_keep pc = some o → q_Snd sx RX7 cX7_keep 1 (some .int) pc o := by
  unfold t_X7_keep
  exact q_cb (q_look_all (ts_X7_keep_0 sx)) (q_look_all (ts_X7_keep_1 sx))
theorem d_X7_back_0 : decode cX7_back 0 = .ok (.aload_n 0, 1) := by decide +kernel
theorem d_X7_back_1 : decode cX7_back 1 = .ok (.getfield 110, 3) := by decide +kernel
theorem d_X7_back_4 : decode cX7_back 4 = .ok (.ifCond .ne 6, 3) := by decide +kernel
theorem d_X7_back_7 : decode cX7_back 7 = .ok (.bipush (-2), 2) := by decide +kernel
theorem d_X7_back_9 : decode cX7_back 9 = .ok (.ireturn, 1) := by decide +kernel
theorem d_X7_back_10 : decode cX7_back 10 = .ok (.aload_n 0, 1) := by decide +kernel
theorem d_X7_back_11 : decode cX7_back 11 = .ok (.dup, 1) := by decide +kernel
theorem d_X7_back_12 : decode cX7_back 12 = .ok (.getfield 110, 3) := by decide +kernel
theorem d_X7_back_15 : decode cX7_back 15 = .ok (.iconst 1, 1) := by decide +kernel
theorem d_X7_back_16 : decode cX7_back 16 = .ok (.isub, 1) := by decide +kernel
theorem d_X7_back_17 : decode cX7_back 17 = .ok (.putfield 110, 3) := by decide +kernel
theorem d_X7_back_20 : decode cX7_back 20 = .ok (.aload_n 0, 1) := by decide +kernel
theorem d_X7_back_21 : decode cX7_back 21 = .ok (.sipush 166, 3) := by decide +kernel
theorem d_X7_back_24 : decode cX7_back 24 = .ok (.bipush 83, 2) := by decide +kernel
theorem d_X7_back_26 : decode cX7_back 26 = .ok (.aload_n 0, 1) := by decide +kernel
theorem d_X7_back_27 : decode cX7_back 27 = .ok (.getfield 110, 3) := by decide +kernel
theorem d_X7_back_30 : decode cX7_back 30 = .ok (.imul, 1) := by decide +kernel
theorem d_X7_back_31 : decode cX7_back 31 = .ok (.iadd, 1) := by decide +kernel
theorem d_X7_back_32 : decode cX7_back 32 = .ok (.iconst 0, 1) := by decide +kernel
theorem d_X7_back_33 : decode cX7_back 33 = .ok (.invokevirtual 202, 3) := by decide +kernel
theorem d_X7_back_36 : decode cX7_back 36 = .ok (.aload_n 0, 1) := by decide +kernel
theorem d_X7_back_37 : decode cX7_back 37 = .ok (.iconst 0, 1) := by decide +kernel
theorem d_X7_back_38 : decode cX7_back 38 = .ok (.putfield 107, 3) := by decide +kernel
theorem d_X7_back_41 : decode cX7_back 41 = .ok (.aload_n 0, 1) := by decide +kernel
theorem d_X7_back_42 : decode cX7_back 42 = .ok (.getfield 110, 3) := by decide +kernel
theorem d_X7_back_45 : decode cX7_back 45 = .ok (.ireturn, 1) := by decide +kernel
def t_X7_back_0 : List (Nat × QO) := [(0, o_al 0 1), (1, o_gf 7 2 4), (4, o_if (fun x => decide (x ≠ 0)) 10 7), (7, o_k (-2) 9), (9, o_ir false), (10, o_al 0 11), (11, o_dup 12), (12, o_gf 7 2 15), (15, o_k 1 16), (16, o_b (fun x y => x - y) 17), (17, o_pf 7 2 20), (20, o_al 0 21)]
theorem ts_X7_back_0 (sx : QX) : ∀ q ∈ t_X7_back_0, q_Snd sx RX7 cX7_back 1 (some .int) q.1 q.2 := List.forall_mem_cons.mpr ⟨s_aload_n d_X7_back_0 rfl, List.forall_mem_cons.mpr ⟨s_gf d_X7_back_1 rfl (by decide) n_X7 in_X7 rfl k_4_31, List.forall_mem_cons.mpr ⟨s_if_ne d_X7_back_4 (by decide), List.forall_mem_cons.mpr ⟨s_bipush d_X7_back_7 rfl, List.forall_mem_cons.mpr ⟨s_ir d_X7_back_9 rfl, List.forall_mem_cons.mpr ⟨s_aload_n d_X7_back_10 rfl, List.forall_mem_cons.mpr ⟨s_dup d_X7_back_11, List.forall_mem_cons.mpr ⟨s_gf d_X7_back_12 rfl (by decide) n_X7 in_X7 rfl k_4_31, List.forall_mem_cons.mpr ⟨s_iconst d_X7_back_15 rfl, List.forall_mem_cons.mpr ⟨s_isub d_X7_back_16, List.forall_mem_cons.mpr ⟨s_pf tyX7 d_X7_back_17 rfl (by decide) n_X7 in_X7 rfl k_4_31 tyX7_ok nmX7 rfl rfl, List.forall_mem_cons.mpr ⟨s_aload_n d_X7_back_20 rfl, fun _ h => absurd h List.not_mem_nil⟩⟩⟩⟩⟩⟩⟩⟩⟩⟩⟩⟩
def t_X7_back_1 : List (Nat × QO) := [(21, o_k 166 24), (24, o_k 83 26), (26, o_al 0 27), (27, o_gf 7 2 30), (30, o_b (fun x y => x * y) 31), (31, o_b (fun x y => x + y) 32), (32, o_k 0 33), (33, o_cV 0 7 105 4 3 36), (36, o_al 0 37), (37, o_k 0 38), (38, o_pf 7 1 41), (41, o_al 0 42)]
theorem ts_X7_back_1 (sx : QX) : ∀ q ∈ t_X7_back_1, q_Snd sx RX7 cX7_back 1 (some .int) q.1 q.2 := List.forall_mem_cons.mpr ⟨s_sipush d_X7_back_21 rfl, List.forall_mem_cons.mpr ⟨s_bipush d_X7_back_24 rfl, List.forall_mem_cons.mpr ⟨s_aload_n d_X7_back_26 rfl, List.forall_mem_cons.mpr ⟨s_gf d_X7_back_27 rfl (by decide) n_X7 in_X7 rfl k_4_31, List.forall_mem_cons.mpr ⟨s_imul d_X7_back_30, List.forall_mem_cons.mpr ⟨s_iadd d_X7_back_31, List.forall_mem_cons.mpr ⟨s_iconst d_X7_back_32 rfl, List.forall_mem_cons.mpr ⟨s_cV (T := TX7) (N := 30) rfl d_X7_back_33 rfl k_5_10 k_5_12 k_0_42 k_1_12 k_5_13 ⟨by decide, by decide⟩ (by decide +kernel) (by decide), List.forall_mem_cons.mpr ⟨s_aload_n d_X7_back_36 rfl, List.forall_mem_cons.mpr ⟨s_iconst d_X7_back_37 rfl, List.forall_mem_cons.mpr ⟨s_pf tyX7 d_X7_back_38 rfl (by decide) n_X7 in_X7 rfl k_4_30 tyX7_ok nmX7 rfl rfl, List.forall_mem_cons.mpr ⟨s_aload_n d_X7_back_41 rfl, fun _ h => absurd h List.not_mem_nil⟩⟩⟩⟩⟩⟩⟩⟩⟩⟩⟩⟩
def t_X7_back_2 : List (Nat × QO) := [(42, o_gf 7 2 45), (45, o_ir false)]
theorem ts_X7_back_2 (sx : QX) : ∀ q ∈ t_X7_back_2, q_Snd sx RX7 cX7_back 1 (some .int) q.1 q.2 := List.forall_mem_cons.mpr ⟨s_gf d_X7_back_42 rfl (by decide) n_X7 in_X7 rfl k_4_31, List.forall_mem_cons.mpr ⟨s_ir d_X7_back_45 rfl, fun _ h => absurd h List.not_mem_nil⟩⟩
def t_X7_back (pc : Nat) : Option QO := cond (Nat.ble pc 20) (q_look (t_X7_back_0) pc) (cond (Nat.ble pc 41) (q_look (t_X7_back_1) pc) (q_look (t_X7_back_2) pc))
theorem ts_X7_back (sx : QX) (pc : Nat) : ∀ o, t_X7_back pc = some o → q_Snd sx RX7 cX7_back 1 (some .int) pc o := by
  unfold t_X7_back
  exact q_cb (q_look_all (ts_X7_back_0 sx)) (q_cb (q_look_all (ts_X7_back_1 sx)) (q_look_all (ts_X7_back_2 sx)))
theorem d_X7_count_0 : decode cX7_count 0 = .ok (.iload_n 1, 1) := by decide +kernel
theorem d_X7_count_1 : decode cX7_count 1 = .ok (.tableswitch 160 0 11 #[63, 68, 73, 78, 85, 92, 99, 106, 113, 145, 150, 155], 63) := by decide +kernel
theorem d_X7_count_64 : decode cX7_count 64 = .ok (.aload_n 0, 1) := by decide +kernel
theorem d_X7_count_65 : decode cX7_count 65 = .ok (.getfield 82, 3) := by decide +kernel
theorem d_X7_count_68 : decode cX7_count 68 = .ok (.ireturn, 1) := by decide +kernel
theorem d_X7_count_69 : decode cX7_count 69 = .ok (.aload_n 0, 1) := by decide +kernel
theorem d_X7_count_70 : decode cX7_count 70 = .ok (.getfield 89, 3) := by decide +kernel
theorem d_X7_count_73 : decode cX7_count 73 = .ok (.ireturn, 1) := by decide +kernel
theorem d_X7_count_74 : decode cX7_count 74 = .ok (.aload_n 0, 1) := by decide +kernel
theorem d_X7_count_75 : decode cX7_count 75 = .ok (.getfield 92, 3) := by decide +kernel
theorem d_X7_count_78 : decode cX7_count 78 = .ok (.ireturn, 1) := by decide +kernel
theorem d_X7_count_79 : decode cX7_count 79 = .ok (.aload_n 0, 1) := by decide +kernel
theorem d_X7_count_80 : decode cX7_count 80 = .ok (.getfield 7, 3) := by decide +kernel
theorem d_X7_count_83 : decode cX7_count 83 = .ok (.iconst 0, 1) := by decide +kernel
theorem d_X7_count_84 : decode cX7_count 84 = .ok (.iaload, 1) := by decide +kernel
theorem d_X7_count_85 : decode cX7_count 85 = .ok (.ireturn, 1) := by decide +kernel
theorem d_X7_count_86 : decode cX7_count 86 = .ok (.aload_n 0, 1) := by decide +kernel
theorem d_X7_count_87 : decode cX7_count 87 = .ok (.iconst 0, 1) := by decide +kernel
theorem d_X7_count_88 : decode cX7_count 88 = .ok (.iconst 0, 1) := by decide +kernel
theorem d_X7_count_89 : decode cX7_count 89 = .ok (.invokevirtual 279, 3) := by decide +kernel
theorem d_X7_count_92 : decode cX7_count 92 = .ok (.ireturn, 1) := by decide +kernel
theorem d_X7_count_93 : decode cX7_count 93 = .ok (.aload_n 0, 1) := by decide +kernel
theorem d_X7_count_94 : decode cX7_count 94 = .ok (.iconst 0, 1) := by decide +kernel
theorem d_X7_count_95 : decode cX7_count 95 = .ok (.iconst 1, 1) := by decide +kernel
theorem d_X7_count_96 : decode cX7_count 96 = .ok (.invokevirtual 279, 3) := by decide +kernel
theorem d_X7_count_99 : decode cX7_count 99 = .ok (.ireturn, 1) := by decide +kernel
theorem d_X7_count_100 : decode cX7_count 100 = .ok (.aload_n 0, 1) := by decide +kernel
theorem d_X7_count_101 : decode cX7_count 101 = .ok (.iconst 0, 1) := by decide +kernel
theorem d_X7_count_102 : decode cX7_count 102 = .ok (.iconst 2, 1) := by decide +kernel
theorem d_X7_count_103 : decode cX7_count 103 = .ok (.invokevirtual 279, 3) := by decide +kernel
theorem d_X7_count_106 : decode cX7_count 106 = .ok (.ireturn, 1) := by decide +kernel
theorem d_X7_count_107 : decode cX7_count 107 = .ok (.aload_n 0, 1) := by decide +kernel
theorem d_X7_count_108 : decode cX7_count 108 = .ok (.iconst 0, 1) := by decide +kernel
theorem d_X7_count_109 : decode cX7_count 109 = .ok (.iconst 3, 1) := by decide +kernel
theorem d_X7_count_110 : decode cX7_count 110 = .ok (.invokevirtual 279, 3) := by decide +kernel
theorem d_X7_count_113 : decode cX7_count 113 = .ok (.ireturn, 1) := by decide +kernel
theorem d_X7_count_114 : decode cX7_count 114 = .ok (.aload_n 0, 1) := by decide +kernel
theorem d_X7_count_115 : decode cX7_count 115 = .ok (.getfield 7, 3) := by decide +kernel
theorem d_X7_count_118 : decode cX7_count 118 = .ok (.bipush 79, 2) := by decide +kernel
theorem d_X7_count_120 : decode cX7_count 120 = .ok (.iaload, 1) := by decide +kernel
theorem d_X7_count_121 : decode cX7_count 121 = .ok (.aload_n 0, 1) := by decide +kernel
theorem d_X7_count_122 : decode cX7_count 122 = .ok (.getfield 7, 3) := by decide +kernel
theorem d_X7_count_125 : decode cX7_count 125 = .ok (.bipush 80, 2) := by decide +kernel
theorem d_X7_count_127 : decode cX7_count 127 = .ok (.iaload, 1) := by decide +kernel
theorem d_X7_count_128 : decode cX7_count 128 = .ok (.iadd, 1) := by decide +kernel
theorem d_X7_count_129 : decode cX7_count 129 = .ok (.aload_n 0, 1) := by decide +kernel
theorem d_X7_count_130 : decode cX7_count 130 = .ok (.getfield 7, 3) := by decide +kernel
theorem d_X7_count_133 : decode cX7_count 133 = .ok (.bipush 81, 2) := by decide +kernel
theorem d_X7_count_135 : decode cX7_count 135 = .ok (.iaload, 1) := by decide +kernel
theorem d_X7_count_136 : decode cX7_count 136 = .ok (.iadd, 1) := by decide +kernel
theorem d_X7_count_137 : decode cX7_count 137 = .ok (.aload_n 0, 1) := by decide +kernel
theorem d_X7_count_138 : decode cX7_count 138 = .ok (.getfield 7, 3) := by decide +kernel
theorem d_X7_count_141 : decode cX7_count 141 = .ok (.bipush 82, 2) := by decide +kernel
theorem d_X7_count_143 : decode cX7_count 143 = .ok (.iaload, 1) := by decide +kernel
theorem d_X7_count_144 : decode cX7_count 144 = .ok (.iadd, 1) := by decide +kernel
theorem d_X7_count_145 : decode cX7_count 145 = .ok (.ireturn, 1) := by decide +kernel
theorem d_X7_count_146 : decode cX7_count 146 = .ok (.aload_n 0, 1) := by decide +kernel
theorem d_X7_count_147 : decode cX7_count 147 = .ok (.getfield 107, 3) := by decide +kernel
theorem d_X7_count_150 : decode cX7_count 150 = .ok (.ireturn, 1) := by decide +kernel
theorem d_X7_count_151 : decode cX7_count 151 = .ok (.aload_n 0, 1) := by decide +kernel
theorem d_X7_count_152 : decode cX7_count 152 = .ok (.getfield 110, 3) := by decide +kernel
theorem d_X7_count_155 : decode cX7_count 155 = .ok (.ireturn, 1) := by decide +kernel
theorem d_X7_count_156 : decode cX7_count 156 = .ok (.aload_n 0, 1) := by decide +kernel
theorem d_X7_count_157 : decode cX7_count 157 = .ok (.getfield 117, 3) := by decide +kernel
theorem d_X7_count_160 : decode cX7_count 160 = .ok (.ireturn, 1) := by decide +kernel
theorem d_X7_count_161 : decode cX7_count 161 = .ok (.iconst (-1), 1) := by decide +kernel
theorem d_X7_count_162 : decode cX7_count 162 = .ok (.ireturn, 1) := by decide +kernel
def t_X7_count_0 : List (Nat × QO) := [(0, o_il 1 1), (1, o_sw [(0, 64), (1, 69), (2, 74), (3, 79), (4, 86), (5, 93), (6, 100), (7, 107), (8, 114), (9, 146), (10, 151), (11, 156)] 161), (64, o_al 0 65), (65, o_gf 7 3 68), (68, o_ir false), (69, o_al 0 70), (70, o_gf 7 6 73), (73, o_ir false), (74, o_al 0 75), (75, o_gf 7 8 78), (78, o_ir false), (79, o_al 0 80)]
theorem ts_X7_count_0 (sx : QX) : ∀ q ∈ t_X7_count_0, q_Snd sx RX7 cX7_count 2 (some .int) q.1 q.2 := List.forall_mem_cons.mpr ⟨s_iload_n d_X7_count_0 rfl, List.forall_mem_cons.mpr ⟨s_tsw d_X7_count_1 (by decide +kernel) (by decide) (by decide), List.forall_mem_cons.mpr ⟨s_aload_n d_X7_count_64 rfl, List.forall_mem_cons.mpr ⟨s_gf d_X7_count_65 rfl (by decide) n_X7 in_X7 rfl k_4_32, List.forall_mem_cons.mpr ⟨s_ir d_X7_count_68 rfl, List.forall_mem_cons.mpr ⟨s_aload_n d_X7_count_69 rfl, List.forall_mem_cons.mpr ⟨s_gf d_X7_count_70 rfl (by decide) n_X7 in_X7 rfl k_4_35, List.forall_mem_cons.mpr ⟨s_ir d_X7_count_73 rfl, List.forall_mem_cons.mpr ⟨s_aload_n d_X7_count_74 rfl, List.forall_mem_cons.mpr ⟨s_gf d_X7_count_75 rfl (by decide) n_X7 in_X7 rfl k_4_37, List.forall_mem_cons.mpr ⟨s_ir d_X7_count_78 rfl, List.forall_mem_cons.mpr ⟨s_aload_n d_X7_count_79 rfl, fun _ h => absurd h List.not_mem_nil⟩⟩⟩⟩⟩⟩⟩⟩⟩⟩⟩⟩
def t_X7_count_1 : List (Nat × QO) := [(80, o_gf 7 0 83), (83, o_k 0 84), (84, o_iald 85), (85, o_ir false), (86, o_al 0 87), (87, o_k 0 88), (88, o_k 0 89), (89, o_cV 1 7 171 5 3 92), (92, o_ir false), (93, o_al 0 94), (94, o_k 0 95), (95, o_k 1 96)]
theorem ts_X7_count_1 (sx : QX) : ∀ q ∈ t_X7_count_1, q_Snd sx RX7 cX7_count 2 (some .int) q.1 q.2 := List.forall_mem_cons.mpr ⟨s_gf d_X7_count_80 rfl (by decide) n_X7 in_X7 rfl k_4_29, List.forall_mem_cons.mpr ⟨s_iconst d_X7_count_83 rfl, List.forall_mem_cons.mpr ⟨s_iald d_X7_count_84, List.forall_mem_cons.mpr ⟨s_ir d_X7_count_85 rfl, List.forall_mem_cons.mpr ⟨s_aload_n d_X7_count_86 rfl, List.forall_mem_cons.mpr ⟨s_iconst d_X7_count_87 rfl, List.forall_mem_cons.mpr ⟨s_iconst d_X7_count_88 rfl, List.forall_mem_cons.mpr ⟨s_cV (T := TX7) (N := 30) rfl d_X7_count_89 rfl k_5_155 k_5_157 k_0_59 k_1_12 k_5_158 ⟨by decide, by decide⟩ (by decide +kernel) (by decide), List.forall_mem_cons.mpr ⟨s_ir d_X7_count_92 rfl, List.forall_mem_cons.mpr ⟨s_aload_n d_X7_count_93 rfl, List.forall_mem_cons.mpr ⟨s_iconst d_X7_count_94 rfl, List.forall_mem_cons.mpr ⟨s_iconst d_X7_count_95 rfl, fun _ h => absurd h List.not_mem_nil⟩⟩⟩⟩⟩⟩⟩⟩⟩⟩⟩⟩
def t_X7_count_2 : List (Nat × QO) := [(96, o_cV 1 7 171 5 3 99), (99, o_ir false), (100, o_al 0 101), (101, o_k 0 102), (102, o_k 2 103), (103, o_cV 1 7 171 5 3 106), (106, o_ir false), (107, o_al 0 108), (108, o_k 0 109), (109, o_k 3 110), (110, o_cV 1 7 171 5 3 113), (113, o_ir false)]
theorem ts_X7_count_2 (sx : QX) : ∀ q ∈ t_X7_count_2, q_Snd sx RX7 cX7_count 2 (some .int) q.1 q.2 := List.forall_mem_cons.mpr ⟨s_cV (T := TX7) (N := 30) rfl d_X7_count_96 rfl k_5_155 k_5_157 k_0_59 k_1_12 k_5_158 ⟨by decide, by decide⟩ (by decide +kernel) (by decide), List.forall_mem_cons.mpr ⟨s_ir d_X7_count_99 rfl, List.forall_mem_cons.mpr ⟨s_aload_n d_X7_count_100 rfl, List.forall_mem_cons.mpr ⟨s_iconst d_X7_count_101 rfl, List.forall_mem_cons.mpr ⟨s_iconst d_X7_count_102 rfl, List.forall_mem_cons.mpr ⟨s_cV (T := TX7) (N := 30) rfl d_X7_count_103 rfl k_5_155 k_5_157 k_0_59 k_1_12 k_5_158 ⟨by decide, by decide⟩ (by decide +kernel) (by decide), List.forall_mem_cons.mpr ⟨s_ir d_X7_count_106 rfl, List.forall_mem_cons.mpr ⟨s_aload_n d_X7_count_107 rfl, List.forall_mem_cons.mpr ⟨s_iconst d_X7_count_108 rfl, List.forall_mem_cons.mpr ⟨s_iconst d_X7_count_109 rfl, List.forall_mem_cons.mpr ⟨s_cV (T := TX7) (N := 30) rfl d_X7_count_110 rfl k_5_155 k_5_157 k_0_59 k_1_12 k_5_158 ⟨by decide, by decide⟩ (by decide +kernel) (by decide), List.forall_mem_cons.mpr ⟨s_ir d_X7_count_113 rfl, fun _ h => absurd h List.not_mem_nil⟩⟩⟩⟩⟩⟩⟩⟩⟩⟩⟩⟩
def t_X7_count_3 : List (Nat × QO) := [(114, o_al 0 115), (115, o_gf 7 0 118), (118, o_k 79 120), (120, o_iald 121), (121, o_al 0 122), (122, o_gf 7 0 125), (125, o_k 80 127), (127, o_iald 128), (128, o_b (fun x y => x + y) 129), (129, o_al 0 130), (130, o_gf 7 0 133), (133, o_k 81 135)]
theorem ts_X7_count_3 (sx : QX) : ∀ q ∈ t_X7_count_3, q_Snd sx RX7 cX7_count 2 (some .int) q.1 q.2 := List.forall_mem_cons.mpr ⟨s_aload_n d_X7_count_114 rfl, List.forall_mem_cons.mpr ⟨s_gf d_X7_count_115 rfl (by decide) n_X7 in_X7 rfl k_4_29, List.forall_mem_cons.mpr ⟨s_bipush d_X7_count_118 rfl, List.forall_mem_cons.mpr ⟨s_iald d_X7_count_120, List.forall_mem_cons.mpr ⟨s_aload_n d_X7_count_121 rfl, List.forall_mem_cons.mpr ⟨s_gf d_X7_count_122 rfl (by decide) n_X7 in_X7 rfl k_4_29, List.forall_mem_cons.mpr ⟨s_bipush d_X7_count_125 rfl, List.forall_mem_cons.mpr ⟨s_iald d_X7_count_127, List.forall_mem_cons.mpr ⟨s_iadd d_X7_count_128, List.forall_mem_cons.mpr ⟨s_aload_n d_X7_count_129 rfl, List.forall_mem_cons.mpr ⟨s_gf d_X7_count_130 rfl (by decide) n_X7 in_X7 rfl k_4_29, List.forall_mem_cons.mpr ⟨s_bipush d_X7_count_133 rfl, fun _ h => absurd h List.not_mem_nil⟩⟩⟩⟩⟩⟩⟩⟩⟩⟩⟩⟩
def t_X7_count_4 : List (Nat × QO) := [(135, o_iald 136), (136, o_b (fun x y => x + y) 137), (137, o_al 0 138), (138, o_gf 7 0 141), (141, o_k 82 143), (143, o_iald 144), (144, o_b (fun x y => x + y) 145), (145, o_ir false), (146, o_al 0 147), (147, o_gf 7 1 150), (150, o_ir false), (151, o_al 0 152)]
theorem ts_X7_count_4 (sx : QX) : ∀ q ∈ t_X7_count_4, q_Snd sx RX7 cX7_count 2 (some .int) q.1 q.2 := List.forall_mem_cons.mpr ⟨s_iald d_X7_count_135, List.forall_mem_cons.mpr ⟨s_iadd d_X7_count_136, List.forall_mem_cons.mpr ⟨s_aload_n d_X7_count_137 rfl, List.forall_mem_cons.mpr ⟨s_gf d_X7_count_138 rfl (by decide) n_X7 in_X7 rfl k_4_29, List.forall_mem_cons.mpr ⟨s_bipush d_X7_count_141 rfl, List.forall_mem_cons.mpr ⟨s_iald d_X7_count_143, List.forall_mem_cons.mpr ⟨s_iadd d_X7_count_144, List.forall_mem_cons.mpr ⟨s_ir d_X7_count_145 rfl, List.forall_mem_cons.mpr ⟨s_aload_n d_X7_count_146 rfl, List.forall_mem_cons.mpr ⟨s_gf d_X7_count_147 rfl (by decide) n_X7 in_X7 rfl k_4_30, List.forall_mem_cons.mpr ⟨s_ir d_X7_count_150 rfl, List.forall_mem_cons.mpr ⟨s_aload_n d_X7_count_151 rfl, fun _ h => absurd h List.not_mem_nil⟩⟩⟩⟩⟩⟩⟩⟩⟩⟩⟩⟩
def t_X7_count_5 : List (Nat × QO) := [(152, o_gf 7 2 155), (155, o_ir false), (156, o_al 0 157), (157, o_gf 7 13 160), (160, o_ir false), (161, o_k (-1) 162), (162, o_ir false)]
theorem ts_X7_count_5 (sx : QX) : ∀ q ∈ t_X7_count_5, q_Snd sx RX7 cX7_count 2 (some .int) q.1 q.2 := List.forall_mem_cons.mpr ⟨s_gf d_X7_count_152 rfl (by decide) n_X7 in_X7 rfl k_4_31, List.forall_mem_cons.mpr ⟨s_ir d_X7_count_155 rfl, List.forall_mem_cons.mpr ⟨s_aload_n d_X7_count_156 rfl, List.forall_mem_cons.mpr ⟨s_gf d_X7_count_157 rfl (by decide) n_X7 in_X7 rfl k_4_42, List.forall_mem_cons.mpr ⟨s_ir d_X7_count_160 rfl, List.forall_mem_cons.mpr ⟨s_iconst d_X7_count_161 rfl, List.forall_mem_cons.mpr ⟨s_ir d_X7_count_162 rfl, fun _ h => absurd h List.not_mem_nil⟩⟩⟩⟩⟩⟩⟩
def t_X7_count (pc : Nat) : Option QO := cond (Nat.ble pc 113) (cond (Nat.ble pc 79) (q_look (t_X7_count_0) pc) (cond (Nat.ble pc 95) (q_look (t_X7_count_1) pc) (q_look (t_X7_count_2) pc))) (cond (Nat.ble pc 133) (q_look (t_X7_count_3) pc) (cond (Nat.ble pc 151) (q_look (t_X7_count_4) pc) (q_look (t_X7_count_5) pc)))
theorem ts_X7_count (sx : QX) (pc : Nat) : ∀ o, t_X7_count pc = some o → q_Snd sx RX7 cX7_count 2 (some .int) pc o := by
  unfold t_X7_count
  exact q_cb (q_cb (q_look_all (ts_X7_count_0 sx)) (q_cb (q_look_all (ts_X7_count_1 sx)) (q_look_all (ts_X7_count_2 sx)))) (q_cb (q_look_all (ts_X7_count_3 sx)) (q_cb (q_look_all (ts_X7_count_4 sx)) (q_look_all (ts_X7_count_5 sx))))
theorem d_J6_bitCount_0f7a4_0 : decode cJ6_bitCount_0f7a4 0 = .ok (.iload_n 0, 1) := by decide +kernel
theorem d_J6_bitCount_0f7a4_1 : decode cJ6_bitCount_0f7a4 1 = .ok (.iload_n 0, 1) := by decide +kernel
theorem d_J6_bitCount_0f7a4_2 : decode cJ6_bitCount_0f7a4 2 = .ok (.iconst 1, 1) := by decide +kernel
theorem d_J6_bitCount_0f7a4_3 : decode cJ6_bitCount_0f7a4 3 = .ok (.iushr, 1) := by decide +kernel
theorem d_J6_bitCount_0f7a4_4 : decode cJ6_bitCount_0f7a4 4 = .ok (.ldc_w 265, 3) := by decide +kernel
theorem d_J6_bitCount_0f7a4_7 : decode cJ6_bitCount_0f7a4 7 = .ok (.iand, 1) := by decide +kernel
theorem d_J6_bitCount_0f7a4_8 : decode cJ6_bitCount_0f7a4 8 = .ok (.isub, 1) := by decide +kernel
theorem d_J6_bitCount_0f7a4_9 : decode cJ6_bitCount_0f7a4 9 = .ok (.istore_n 0, 1) := by decide +kernel
theorem d_J6_bitCount_0f7a4_10 : decode cJ6_bitCount_0f7a4 10 = .ok (.iload_n 0, 1) := by decide +kernel
theorem d_J6_bitCount_0f7a4_11 : decode cJ6_bitCount_0f7a4 11 = .ok (.ldc_w 266, 3) := by decide +kernel
theorem d_J6_bitCount_0f7a4_14 : decode cJ6_bitCount_0f7a4 14 = .ok (.iand, 1) := by decide +kernel
theorem d_J6_bitCount_0f7a4_15 : decode cJ6_bitCount_0f7a4 15 = .ok (.iload_n 0, 1) := by decide +kernel
theorem d_J6_bitCount_0f7a4_16 : decode cJ6_bitCount_0f7a4 16 = .ok (.iconst 2, 1) := by decide +kernel
theorem d_J6_bitCount_0f7a4_17 : decode cJ6_bitCount_0f7a4 17 = .ok (.iushr, 1) := by decide +kernel
theorem d_J6_bitCount_0f7a4_18 : decode cJ6_bitCount_0f7a4 18 = .ok (.ldc_w 266, 3) := by decide +kernel
theorem d_J6_bitCount_0f7a4_21 : decode cJ6_bitCount_0f7a4 21 = .ok (.iand, 1) := by decide +kernel
theorem d_J6_bitCount_0f7a4_22 : decode cJ6_bitCount_0f7a4 22 = .ok (.iadd, 1) := by decide +kernel
theorem d_J6_bitCount_0f7a4_23 : decode cJ6_bitCount_0f7a4 23 = .ok (.istore_n 0, 1) := by decide +kernel
theorem d_J6_bitCount_0f7a4_24 : decode cJ6_bitCount_0f7a4 24 = .ok (.iload_n 0, 1) := by decide +kernel
theorem d_J6_bitCount_0f7a4_25 : decode cJ6_bitCount_0f7a4 25 = .ok (.iload_n 0, 1) := by decide +kernel
theorem d_J6_bitCount_0f7a4_26 : decode cJ6_bitCount_0f7a4 26 = .ok (.iconst 4, 1) := by decide +kernel
theorem d_J6_bitCount_0f7a4_27 : decode cJ6_bitCount_0f7a4 27 = .ok (.iushr, 1) := by decide +kernel
theorem d_J6_bitCount_0f7a4_28 : decode cJ6_bitCount_0f7a4 28 = .ok (.iadd, 1) := by decide +kernel
theorem d_J6_bitCount_0f7a4_29 : decode cJ6_bitCount_0f7a4 29 = .ok (.ldc_w 267, 3) := by decide +kernel
theorem d_J6_bitCount_0f7a4_32 : decode cJ6_bitCount_0f7a4 32 = .ok (.iand, 1) := by decide +kernel
theorem d_J6_bitCount_0f7a4_33 : decode cJ6_bitCount_0f7a4 33 = .ok (.istore_n 0, 1) := by decide +kernel
theorem d_J6_bitCount_0f7a4_34 : decode cJ6_bitCount_0f7a4 34 = .ok (.iload_n 0, 1) := by decide +kernel
theorem d_J6_bitCount_0f7a4_35 : decode cJ6_bitCount_0f7a4 35 = .ok (.iload_n 0, 1) := by decide +kernel
theorem d_J6_bitCount_0f7a4_36 : decode cJ6_bitCount_0f7a4 36 = .ok (.bipush 8, 2) := by decide +kernel
theorem d_J6_bitCount_0f7a4_38 : decode cJ6_bitCount_0f7a4 38 = .ok (.iushr, 1) := by decide +kernel
theorem d_J6_bitCount_0f7a4_39 : decode cJ6_bitCount_0f7a4 39 = .ok (.iadd, 1) := by decide +kernel
theorem d_J6_bitCount_0f7a4_40 : decode cJ6_bitCount_0f7a4 40 = .ok (.istore_n 0, 1) := by decide +kernel
theorem d_J6_bitCount_0f7a4_41 : decode cJ6_bitCount_0f7a4 41 = .ok (.iload_n 0, 1) := by decide +kernel
theorem d_J6_bitCount_0f7a4_42 : decode cJ6_bitCount_0f7a4 42 = .ok (.iload_n 0, 1) := by decide +kernel
theorem d_J6_bitCount_0f7a4_43 : decode cJ6_bitCount_0f7a4 43 = .ok (.bipush 16, 2) := by decide +kernel
theorem d_J6_bitCount_0f7a4_45 : decode cJ6_bitCount_0f7a4 45 = .ok (.iushr, 1) := by decide +kernel
theorem d_J6_bitCount_0f7a4_46 : decode cJ6_bitCount_0f7a4 46 = .ok (.iadd, 1) := by decide +kernel
theorem d_J6_bitCount_0f7a4_47 : decode cJ6_bitCount_0f7a4 47 = .ok (.istore_n 0, 1) := by decide +kernel
theorem d_J6_bitCount_0f7a4_48 : decode cJ6_bitCount_0f7a4 48 = .ok (.iload_n 0, 1) := by decide +kernel
theorem d_J6_bitCount_0f7a4_49 : decode cJ6_bitCount_0f7a4 49 = .ok (.bipush 63, 2) := by decide +kernel
theorem d_J6_bitCount_0f7a4_51 : decode cJ6_bitCount_0f7a4 51 = .ok (.iand, 1) := by decide +kernel
theorem d_J6_bitCount_0f7a4_52 : decode cJ6_bitCount_0f7a4 52 = .ok (.ireturn, 1) := by decide +kernel
def t_J6_bitCount_0f7a4_0 : List (Nat × QO) := [(0, o_il 0 1), (1, o_il 0 2), (2, o_k 1 3), (3, o_b (fun x y => (x.toUInt32 >>> (y.toUInt32 &&& Int32.toUInt32 31)).toInt32) 4), (4, o_k 1431655765 7), (7, o_b (fun x y => x &&& y) 8), (8, o_b (fun x y => x - y) 9), (9, o_is 0 10), (10, o_il 0 11), (11, o_k 858993459 14), (14, o_b (fun x y => x &&& y) 15), (15, o_il 0 16)]
theorem ts_J6_bitCount_0f7a4_0 (sx : QX) : ∀ q ∈ t_J6_bitCount_0f7a4_0, q_Snd sx RJ6 cJ6_bitCount_0f7a4 1 (some .int) q.1 q.2 := List.forall_mem_cons.mpr ⟨s_iload_n d_J6_bitCount_0f7a4_0 rfl, List.forall_mem_cons.mpr ⟨s_iload_n d_J6_bitCount_0f7a4_1 rfl, List.forall_mem_cons.mpr ⟨s_iconst d_J6_bitCount_0f7a4_2 rfl, List.forall_mem_cons.mpr ⟨s_iushr d_J6_bitCount_0f7a4_3, List.forall_mem_cons.mpr ⟨s_ldcw d_J6_bitCount_0f7a4_4 k_3_183, List.forall_mem_cons.mpr ⟨s_iand d_J6_bitCount_0f7a4_7, List.forall_mem_cons.mpr ⟨s_isub d_J6_bitCount_0f7a4_8, List.forall_mem_cons.mpr ⟨s_istore_n d_J6_bitCount_0f7a4_9 rfl (by decide), List.forall_mem_cons.mpr ⟨s_iload_n d_J6_bitCount_0f7a4_10 rfl, List.forall_mem_cons.mpr ⟨s_ldcw d_J6_bitCount_0f7a4_11 k_3_184, List.forall_mem_cons.mpr ⟨s_iand d_J6_bitCount_0f7a4_14, List.forall_mem_cons.mpr ⟨s_iload_n d_J6_bitCount_0f7a4_15 rfl, fun _ h => absurd h List.not_mem_nil⟩⟩⟩⟩⟩⟩⟩⟩⟩⟩⟩⟩
def t_J6_bitCount_0f7a4_1 : List (Nat × QO) := [(16, o_k 2 17), (17, o_b (fun x y => (x.toUInt32 >>> (y.toUInt32 &&& Int32.toUInt32 31)).toInt32) 18), (18, o_k 858993459 21), (21, o_b (fun x y => x &&& y) 22), (22, o_b (fun x y => x + y) 23), (23, o_is 0 24), (24, o_il 0 25), (25, o_il 0 26), (26, o_k 4 27), (27, o_b (fun x y => (x.toUInt32 >>> (y.toUInt32 &&& Int32.toUInt32 31)).toInt32) 28), (28, o_b (fun x y => x + y) 29), (29, o_k 252645135 32)]
theorem ts_J6_bitCount_0f7a4_1 (sx : QX) : ∀ q ∈ t_J6_bitCount_0f7a4_1, q_Snd sx RJ6 cJ6_bitCount_0f7a4 1 (some .int) q.1 q.2 := List.forall_mem_cons.mpr ⟨s_iconst d_J6_bitCount_0f7a4_16 rfl, List.forall_mem_cons.mpr ⟨s_iushr d_J6_bitCount_0f7a4_17, List.forall_mem_cons.mpr ⟨s_ldcw d_J6_bitCount_0f7a4_18 k_3_184, List.forall_mem_cons.mpr ⟨s_iand d_J6_bitCount_0f7a4_21, List.forall_mem_cons.mpr ⟨s_iadd d_J6_bitCount_0f7a4_22, List.forall_mem_cons.mpr ⟨s_istore_n d_J6_bitCount_0f7a4_23 rfl (by decide), List.forall_mem_cons.mpr ⟨s_iload_n d_J6_bitCount_0f7a4_24 rfl, List.forall_mem_cons.mpr ⟨s_iload_n d_J6_bitCount_0f7a4_25 rfl, List.forall_mem_cons.mpr ⟨s_iconst d_J6_bitCount_0f7a4_26 rfl, List.forall_mem_cons.mpr ⟨s_iushr d_J6_bitCount_0f7a4_27, List.forall_mem_cons.mpr ⟨s_iadd d_J6_bitCount_0f7a4_28, List.forall_mem_cons.mpr ⟨s_ldcw d_J6_bitCount_0f7a4_29 k_3_185, fun _ h => absurd h List.not_mem_nil⟩⟩⟩⟩⟩⟩⟩⟩⟩⟩⟩⟩
def t_J6_bitCount_0f7a4_2 : List (Nat × QO) := [(32, o_b (fun x y => x &&& y) 33), (33, o_is 0 34), (34, o_il 0 35), (35, o_il 0 36), (36, o_k 8 38), (38, o_b (fun x y => (x.toUInt32 >>> (y.toUInt32 &&& Int32.toUInt32 31)).toInt32) 39), (39, o_b (fun x y => x + y) 40), (40, o_is 0 41), (41, o_il 0 42), (42, o_il 0 43), (43, o_k 16 45), (45, o_b (fun x y => (x.toUInt32 >>> (y.toUInt32 &&& Int32.toUInt32 31)).toInt32) 46)]
theorem ts_J6_bitCount_0f7a4_2 (sx : QX) : ∀ q ∈ t_J6_bitCount_0f7a4_2, q_Snd sx RJ6 cJ6_bitCount_0f7a4 1 (some .int) q.1 q.2 := List.forall_mem_cons.mpr ⟨s_iand d_J6_bitCount_0f7a4_32, List.forall_mem_cons.mpr ⟨s_istore_n d_J6_bitCount_0f7a4_33 rfl (by decide), List.forall_mem_cons.mpr ⟨s_iload_n d_J6_bitCount_0f7a4_34 rfl, List.forall_mem_cons.mpr ⟨s_iload_n d_J6_bitCount_0f7a4_35 rfl, List.forall_mem_cons.mpr ⟨s_bipush d_J6_bitCount_0f7a4_36 rfl, List.forall_mem_cons.mpr ⟨s_iushr d_J6_bitCount_0f7a4_38, List.forall_mem_cons.mpr ⟨s_iadd d_J6_bitCount_0f7a4_39, List.forall_mem_cons.mpr ⟨s_istore_n d_J6_bitCount_0f7a4_40 rfl (by decide), List.forall_mem_cons.mpr ⟨s_iload_n d_J6_bitCount_0f7a4_41 rfl, List.forall_mem_cons.mpr ⟨s_iload_n d_J6_bitCount_0f7a4_42 rfl, List.forall_mem_cons.mpr ⟨s_bipush d_J6_bitCount_0f7a4_43 rfl, List.forall_mem_cons.mpr ⟨s_iushr d_J6_bitCount_0f7a4_45, fun _ h => absurd h List.not_mem_nil⟩⟩⟩⟩⟩⟩⟩⟩⟩⟩⟩⟩
def t_J6_bitCount_0f7a4_3 : List (Nat × QO) := [(46, o_b (fun x y => x + y) 47), (47, o_is 0 48), (48, o_il 0 49), (49, o_k 63 51), (51, o_b (fun x y => x &&& y) 52), (52, o_ir false)]
theorem ts_J6_bitCount_0f7a4_3 (sx : QX) : ∀ q ∈ t_J6_bitCount_0f7a4_3, q_Snd sx RJ6 cJ6_bitCount_0f7a4 1 (some .int) q.1 q.2 := List.forall_mem_cons.mpr ⟨s_iadd d_J6_bitCount_0f7a4_46, List.forall_mem_cons.mpr ⟨s_istore_n d_J6_bitCount_0f7a4_47 rfl (by decide), List.forall_mem_cons.mpr ⟨s_iload_n d_J6_bitCount_0f7a4_48 rfl, List.forall_mem_cons.mpr ⟨s_bipush d_J6_bitCount_0f7a4_49 rfl, List.forall_mem_cons.mpr ⟨s_iand d_J6_bitCount_0f7a4_51, List.forall_mem_cons.mpr ⟨s_ir d_J6_bitCount_0f7a4_52 rfl, fun _ h => absurd h List.not_mem_nil⟩⟩⟩⟩⟩⟩
def t_J6_bitCount_0f7a4 (pc : Nat) : Option QO := cond (Nat.ble pc 29) (cond (Nat.ble pc 15) (q_look (t_J6_bitCount_0f7a4_0) pc) (q_look (t_J6_bitCount_0f7a4_1) pc)) (cond (Nat.ble pc 45) (q_look (t_J6_bitCount_0f7a4_2) pc) (q_look (t_J6_bitCount_0f7a4_3) pc))
theorem ts_J6_bitCount_0f7a4 (sx : QX) (pc : Nat) : ∀ o, t_J6_bitCount_0f7a4 pc = some o → q_Snd sx RJ6 cJ6_bitCount_0f7a4 1 (some .int) pc o := by
  unfold t_J6_bitCount_0f7a4
  exact q_cb (q_cb (q_look_all (ts_J6_bitCount_0f7a4_0 sx)) (q_look_all (ts_J6_bitCount_0f7a4_1 sx))) (q_cb (q_look_all (ts_J6_bitCount_0f7a4_2 sx)) (q_look_all (ts_J6_bitCount_0f7a4_3 sx)))
