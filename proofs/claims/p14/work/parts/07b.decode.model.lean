-- decode rows (printed by wip/whole/names.py)
theorem d_Mo_copy_0 : decode b_Mo_copy 0 = .ok (.iconst 0, 1) := by decide +kernel
theorem d_Mo_copy_1 : decode b_Mo_copy 1 = .ok (.istore_n 3, 1) := by decide +kernel
theorem d_Mo_copy_2 : decode b_Mo_copy 2 = .ok (.iload_n 3, 1) := by decide +kernel
theorem d_Mo_copy_3 : decode b_Mo_copy 3 = .ok (.bipush 61, 2) := by decide +kernel
theorem d_Mo_copy_5 : decode b_Mo_copy 5 = .ok (.if_icmp .ge 226, 3) := by decide +kernel
theorem d_Mo_copy_8 : decode b_Mo_copy 8 = .ok (.iload_n 1, 1) := by decide +kernel
theorem d_Mo_copy_9 : decode b_Mo_copy 9 = .ok (.bipush 61, 2) := by decide +kernel
theorem d_Mo_copy_11 : decode b_Mo_copy 11 = .ok (.imul, 1) := by decide +kernel
theorem d_Mo_copy_12 : decode b_Mo_copy 12 = .ok (.iload_n 3, 1) := by decide +kernel
theorem d_Mo_copy_13 : decode b_Mo_copy 13 = .ok (.iadd, 1) := by decide +kernel
theorem d_Mo_copy_14 : decode b_Mo_copy 14 = .ok (.istore 4, 2) := by decide +kernel
theorem d_Mo_copy_16 : decode b_Mo_copy 16 = .ok (.iload_n 2, 1) := by decide +kernel
theorem d_Mo_copy_17 : decode b_Mo_copy 17 = .ok (.bipush 61, 2) := by decide +kernel
theorem d_Mo_copy_19 : decode b_Mo_copy 19 = .ok (.imul, 1) := by decide +kernel
theorem d_Mo_copy_20 : decode b_Mo_copy 20 = .ok (.iload_n 3, 1) := by decide +kernel
theorem d_Mo_copy_21 : decode b_Mo_copy 21 = .ok (.iadd, 1) := by decide +kernel
theorem d_Mo_copy_22 : decode b_Mo_copy 22 = .ok (.istore 5, 2) := by decide +kernel
theorem d_Mo_copy_24 : decode b_Mo_copy 24 = .ok (.aload_n 0, 1) := by decide +kernel
theorem d_Mo_copy_25 : decode b_Mo_copy 25 = .ok (.getfield 17, 3) := by decide +kernel
theorem d_Mo_copy_28 : decode b_Mo_copy 28 = .ok (.iload 5, 2) := by decide +kernel
theorem d_Mo_copy_30 : decode b_Mo_copy 30 = .ok (.aload_n 0, 1) := by decide +kernel
theorem d_Mo_copy_31 : decode b_Mo_copy 31 = .ok (.getfield 17, 3) := by decide +kernel
theorem d_Mo_copy_34 : decode b_Mo_copy 34 = .ok (.iload 4, 2) := by decide +kernel
theorem d_Mo_copy_36 : decode b_Mo_copy 36 = .ok (.baload, 1) := by decide +kernel
theorem d_Mo_copy_37 : decode b_Mo_copy 37 = .ok (.bastore, 1) := by decide +kernel
theorem d_Mo_copy_38 : decode b_Mo_copy 38 = .ok (.aload_n 0, 1) := by decide +kernel
theorem d_Mo_copy_39 : decode b_Mo_copy 39 = .ok (.getfield 21, 3) := by decide +kernel
theorem d_Mo_copy_42 : decode b_Mo_copy 42 = .ok (.iload 5, 2) := by decide +kernel
theorem d_Mo_copy_44 : decode b_Mo_copy 44 = .ok (.aload_n 0, 1) := by decide +kernel
theorem d_Mo_copy_45 : decode b_Mo_copy 45 = .ok (.getfield 21, 3) := by decide +kernel
theorem d_Mo_copy_48 : decode b_Mo_copy 48 = .ok (.iload 4, 2) := by decide +kernel
theorem d_Mo_copy_50 : decode b_Mo_copy 50 = .ok (.baload, 1) := by decide +kernel
theorem d_Mo_copy_51 : decode b_Mo_copy 51 = .ok (.bastore, 1) := by decide +kernel
theorem d_Mo_copy_52 : decode b_Mo_copy 52 = .ok (.aload_n 0, 1) := by decide +kernel
theorem d_Mo_copy_53 : decode b_Mo_copy 53 = .ok (.getfield 24, 3) := by decide +kernel
theorem d_Mo_copy_56 : decode b_Mo_copy 56 = .ok (.iload 5, 2) := by decide +kernel
theorem d_Mo_copy_58 : decode b_Mo_copy 58 = .ok (.aload_n 0, 1) := by decide +kernel
theorem d_Mo_copy_59 : decode b_Mo_copy 59 = .ok (.getfield 24, 3) := by decide +kernel
theorem d_Mo_copy_62 : decode b_Mo_copy 62 = .ok (.iload 4, 2) := by decide +kernel
theorem d_Mo_copy_64 : decode b_Mo_copy 64 = .ok (.iaload, 1) := by decide +kernel
theorem d_Mo_copy_65 : decode b_Mo_copy 65 = .ok (.iastore, 1) := by decide +kernel
theorem d_Mo_copy_66 : decode b_Mo_copy 66 = .ok (.aload_n 0, 1) := by decide +kernel
theorem d_Mo_copy_67 : decode b_Mo_copy 67 = .ok (.getfield 27, 3) := by decide +kernel
theorem d_Mo_copy_70 : decode b_Mo_copy 70 = .ok (.iload 5, 2) := by decide +kernel
theorem d_Mo_copy_72 : decode b_Mo_copy 72 = .ok (.aload_n 0, 1) := by decide +kernel
theorem d_Mo_copy_73 : decode b_Mo_copy 73 = .ok (.getfield 27, 3) := by decide +kernel
theorem d_Mo_copy_76 : decode b_Mo_copy 76 = .ok (.iload 4, 2) := by decide +kernel
theorem d_Mo_copy_78 : decode b_Mo_copy 78 = .ok (.iaload, 1) := by decide +kernel
theorem d_Mo_copy_79 : decode b_Mo_copy 79 = .ok (.iastore, 1) := by decide +kernel
theorem d_Mo_copy_80 : decode b_Mo_copy 80 = .ok (.aload_n 0, 1) := by decide +kernel
theorem d_Mo_copy_81 : decode b_Mo_copy 81 = .ok (.getfield 36, 3) := by decide +kernel
theorem d_Mo_copy_84 : decode b_Mo_copy 84 = .ok (.iload 5, 2) := by decide +kernel
theorem d_Mo_copy_86 : decode b_Mo_copy 86 = .ok (.aload_n 0, 1) := by decide +kernel
theorem d_Mo_copy_87 : decode b_Mo_copy 87 = .ok (.getfield 36, 3) := by decide +kernel
theorem d_Mo_copy_90 : decode b_Mo_copy 90 = .ok (.iload 4, 2) := by decide +kernel
theorem d_Mo_copy_92 : decode b_Mo_copy 92 = .ok (.iaload, 1) := by decide +kernel
theorem d_Mo_copy_93 : decode b_Mo_copy 93 = .ok (.iastore, 1) := by decide +kernel
theorem d_Mo_copy_94 : decode b_Mo_copy 94 = .ok (.iconst 0, 1) := by decide +kernel
theorem d_Mo_copy_95 : decode b_Mo_copy 95 = .ok (.istore 6, 2) := by decide +kernel
theorem d_Mo_copy_97 : decode b_Mo_copy 97 = .ok (.iload 6, 2) := by decide +kernel
theorem d_Mo_copy_99 : decode b_Mo_copy 99 = .ok (.iconst 2, 1) := by decide +kernel
theorem d_Mo_copy_100 : decode b_Mo_copy 100 = .ok (.if_icmp .ge 33, 3) := by decide +kernel
theorem d_Mo_copy_103 : decode b_Mo_copy 103 = .ok (.aload_n 0, 1) := by decide +kernel
theorem d_Mo_copy_104 : decode b_Mo_copy 104 = .ok (.getfield 30, 3) := by decide +kernel
theorem d_Mo_copy_107 : decode b_Mo_copy 107 = .ok (.iconst 2, 1) := by decide +kernel
theorem d_Mo_copy_108 : decode b_Mo_copy 108 = .ok (.iload 5, 2) := by decide +kernel
theorem d_Mo_copy_110 : decode b_Mo_copy 110 = .ok (.imul, 1) := by decide +kernel
theorem d_Mo_copy_111 : decode b_Mo_copy 111 = .ok (.iload 6, 2) := by decide +kernel
theorem d_Mo_copy_113 : decode b_Mo_copy 113 = .ok (.iadd, 1) := by decide +kernel
theorem d_Mo_copy_114 : decode b_Mo_copy 114 = .ok (.aload_n 0, 1) := by decide +kernel
theorem d_Mo_copy_115 : decode b_Mo_copy 115 = .ok (.getfield 30, 3) := by decide +kernel
theorem d_Mo_copy_118 : decode b_Mo_copy 118 = .ok (.iconst 2, 1) := by decide +kernel
theorem d_Mo_copy_119 : decode b_Mo_copy 119 = .ok (.iload 4, 2) := by decide +kernel
theorem d_Mo_copy_121 : decode b_Mo_copy 121 = .ok (.imul, 1) := by decide +kernel
theorem d_Mo_copy_122 : decode b_Mo_copy 122 = .ok (.iload 6, 2) := by decide +kernel
theorem d_Mo_copy_124 : decode b_Mo_copy 124 = .ok (.iadd, 1) := by decide +kernel
theorem d_Mo_copy_125 : decode b_Mo_copy 125 = .ok (.iaload, 1) := by decide +kernel
theorem d_Mo_copy_126 : decode b_Mo_copy 126 = .ok (.iastore, 1) := by decide +kernel
theorem d_Mo_copy_127 : decode b_Mo_copy 127 = .ok (.iinc 6 1, 3) := by decide +kernel
theorem d_Mo_copy_130 : decode b_Mo_copy 130 = .ok (.goto (-33), 3) := by decide +kernel
theorem d_Mo_copy_133 : decode b_Mo_copy 133 = .ok (.iconst 0, 1) := by decide +kernel
theorem d_Mo_copy_134 : decode b_Mo_copy 134 = .ok (.istore 6, 2) := by decide +kernel
theorem d_Mo_copy_136 : decode b_Mo_copy 136 = .ok (.iload 6, 2) := by decide +kernel
theorem d_Mo_copy_138 : decode b_Mo_copy 138 = .ok (.bipush 24, 2) := by decide +kernel
theorem d_Mo_copy_140 : decode b_Mo_copy 140 = .ok (.if_icmp .ge 39, 3) := by decide +kernel
theorem d_Mo_copy_143 : decode b_Mo_copy 143 = .ok (.aload_n 0, 1) := by decide +kernel
theorem d_Mo_copy_144 : decode b_Mo_copy 144 = .ok (.getfield 33, 3) := by decide +kernel
theorem d_Mo_copy_147 : decode b_Mo_copy 147 = .ok (.iload 5, 2) := by decide +kernel
theorem d_Mo_copy_149 : decode b_Mo_copy 149 = .ok (.iconst 2, 1) := by decide +kernel
theorem d_Mo_copy_150 : decode b_Mo_copy 150 = .ok (.imul, 1) := by decide +kernel
theorem d_Mo_copy_151 : decode b_Mo_copy 151 = .ok (.bipush 12, 2) := by decide +kernel
theorem d_Mo_copy_153 : decode b_Mo_copy 153 = .ok (.imul, 1) := by decide +kernel
theorem d_Mo_copy_154 : decode b_Mo_copy 154 = .ok (.iload 6, 2) := by decide +kernel
theorem d_Mo_copy_156 : decode b_Mo_copy 156 = .ok (.iadd, 1) := by decide +kernel
theorem d_Mo_copy_157 : decode b_Mo_copy 157 = .ok (.aload_n 0, 1) := by decide +kernel
theorem d_Mo_copy_158 : decode b_Mo_copy 158 = .ok (.getfield 33, 3) := by decide +kernel
theorem d_Mo_copy_161 : decode b_Mo_copy 161 = .ok (.iload 4, 2) := by decide +kernel
theorem d_Mo_copy_163 : decode b_Mo_copy 163 = .ok (.iconst 2, 1) := by decide +kernel
theorem d_Mo_copy_164 : decode b_Mo_copy 164 = .ok (.imul, 1) := by decide +kernel
theorem d_Mo_copy_165 : decode b_Mo_copy 165 = .ok (.bipush 12, 2) := by decide +kernel
theorem d_Mo_copy_167 : decode b_Mo_copy 167 = .ok (.imul, 1) := by decide +kernel
theorem d_Mo_copy_168 : decode b_Mo_copy 168 = .ok (.iload 6, 2) := by decide +kernel
theorem d_Mo_copy_170 : decode b_Mo_copy 170 = .ok (.iadd, 1) := by decide +kernel
theorem d_Mo_copy_171 : decode b_Mo_copy 171 = .ok (.iaload, 1) := by decide +kernel
theorem d_Mo_copy_172 : decode b_Mo_copy 172 = .ok (.iastore, 1) := by decide +kernel
theorem d_Mo_copy_173 : decode b_Mo_copy 173 = .ok (.iinc 6 1, 3) := by decide +kernel
theorem d_Mo_copy_176 : decode b_Mo_copy 176 = .ok (.goto (-40), 3) := by decide +kernel
theorem d_Mo_copy_179 : decode b_Mo_copy 179 = .ok (.iconst 0, 1) := by decide +kernel
theorem d_Mo_copy_180 : decode b_Mo_copy 180 = .ok (.istore 6, 2) := by decide +kernel
theorem d_Mo_copy_182 : decode b_Mo_copy 182 = .ok (.iload 6, 2) := by decide +kernel
theorem d_Mo_copy_184 : decode b_Mo_copy 184 = .ok (.bipush 24, 2) := by decide +kernel
theorem d_Mo_copy_186 : decode b_Mo_copy 186 = .ok (.if_icmp .ge 39, 3) := by decide +kernel
theorem d_Mo_copy_189 : decode b_Mo_copy 189 = .ok (.aload_n 0, 1) := by decide +kernel
theorem d_Mo_copy_190 : decode b_Mo_copy 190 = .ok (.getfield 39, 3) := by decide +kernel
theorem d_Mo_copy_193 : decode b_Mo_copy 193 = .ok (.iload 5, 2) := by decide +kernel
theorem d_Mo_copy_195 : decode b_Mo_copy 195 = .ok (.bipush 6, 2) := by decide +kernel
theorem d_Mo_copy_197 : decode b_Mo_copy 197 = .ok (.imul, 1) := by decide +kernel
theorem d_Mo_copy_198 : decode b_Mo_copy 198 = .ok (.iconst 4, 1) := by decide +kernel
theorem d_Mo_copy_199 : decode b_Mo_copy 199 = .ok (.imul, 1) := by decide +kernel
theorem d_Mo_copy_200 : decode b_Mo_copy 200 = .ok (.iload 6, 2) := by decide +kernel
theorem d_Mo_copy_202 : decode b_Mo_copy 202 = .ok (.iadd, 1) := by decide +kernel
theorem d_Mo_copy_203 : decode b_Mo_copy 203 = .ok (.aload_n 0, 1) := by decide +kernel
theorem d_Mo_copy_204 : decode b_Mo_copy 204 = .ok (.getfield 39, 3) := by decide +kernel
theorem d_Mo_copy_207 : decode b_Mo_copy 207 = .ok (.iload 4, 2) := by decide +kernel
theorem d_Mo_copy_209 : decode b_Mo_copy 209 = .ok (.bipush 6, 2) := by decide +kernel
theorem d_Mo_copy_211 : decode b_Mo_copy 211 = .ok (.imul, 1) := by decide +kernel
theorem d_Mo_copy_212 : decode b_Mo_copy 212 = .ok (.iconst 4, 1) := by decide +kernel
theorem d_Mo_copy_213 : decode b_Mo_copy 213 = .ok (.imul, 1) := by decide +kernel
theorem d_Mo_copy_214 : decode b_Mo_copy 214 = .ok (.iload 6, 2) := by decide +kernel
theorem d_Mo_copy_216 : decode b_Mo_copy 216 = .ok (.iadd, 1) := by decide +kernel
theorem d_Mo_copy_217 : decode b_Mo_copy 217 = .ok (.iaload, 1) := by decide +kernel
theorem d_Mo_copy_218 : decode b_Mo_copy 218 = .ok (.iastore, 1) := by decide +kernel
theorem d_Mo_copy_219 : decode b_Mo_copy 219 = .ok (.iinc 6 1, 3) := by decide +kernel
theorem d_Mo_copy_222 : decode b_Mo_copy 222 = .ok (.goto (-40), 3) := by decide +kernel
theorem d_Mo_copy_225 : decode b_Mo_copy 225 = .ok (.iinc 3 1, 3) := by decide +kernel
theorem d_Mo_copy_228 : decode b_Mo_copy 228 = .ok (.goto (-226), 3) := by decide +kernel
theorem d_Mo_copy_231 : decode b_Mo_copy 231 = .ok (.bipush 84, 2) := by decide +kernel
theorem d_Mo_copy_233 : decode b_Mo_copy 233 = .ok (.istore_n 3, 1) := by decide +kernel
theorem d_Mo_copy_234 : decode b_Mo_copy 234 = .ok (.iconst 0, 1) := by decide +kernel
theorem d_Mo_copy_235 : decode b_Mo_copy 235 = .ok (.istore 4, 2) := by decide +kernel
theorem d_Mo_copy_237 : decode b_Mo_copy 237 = .ok (.iload 4, 2) := by decide +kernel
theorem d_Mo_copy_239 : decode b_Mo_copy 239 = .ok (.bipush 10, 2) := by decide +kernel
theorem d_Mo_copy_241 : decode b_Mo_copy 241 = .ok (.if_icmp .ge 108, 3) := by decide +kernel
theorem d_Mo_copy_244 : decode b_Mo_copy 244 = .ok (.iload_n 1, 1) := by decide +kernel
theorem d_Mo_copy_245 : decode b_Mo_copy 245 = .ok (.bipush 10, 2) := by decide +kernel
theorem d_Mo_copy_247 : decode b_Mo_copy 247 = .ok (.imul, 1) := by decide +kernel
theorem d_Mo_copy_248 : decode b_Mo_copy 248 = .ok (.iload 4, 2) := by decide +kernel
theorem d_Mo_copy_250 : decode b_Mo_copy 250 = .ok (.iadd, 1) := by decide +kernel
theorem d_Mo_copy_251 : decode b_Mo_copy 251 = .ok (.istore 5, 2) := by decide +kernel
theorem d_Mo_copy_253 : decode b_Mo_copy 253 = .ok (.iload_n 2, 1) := by decide +kernel
theorem d_Mo_copy_254 : decode b_Mo_copy 254 = .ok (.bipush 10, 2) := by decide +kernel
theorem d_Mo_copy_256 : decode b_Mo_copy 256 = .ok (.imul, 1) := by decide +kernel
theorem d_Mo_copy_257 : decode b_Mo_copy 257 = .ok (.iload 4, 2) := by decide +kernel
theorem d_Mo_copy_259 : decode b_Mo_copy 259 = .ok (.iadd, 1) := by decide +kernel
theorem d_Mo_copy_260 : decode b_Mo_copy 260 = .ok (.istore 6, 2) := by decide +kernel
theorem d_Mo_copy_262 : decode b_Mo_copy 262 = .ok (.aload_n 0, 1) := by decide +kernel
theorem d_Mo_copy_263 : decode b_Mo_copy 263 = .ok (.getfield 42, 3) := by decide +kernel
theorem d_Mo_copy_266 : decode b_Mo_copy 266 = .ok (.iload 6, 2) := by decide +kernel
theorem d_Mo_copy_268 : decode b_Mo_copy 268 = .ok (.aload_n 0, 1) := by decide +kernel
theorem d_Mo_copy_269 : decode b_Mo_copy 269 = .ok (.getfield 42, 3) := by decide +kernel
theorem d_Mo_copy_272 : decode b_Mo_copy 272 = .ok (.iload 5, 2) := by decide +kernel
theorem d_Mo_copy_274 : decode b_Mo_copy 274 = .ok (.iaload, 1) := by decide +kernel
theorem d_Mo_copy_275 : decode b_Mo_copy 275 = .ok (.iastore, 1) := by decide +kernel
theorem d_Mo_copy_276 : decode b_Mo_copy 276 = .ok (.aload_n 0, 1) := by decide +kernel
theorem d_Mo_copy_277 : decode b_Mo_copy 277 = .ok (.getfield 45, 3) := by decide +kernel
theorem d_Mo_copy_280 : decode b_Mo_copy 280 = .ok (.iload 6, 2) := by decide +kernel
theorem d_Mo_copy_282 : decode b_Mo_copy 282 = .ok (.aload_n 0, 1) := by decide +kernel
theorem d_Mo_copy_283 : decode b_Mo_copy 283 = .ok (.getfield 45, 3) := by decide +kernel
theorem d_Mo_copy_286 : decode b_Mo_copy 286 = .ok (.iload 5, 2) := by decide +kernel
theorem d_Mo_copy_288 : decode b_Mo_copy 288 = .ok (.iaload, 1) := by decide +kernel
theorem d_Mo_copy_289 : decode b_Mo_copy 289 = .ok (.iastore, 1) := by decide +kernel
theorem d_Mo_copy_290 : decode b_Mo_copy 290 = .ok (.aload_n 0, 1) := by decide +kernel
theorem d_Mo_copy_291 : decode b_Mo_copy 291 = .ok (.getfield 48, 3) := by decide +kernel
theorem d_Mo_copy_294 : decode b_Mo_copy 294 = .ok (.iload 6, 2) := by decide +kernel
theorem d_Mo_copy_296 : decode b_Mo_copy 296 = .ok (.aload_n 0, 1) := by decide +kernel
theorem d_Mo_copy_297 : decode b_Mo_copy 297 = .ok (.getfield 48, 3) := by decide +kernel
theorem d_Mo_copy_300 : decode b_Mo_copy 300 = .ok (.iload 5, 2) := by decide +kernel
theorem d_Mo_copy_302 : decode b_Mo_copy 302 = .ok (.iaload, 1) := by decide +kernel
theorem d_Mo_copy_303 : decode b_Mo_copy 303 = .ok (.iastore, 1) := by decide +kernel
theorem d_Mo_copy_304 : decode b_Mo_copy 304 = .ok (.iconst 0, 1) := by decide +kernel
theorem d_Mo_copy_305 : decode b_Mo_copy 305 = .ok (.istore 7, 2) := by decide +kernel
theorem d_Mo_copy_307 : decode b_Mo_copy 307 = .ok (.iload 7, 2) := by decide +kernel
theorem d_Mo_copy_309 : decode b_Mo_copy 309 = .ok (.iload_n 3, 1) := by decide +kernel
theorem d_Mo_copy_310 : decode b_Mo_copy 310 = .ok (.if_icmp .ge 33, 3) := by decide +kernel
theorem d_Mo_copy_313 : decode b_Mo_copy 313 = .ok (.aload_n 0, 1) := by decide +kernel
theorem d_Mo_copy_314 : decode b_Mo_copy 314 = .ok (.getfield 51, 3) := by decide +kernel
theorem d_Mo_copy_317 : decode b_Mo_copy 317 = .ok (.iload 6, 2) := by decide +kernel
theorem d_Mo_copy_319 : decode b_Mo_copy 319 = .ok (.iload_n 3, 1) := by decide +kernel
theorem d_Mo_copy_320 : decode b_Mo_copy 320 = .ok (.imul, 1) := by decide +kernel
theorem d_Mo_copy_321 : decode b_Mo_copy 321 = .ok (.iload 7, 2) := by decide +kernel
theorem d_Mo_copy_323 : decode b_Mo_copy 323 = .ok (.iadd, 1) := by decide +kernel
theorem d_Mo_copy_324 : decode b_Mo_copy 324 = .ok (.aload_n 0, 1) := by decide +kernel
theorem d_Mo_copy_325 : decode b_Mo_copy 325 = .ok (.getfield 51, 3) := by decide +kernel
theorem d_Mo_copy_328 : decode b_Mo_copy 328 = .ok (.iload 5, 2) := by decide +kernel
theorem d_Mo_copy_330 : decode b_Mo_copy 330 = .ok (.iload_n 3, 1) := by decide +kernel
theorem d_Mo_copy_331 : decode b_Mo_copy 331 = .ok (.imul, 1) := by decide +kernel
theorem d_Mo_copy_332 : decode b_Mo_copy 332 = .ok (.iload 7, 2) := by decide +kernel
theorem d_Mo_copy_334 : decode b_Mo_copy 334 = .ok (.iadd, 1) := by decide +kernel
theorem d_Mo_copy_335 : decode b_Mo_copy 335 = .ok (.iaload, 1) := by decide +kernel
theorem d_Mo_copy_336 : decode b_Mo_copy 336 = .ok (.iastore, 1) := by decide +kernel
theorem d_Mo_copy_337 : decode b_Mo_copy 337 = .ok (.iinc 7 1, 3) := by decide +kernel
theorem d_Mo_copy_340 : decode b_Mo_copy 340 = .ok (.goto (-33), 3) := by decide +kernel
theorem d_Mo_copy_343 : decode b_Mo_copy 343 = .ok (.iinc 4 1, 3) := by decide +kernel
theorem d_Mo_copy_346 : decode b_Mo_copy 346 = .ok (.goto (-109), 3) := by decide +kernel
theorem d_Mo_copy_349 : decode b_Mo_copy 349 = .ok (.return_, 1) := by decide +kernel
theorem d_Mo_questions_0 : decode b_Mo_questions 0 = .ok (.iconst 0, 1) := by decide +kernel
theorem d_Mo_questions_1 : decode b_Mo_questions 1 = .ok (.istore_n 1, 1) := by decide +kernel
theorem d_Mo_questions_2 : decode b_Mo_questions 2 = .ok (.iconst 1, 1) := by decide +kernel
theorem d_Mo_questions_3 : decode b_Mo_questions 3 = .ok (.istore_n 2, 1) := by decide +kernel
theorem d_Mo_questions_4 : decode b_Mo_questions 4 = .ok (.iload_n 2, 1) := by decide +kernel
theorem d_Mo_questions_5 : decode b_Mo_questions 5 = .ok (.bipush 61, 2) := by decide +kernel
theorem d_Mo_questions_7 : decode b_Mo_questions 7 = .ok (.if_icmp .ge 29, 3) := by decide +kernel
theorem d_Mo_questions_10 : decode b_Mo_questions 10 = .ok (.aload_n 0, 1) := by decide +kernel
theorem d_Mo_questions_11 : decode b_Mo_questions 11 = .ok (.getfield 17, 3) := by decide +kernel
theorem d_Mo_questions_14 : decode b_Mo_questions 14 = .ok (.aload_n 0, 1) := by decide +kernel
theorem d_Mo_questions_15 : decode b_Mo_questions 15 = .ok (.getfield 126, 3) := by decide +kernel
theorem d_Mo_questions_18 : decode b_Mo_questions 18 = .ok (.bipush 61, 2) := by decide +kernel
theorem d_Mo_questions_20 : decode b_Mo_questions 20 = .ok (.imul, 1) := by decide +kernel
theorem d_Mo_questions_21 : decode b_Mo_questions 21 = .ok (.iload_n 2, 1) := by decide +kernel
theorem d_Mo_questions_22 : decode b_Mo_questions 22 = .ok (.iadd, 1) := by decide +kernel
theorem d_Mo_questions_23 : decode b_Mo_questions 23 = .ok (.baload, 1) := by decide +kernel
theorem d_Mo_questions_24 : decode b_Mo_questions 24 = .ok (.ifCond .eq 6, 3) := by decide +kernel
theorem d_Mo_questions_27 : decode b_Mo_questions 27 = .ok (.iinc 1 1, 3) := by decide +kernel
theorem d_Mo_questions_30 : decode b_Mo_questions 30 = .ok (.iinc 2 1, 3) := by decide +kernel
theorem d_Mo_questions_33 : decode b_Mo_questions 33 = .ok (.goto (-29), 3) := by decide +kernel
theorem d_Mo_questions_36 : decode b_Mo_questions 36 = .ok (.iload_n 1, 1) := by decide +kernel
theorem d_Mo_questions_37 : decode b_Mo_questions 37 = .ok (.ireturn, 1) := by decide +kernel
theorem d_Mo_read_0 : decode b_Mo_read 0 = .ok (.aload_n 0, 1) := by decide +kernel
theorem d_Mo_read_1 : decode b_Mo_read 1 = .ok (.iconst 0, 1) := by decide +kernel
theorem d_Mo_read_2 : decode b_Mo_read 2 = .ok (.putfield 79, 3) := by decide +kernel
theorem d_Mo_read_5 : decode b_Mo_read 5 = .ok (.aload_n 0, 1) := by decide +kernel
theorem d_Mo_read_6 : decode b_Mo_read 6 = .ok (.iconst (-1), 1) := by decide +kernel
theorem d_Mo_read_7 : decode b_Mo_read 7 = .ok (.putfield 86, 3) := by decide +kernel
theorem d_Mo_read_10 : decode b_Mo_read 10 = .ok (.aload_n 0, 1) := by decide +kernel
theorem d_Mo_read_11 : decode b_Mo_read 11 = .ok (.aload_n 0, 1) := by decide +kernel
theorem d_Mo_read_12 : decode b_Mo_read 12 = .ok (.getfield 129, 3) := by decide +kernel
theorem d_Mo_read_15 : decode b_Mo_read 15 = .ok (.iconst 1, 1) := by decide +kernel
theorem d_Mo_read_16 : decode b_Mo_read 16 = .ok (.iadd, 1) := by decide +kernel
theorem d_Mo_read_17 : decode b_Mo_read 17 = .ok (.putfield 106, 3) := by decide +kernel
theorem d_Mo_read_20 : decode b_Mo_read 20 = .ok (.aload_n 0, 1) := by decide +kernel
theorem d_Mo_read_21 : decode b_Mo_read 21 = .ok (.aload_n 0, 1) := by decide +kernel
theorem d_Mo_read_22 : decode b_Mo_read 22 = .ok (.getfield 126, 3) := by decide +kernel
theorem d_Mo_read_25 : decode b_Mo_read 25 = .ok (.aload_n 0, 1) := by decide +kernel
theorem d_Mo_read_26 : decode b_Mo_read 26 = .ok (.getfield 106, 3) := by decide +kernel
theorem d_Mo_read_29 : decode b_Mo_read 29 = .ok (.invokevirtual 132, 3) := by decide +kernel
theorem d_Mo_read_32 : decode b_Mo_read 32 = .ok (.iconst 0, 1) := by decide +kernel
theorem d_Mo_read_33 : decode b_Mo_read 33 = .ok (.istore_n 1, 1) := by decide +kernel
theorem d_Mo_read_34 : decode b_Mo_read 34 = .ok (.iload_n 1, 1) := by decide +kernel
theorem d_Mo_read_35 : decode b_Mo_read 35 = .ok (.bipush 61, 2) := by decide +kernel
theorem d_Mo_read_37 : decode b_Mo_read 37 = .ok (.if_icmp .ge 16, 3) := by decide +kernel
theorem d_Mo_read_40 : decode b_Mo_read 40 = .ok (.aload_n 0, 1) := by decide +kernel
theorem d_Mo_read_41 : decode b_Mo_read 41 = .ok (.getfield 54, 3) := by decide +kernel
theorem d_Mo_read_44 : decode b_Mo_read 44 = .ok (.iload_n 1, 1) := by decide +kernel
theorem d_Mo_read_45 : decode b_Mo_read 45 = .ok (.iconst 0, 1) := by decide +kernel
theorem d_Mo_read_46 : decode b_Mo_read 46 = .ok (.bastore, 1) := by decide +kernel
theorem d_Mo_read_47 : decode b_Mo_read 47 = .ok (.iinc 1 1, 3) := by decide +kernel
theorem d_Mo_read_50 : decode b_Mo_read 50 = .ok (.goto (-16), 3) := by decide +kernel
theorem d_Mo_read_53 : decode b_Mo_read 53 = .ok (.iconst 0, 1) := by decide +kernel
theorem d_Mo_read_54 : decode b_Mo_read 54 = .ok (.istore_n 1, 1) := by decide +kernel
theorem d_Mo_read_55 : decode b_Mo_read 55 = .ok (.iload_n 1, 1) := by decide +kernel
theorem d_Mo_read_56 : decode b_Mo_read 56 = .ok (.bipush 10, 2) := by decide +kernel
theorem d_Mo_read_58 : decode b_Mo_read 58 = .ok (.if_icmp .ge 16, 3) := by decide +kernel
theorem d_Mo_read_61 : decode b_Mo_read 61 = .ok (.aload_n 0, 1) := by decide +kernel
theorem d_Mo_read_62 : decode b_Mo_read 62 = .ok (.getfield 57, 3) := by decide +kernel
theorem d_Mo_read_65 : decode b_Mo_read 65 = .ok (.iload_n 1, 1) := by decide +kernel
theorem d_Mo_read_66 : decode b_Mo_read 66 = .ok (.iconst 0, 1) := by decide +kernel
theorem d_Mo_read_67 : decode b_Mo_read 67 = .ok (.bastore, 1) := by decide +kernel
theorem d_Mo_read_68 : decode b_Mo_read 68 = .ok (.iinc 1 1, 3) := by decide +kernel
theorem d_Mo_read_71 : decode b_Mo_read 71 = .ok (.goto (-16), 3) := by decide +kernel
theorem d_Mo_read_74 : decode b_Mo_read 74 = .ok (.aload_n 0, 1) := by decide +kernel
theorem d_Mo_read_75 : decode b_Mo_read 75 = .ok (.getfield 86, 3) := by decide +kernel
theorem d_Mo_read_78 : decode b_Mo_read 78 = .ok (.ifCond .ge 79, 3) := by decide +kernel
theorem d_Mo_read_81 : decode b_Mo_read 81 = .ok (.aload_n 0, 1) := by decide +kernel
theorem d_Mo_read_82 : decode b_Mo_read 82 = .ok (.invokevirtual 89, 3) := by decide +kernel
theorem d_Mo_read_85 : decode b_Mo_read 85 = .ok (.ifCond .lt 72, 3) := by decide +kernel
theorem d_Mo_read_88 : decode b_Mo_read 88 = .ok (.aload_n 0, 1) := by decide +kernel
theorem d_Mo_read_89 : decode b_Mo_read 89 = .ok (.invokevirtual 82, 3) := by decide +kernel
theorem d_Mo_read_92 : decode b_Mo_read 92 = .ok (.istore_n 1, 1) := by decide +kernel
theorem d_Mo_read_93 : decode b_Mo_read 93 = .ok (.iload_n 1, 1) := by decide +kernel
theorem d_Mo_read_94 : decode b_Mo_read 94 = .ok (.bipush 113, 2) := by decide +kernel
theorem d_Mo_read_96 : decode b_Mo_read 96 = .ok (.if_icmp .eq 17, 3) := by decide +kernel
theorem d_Mo_read_99 : decode b_Mo_read 99 = .ok (.iload_n 1, 1) := by decide +kernel
theorem d_Mo_read_100 : decode b_Mo_read 100 = .ok (.bipush 107, 2) := by decide +kernel
theorem d_Mo_read_102 : decode b_Mo_read 102 = .ok (.if_icmp .eq 11, 3) := by decide +kernel
theorem d_Mo_read_105 : decode b_Mo_read 105 = .ok (.aload_n 0, 1) := by decide +kernel
theorem d_Mo_read_106 : decode b_Mo_read 106 = .ok (.aload_n 0, 1) := by decide +kernel
theorem d_Mo_read_107 : decode b_Mo_read 107 = .ok (.getfield 79, 3) := by decide +kernel
theorem d_Mo_read_110 : decode b_Mo_read 110 = .ok (.invokevirtual 92, 3) := by decide +kernel
theorem d_Mo_read_113 : decode b_Mo_read 113 = .ok (.aload_n 0, 1) := by decide +kernel
theorem d_Mo_read_114 : decode b_Mo_read 114 = .ok (.dup, 1) := by decide +kernel
theorem d_Mo_read_115 : decode b_Mo_read 115 = .ok (.getfield 79, 3) := by decide +kernel
theorem d_Mo_read_118 : decode b_Mo_read 118 = .ok (.iconst 1, 1) := by decide +kernel
theorem d_Mo_read_119 : decode b_Mo_read 119 = .ok (.iadd, 1) := by decide +kernel
theorem d_Mo_read_120 : decode b_Mo_read 120 = .ok (.putfield 79, 3) := by decide +kernel
theorem d_Mo_read_123 : decode b_Mo_read 123 = .ok (.aload_n 0, 1) := by decide +kernel
theorem d_Mo_read_124 : decode b_Mo_read 124 = .ok (.getfield 86, 3) := by decide +kernel
theorem d_Mo_read_127 : decode b_Mo_read 127 = .ok (.ifCond .ge 16, 3) := by decide +kernel
theorem d_Mo_read_130 : decode b_Mo_read 130 = .ok (.iload_n 1, 1) := by decide +kernel
theorem d_Mo_read_131 : decode b_Mo_read 131 = .ok (.bipush 113, 2) := by decide +kernel
theorem d_Mo_read_133 : decode b_Mo_read 133 = .ok (.if_icmp .ne 10, 3) := by decide +kernel
theorem d_Mo_read_136 : decode b_Mo_read 136 = .ok (.aload_n 0, 1) := by decide +kernel
theorem d_Mo_read_137 : decode b_Mo_read 137 = .ok (.invokevirtual 135, 3) := by decide +kernel
theorem d_Mo_read_140 : decode b_Mo_read 140 = .ok (.goto 14, 3) := by decide +kernel
theorem d_Mo_read_143 : decode b_Mo_read 143 = .ok (.aload_n 0, 1) := by decide +kernel
theorem d_Mo_read_144 : decode b_Mo_read 144 = .ok (.getfield 86, 3) := by decide +kernel
theorem d_Mo_read_147 : decode b_Mo_read 147 = .ok (.ifCond .ge 7, 3) := by decide +kernel
theorem d_Mo_read_150 : decode b_Mo_read 150 = .ok (.aload_n 0, 1) := by decide +kernel
theorem d_Mo_read_151 : decode b_Mo_read 151 = .ok (.invokevirtual 138, 3) := by decide +kernel
theorem d_Mo_read_154 : decode b_Mo_read 154 = .ok (.goto (-80), 3) := by decide +kernel
theorem d_Mo_read_157 : decode b_Mo_read 157 = .ok (.aload_n 0, 1) := by decide +kernel
theorem d_Mo_read_158 : decode b_Mo_read 158 = .ok (.iconst 0, 1) := by decide +kernel
theorem d_Mo_read_159 : decode b_Mo_read 159 = .ok (.putfield 76, 3) := by decide +kernel
theorem d_Mo_read_162 : decode b_Mo_read 162 = .ok (.aload_n 0, 1) := by decide +kernel
theorem d_Mo_read_163 : decode b_Mo_read 163 = .ok (.aload_n 0, 1) := by decide +kernel
theorem d_Mo_read_164 : decode b_Mo_read 164 = .ok (.getfield 86, 3) := by decide +kernel
theorem d_Mo_read_167 : decode b_Mo_read 167 = .ok (.putfield 13, 3) := by decide +kernel
theorem d_Mo_read_170 : decode b_Mo_read 170 = .ok (.aload_n 0, 1) := by decide +kernel
theorem d_Mo_read_171 : decode b_Mo_read 171 = .ok (.iconst 0, 1) := by decide +kernel
theorem d_Mo_read_172 : decode b_Mo_read 172 = .ok (.putfield 141, 3) := by decide +kernel
theorem d_Mo_read_175 : decode b_Mo_read 175 = .ok (.aload_n 0, 1) := by decide +kernel
theorem d_Mo_read_176 : decode b_Mo_read 176 = .ok (.aload_n 0, 1) := by decide +kernel
theorem d_Mo_read_177 : decode b_Mo_read 177 = .ok (.getfield 86, 3) := by decide +kernel
theorem d_Mo_read_180 : decode b_Mo_read 180 = .ok (.ifCond .lt 7, 3) := by decide +kernel
theorem d_Mo_read_183 : decode b_Mo_read 183 = .ok (.iconst 1, 1) := by decide +kernel
theorem d_Mo_read_184 : decode b_Mo_read 184 = .ok (.goto 17, 3) := by decide +kernel
theorem d_Mo_read_187 : decode b_Mo_read 187 = .ok (.aload_n 0, 1) := by decide +kernel
theorem d_Mo_read_188 : decode b_Mo_read 188 = .ok (.getfield 129, 3) := by decide +kernel
theorem d_Mo_read_191 : decode b_Mo_read 191 = .ok (.bipush 8, 2) := by decide +kernel
theorem d_Mo_read_193 : decode b_Mo_read 193 = .ok (.if_icmp .ne 7, 3) := by decide +kernel
theorem d_Mo_read_196 : decode b_Mo_read 196 = .ok (.iconst 2, 1) := by decide +kernel
theorem d_Mo_read_197 : decode b_Mo_read 197 = .ok (.goto 4, 3) := by decide +kernel
theorem d_Mo_read_200 : decode b_Mo_read 200 = .ok (.iconst 0, 1) := by decide +kernel
theorem d_Mo_read_201 : decode b_Mo_read 201 = .ok (.putfield 69, 3) := by decide +kernel
theorem d_Mo_read_204 : decode b_Mo_read 204 = .ok (.aload_n 0, 1) := by decide +kernel
theorem d_Mo_read_205 : decode b_Mo_read 205 = .ok (.getfield 69, 3) := by decide +kernel
theorem d_Mo_read_208 : decode b_Mo_read 208 = .ok (.ifCond .le 5, 3) := by decide +kernel
theorem d_Mo_read_211 : decode b_Mo_read 211 = .ok (.iconst 0, 1) := by decide +kernel
theorem d_Mo_read_212 : decode b_Mo_read 212 = .ok (.ireturn, 1) := by decide +kernel
theorem d_Mo_read_213 : decode b_Mo_read 213 = .ok (.aload_n 0, 1) := by decide +kernel
theorem d_Mo_read_214 : decode b_Mo_read 214 = .ok (.dup, 1) := by decide +kernel
theorem d_Mo_read_215 : decode b_Mo_read 215 = .ok (.getfield 129, 3) := by decide +kernel
theorem d_Mo_read_218 : decode b_Mo_read 218 = .ok (.iconst 1, 1) := by decide +kernel
theorem d_Mo_read_219 : decode b_Mo_read 219 = .ok (.iadd, 1) := by decide +kernel
theorem d_Mo_read_220 : decode b_Mo_read 220 = .ok (.putfield 129, 3) := by decide +kernel
theorem d_Mo_read_223 : decode b_Mo_read 223 = .ok (.aload_n 0, 1) := by decide +kernel
theorem d_Mo_read_224 : decode b_Mo_read 224 = .ok (.aload_n 0, 1) := by decide +kernel
theorem d_Mo_read_225 : decode b_Mo_read 225 = .ok (.getfield 129, 3) := by decide +kernel
theorem d_Mo_read_228 : decode b_Mo_read 228 = .ok (.putfield 126, 3) := by decide +kernel
theorem d_Mo_read_231 : decode b_Mo_read 231 = .ok (.aload_n 0, 1) := by decide +kernel
theorem d_Mo_read_232 : decode b_Mo_read 232 = .ok (.invokevirtual 144, 3) := by decide +kernel
theorem d_Mo_read_235 : decode b_Mo_read 235 = .ok (.ireturn, 1) := by decide +kernel
theorem d_Mo_place_0 : decode b_Mo_place 0 = .ok (.aload_n 0, 1) := by decide +kernel
theorem d_Mo_place_1 : decode b_Mo_place 1 = .ok (.iconst 0, 1) := by decide +kernel
theorem d_Mo_place_2 : decode b_Mo_place 2 = .ok (.putfield 69, 3) := by decide +kernel
theorem d_Mo_place_5 : decode b_Mo_place 5 = .ok (.aload_n 0, 1) := by decide +kernel
theorem d_Mo_place_6 : decode b_Mo_place 6 = .ok (.getfield 13, 3) := by decide +kernel
theorem d_Mo_place_9 : decode b_Mo_place 9 = .ok (.ireturn, 1) := by decide +kernel
theorem d_Mo_edition_0 : decode b_Mo_edition 0 = .ok (.aload_n 0, 1) := by decide +kernel
theorem d_Mo_edition_1 : decode b_Mo_edition 1 = .ok (.iload_n 1, 1) := by decide +kernel
theorem d_Mo_edition_2 : decode b_Mo_edition 2 = .ok (.iconst 0, 1) := by decide +kernel
theorem d_Mo_edition_3 : decode b_Mo_edition 3 = .ok (.aload_n 0, 1) := by decide +kernel
theorem d_Mo_edition_4 : decode b_Mo_edition 4 = .ok (.getfield 129, 3) := by decide +kernel
theorem d_Mo_edition_7 : decode b_Mo_edition 7 = .ok (.invokestatic 72, 3) := by decide +kernel
theorem d_Mo_edition_10 : decode b_Mo_edition 10 = .ok (.invokevirtual 147, 3) := by decide +kernel
theorem d_Mo_edition_13 : decode b_Mo_edition 13 = .ok (.ifCond .ne 5, 3) := by decide +kernel
theorem d_Mo_edition_16 : decode b_Mo_edition 16 = .ok (.iconst 0, 1) := by decide +kernel
theorem d_Mo_edition_17 : decode b_Mo_edition 17 = .ok (.ireturn, 1) := by decide +kernel
theorem d_Mo_edition_18 : decode b_Mo_edition 18 = .ok (.aload_n 0, 1) := by decide +kernel
theorem d_Mo_edition_19 : decode b_Mo_edition 19 = .ok (.iload_n 1, 1) := by decide +kernel
theorem d_Mo_edition_20 : decode b_Mo_edition 20 = .ok (.putfield 126, 3) := by decide +kernel
theorem d_Mo_edition_23 : decode b_Mo_edition 23 = .ok (.aload_n 0, 1) := by decide +kernel
theorem d_Mo_edition_24 : decode b_Mo_edition 24 = .ok (.iconst 0, 1) := by decide +kernel
theorem d_Mo_edition_25 : decode b_Mo_edition 25 = .ok (.putfield 141, 3) := by decide +kernel
theorem d_Mo_edition_28 : decode b_Mo_edition 28 = .ok (.aload_n 0, 1) := by decide +kernel
theorem d_Mo_edition_29 : decode b_Mo_edition 29 = .ok (.invokevirtual 144, 3) := by decide +kernel
theorem d_Mo_edition_32 : decode b_Mo_edition 32 = .ok (.ireturn, 1) := by decide +kernel
theorem d_Mo_isThere_0 : decode b_Mo_isThere 0 = .ok (.iload_n 1, 1) := by decide +kernel
theorem d_Mo_isThere_1 : decode b_Mo_isThere 1 = .ok (.ifCond .le 24, 3) := by decide +kernel
theorem d_Mo_isThere_4 : decode b_Mo_isThere 4 = .ok (.aload_n 0, 1) := by decide +kernel
theorem d_Mo_isThere_5 : decode b_Mo_isThere 5 = .ok (.getfield 17, 3) := by decide +kernel
theorem d_Mo_isThere_8 : decode b_Mo_isThere 8 = .ok (.aload_n 0, 1) := by decide +kernel
theorem d_Mo_isThere_9 : decode b_Mo_isThere 9 = .ok (.getfield 126, 3) := by decide +kernel
theorem d_Mo_isThere_12 : decode b_Mo_isThere 12 = .ok (.bipush 61, 2) := by decide +kernel
theorem d_Mo_isThere_14 : decode b_Mo_isThere 14 = .ok (.imul, 1) := by decide +kernel
theorem d_Mo_isThere_15 : decode b_Mo_isThere 15 = .ok (.iload_n 1, 1) := by decide +kernel
theorem d_Mo_isThere_16 : decode b_Mo_isThere 16 = .ok (.iadd, 1) := by decide +kernel
theorem d_Mo_isThere_17 : decode b_Mo_isThere 17 = .ok (.baload, 1) := by decide +kernel
theorem d_Mo_isThere_18 : decode b_Mo_isThere 18 = .ok (.ifCond .eq 7, 3) := by decide +kernel
theorem d_Mo_isThere_21 : decode b_Mo_isThere 21 = .ok (.iconst 1, 1) := by decide +kernel
theorem d_Mo_isThere_22 : decode b_Mo_isThere 22 = .ok (.goto 4, 3) := by decide +kernel
theorem d_Mo_isThere_25 : decode b_Mo_isThere 25 = .ok (.iconst 0, 1) := by decide +kernel
theorem d_Mo_isThere_26 : decode b_Mo_isThere 26 = .ok (.ireturn, 1) := by decide +kernel
theorem d_Mo_asks_0 : decode b_Mo_asks 0 = .ok (.aload_n 0, 1) := by decide +kernel
theorem d_Mo_asks_1 : decode b_Mo_asks 1 = .ok (.aload_n 0, 1) := by decide +kernel
theorem d_Mo_asks_2 : decode b_Mo_asks 2 = .ok (.iload_n 1, 1) := by decide +kernel
theorem d_Mo_asks_3 : decode b_Mo_asks 3 = .ok (.invokevirtual 151, 3) := by decide +kernel
theorem d_Mo_asks_6 : decode b_Mo_asks 6 = .ok (.ifCond .eq 7, 3) := by decide +kernel
theorem d_Mo_asks_9 : decode b_Mo_asks 9 = .ok (.iload_n 1, 1) := by decide +kernel
theorem d_Mo_asks_10 : decode b_Mo_asks 10 = .ok (.goto 4, 3) := by decide +kernel
theorem d_Mo_asks_13 : decode b_Mo_asks 13 = .ok (.iconst 0, 1) := by decide +kernel
theorem d_Mo_asks_14 : decode b_Mo_asks 14 = .ok (.putfield 155, 3) := by decide +kernel
theorem d_Mo_asks_17 : decode b_Mo_asks 17 = .ok (.aload_n 0, 1) := by decide +kernel
theorem d_Mo_asks_18 : decode b_Mo_asks 18 = .ok (.getfield 155, 3) := by decide +kernel
theorem d_Mo_asks_21 : decode b_Mo_asks 21 = .ok (.ifCond .ne 4, 3) := by decide +kernel
theorem d_Mo_asks_24 : decode b_Mo_asks 24 = .ok (.return_, 1) := by decide +kernel
theorem d_Mo_asks_25 : decode b_Mo_asks 25 = .ok (.aload_n 0, 1) := by decide +kernel
theorem d_Mo_asks_26 : decode b_Mo_asks 26 = .ok (.getfield 60, 3) := by decide +kernel
theorem d_Mo_asks_29 : decode b_Mo_asks 29 = .ok (.aload_n 0, 1) := by decide +kernel
theorem d_Mo_asks_30 : decode b_Mo_asks 30 = .ok (.getfield 158, 3) := by decide +kernel
theorem d_Mo_asks_33 : decode b_Mo_asks 33 = .ok (.aload_n 0, 1) := by decide +kernel
theorem d_Mo_asks_34 : decode b_Mo_asks 34 = .ok (.getfield 155, 3) := by decide +kernel
theorem d_Mo_asks_37 : decode b_Mo_asks 37 = .ok (.iastore, 1) := by decide +kernel
theorem d_Mo_asks_38 : decode b_Mo_asks 38 = .ok (.aload_n 0, 1) := by decide +kernel
theorem d_Mo_asks_39 : decode b_Mo_asks 39 = .ok (.dup, 1) := by decide +kernel
theorem d_Mo_asks_40 : decode b_Mo_asks 40 = .ok (.getfield 158, 3) := by decide +kernel
theorem d_Mo_asks_43 : decode b_Mo_asks 43 = .ok (.iconst 1, 1) := by decide +kernel
theorem d_Mo_asks_44 : decode b_Mo_asks 44 = .ok (.iadd, 1) := by decide +kernel
theorem d_Mo_asks_45 : decode b_Mo_asks 45 = .ok (.putfield 158, 3) := by decide +kernel
theorem d_Mo_asks_48 : decode b_Mo_asks 48 = .ok (.return_, 1) := by decide +kernel
theorem d_Mo_first_0 : decode b_Mo_first 0 = .ok (.aload_n 0, 1) := by decide +kernel
theorem d_Mo_first_1 : decode b_Mo_first 1 = .ok (.iload_n 1, 1) := by decide +kernel
theorem d_Mo_first_2 : decode b_Mo_first 2 = .ok (.iconst 1, 1) := by decide +kernel
theorem d_Mo_first_3 : decode b_Mo_first 3 = .ok (.bipush 9, 2) := by decide +kernel
theorem d_Mo_first_5 : decode b_Mo_first 5 = .ok (.invokestatic 72, 3) := by decide +kernel
theorem d_Mo_first_8 : decode b_Mo_first 8 = .ok (.ifCond .eq 38, 3) := by decide +kernel
theorem d_Mo_first_11 : decode b_Mo_first 11 = .ok (.aload_n 0, 1) := by decide +kernel
theorem d_Mo_first_12 : decode b_Mo_first 12 = .ok (.getfield 42, 3) := by decide +kernel
theorem d_Mo_first_15 : decode b_Mo_first 15 = .ok (.aload_n 0, 1) := by decide +kernel
theorem d_Mo_first_16 : decode b_Mo_first 16 = .ok (.getfield 126, 3) := by decide +kernel
theorem d_Mo_first_19 : decode b_Mo_first 19 = .ok (.bipush 10, 2) := by decide +kernel
theorem d_Mo_first_21 : decode b_Mo_first 21 = .ok (.imul, 1) := by decide +kernel
theorem d_Mo_first_22 : decode b_Mo_first 22 = .ok (.iload_n 1, 1) := by decide +kernel
theorem d_Mo_first_23 : decode b_Mo_first 23 = .ok (.iconst 1, 1) := by decide +kernel
theorem d_Mo_first_24 : decode b_Mo_first 24 = .ok (.bipush 9, 2) := by decide +kernel
theorem d_Mo_first_26 : decode b_Mo_first 26 = .ok (.invokestatic 72, 3) := by decide +kernel
theorem d_Mo_first_29 : decode b_Mo_first 29 = .ok (.ifCond .eq 7, 3) := by decide +kernel
theorem d_Mo_first_32 : decode b_Mo_first 32 = .ok (.iload_n 1, 1) := by decide +kernel
theorem d_Mo_first_33 : decode b_Mo_first 33 = .ok (.goto 4, 3) := by decide +kernel
theorem d_Mo_first_36 : decode b_Mo_first 36 = .ok (.iconst 0, 1) := by decide +kernel
theorem d_Mo_first_37 : decode b_Mo_first 37 = .ok (.iadd, 1) := by decide +kernel
theorem d_Mo_first_38 : decode b_Mo_first 38 = .ok (.iaload, 1) := by decide +kernel
theorem d_Mo_first_39 : decode b_Mo_first 39 = .ok (.ifCond .le 7, 3) := by decide +kernel
theorem d_Mo_first_42 : decode b_Mo_first 42 = .ok (.iconst 1, 1) := by decide +kernel
theorem d_Mo_first_43 : decode b_Mo_first 43 = .ok (.goto 4, 3) := by decide +kernel
theorem d_Mo_first_46 : decode b_Mo_first 46 = .ok (.iconst 0, 1) := by decide +kernel
theorem d_Mo_first_47 : decode b_Mo_first 47 = .ok (.invokevirtual 147, 3) := by decide +kernel
theorem d_Mo_first_50 : decode b_Mo_first 50 = .ok (.ifCond .ne 5, 3) := by decide +kernel
theorem d_Mo_first_53 : decode b_Mo_first 53 = .ok (.iconst 0, 1) := by decide +kernel
theorem d_Mo_first_54 : decode b_Mo_first 54 = .ok (.ireturn, 1) := by decide +kernel
theorem d_Mo_first_55 : decode b_Mo_first 55 = .ok (.aload_n 0, 1) := by decide +kernel
theorem d_Mo_first_56 : decode b_Mo_first 56 = .ok (.iload_n 1, 1) := by decide +kernel
theorem d_Mo_first_57 : decode b_Mo_first 57 = .ok (.putfield 141, 3) := by decide +kernel
theorem d_Mo_first_60 : decode b_Mo_first 60 = .ok (.aload_n 0, 1) := by decide +kernel
theorem d_Mo_first_61 : decode b_Mo_first 61 = .ok (.iconst 0, 1) := by decide +kernel
theorem d_Mo_first_62 : decode b_Mo_first 62 = .ok (.putfield 161, 3) := by decide +kernel
theorem d_Mo_first_65 : decode b_Mo_first 65 = .ok (.aload_n 0, 1) := by decide +kernel
theorem d_Mo_first_66 : decode b_Mo_first 66 = .ok (.iconst 0, 1) := by decide +kernel
theorem d_Mo_first_67 : decode b_Mo_first 67 = .ok (.putfield 158, 3) := by decide +kernel
theorem d_Mo_first_70 : decode b_Mo_first 70 = .ok (.iconst 0, 1) := by decide +kernel
theorem d_Mo_first_71 : decode b_Mo_first 71 = .ok (.istore_n 2, 1) := by decide +kernel
theorem d_Mo_first_72 : decode b_Mo_first 72 = .ok (.iload_n 2, 1) := by decide +kernel
theorem d_Mo_first_73 : decode b_Mo_first 73 = .ok (.bipush 61, 2) := by decide +kernel
theorem d_Mo_first_75 : decode b_Mo_first 75 = .ok (.if_icmp .ge 16, 3) := by decide +kernel
theorem d_Mo_first_78 : decode b_Mo_first 78 = .ok (.aload_n 0, 1) := by decide +kernel
theorem d_Mo_first_79 : decode b_Mo_first 79 = .ok (.getfield 63, 3) := by decide +kernel
theorem d_Mo_first_82 : decode b_Mo_first 82 = .ok (.iload_n 2, 1) := by decide +kernel
theorem d_Mo_first_83 : decode b_Mo_first 83 = .ok (.iconst (-1), 1) := by decide +kernel
theorem d_Mo_first_84 : decode b_Mo_first 84 = .ok (.iastore, 1) := by decide +kernel
theorem d_Mo_first_85 : decode b_Mo_first 85 = .ok (.iinc 2 1, 3) := by decide +kernel
theorem d_Mo_first_88 : decode b_Mo_first 88 = .ok (.goto (-16), 3) := by decide +kernel
theorem d_Mo_first_91 : decode b_Mo_first 91 = .ok (.aload_n 0, 1) := by decide +kernel
theorem d_Mo_first_92 : decode b_Mo_first 92 = .ok (.aload_n 0, 1) := by decide +kernel
theorem d_Mo_first_93 : decode b_Mo_first 93 = .ok (.getfield 42, 3) := by decide +kernel
theorem d_Mo_first_96 : decode b_Mo_first 96 = .ok (.aload_n 0, 1) := by decide +kernel
theorem d_Mo_first_97 : decode b_Mo_first 97 = .ok (.getfield 126, 3) := by decide +kernel
theorem d_Mo_first_100 : decode b_Mo_first 100 = .ok (.bipush 10, 2) := by decide +kernel
theorem d_Mo_first_102 : decode b_Mo_first 102 = .ok (.imul, 1) := by decide +kernel
theorem d_Mo_first_103 : decode b_Mo_first 103 = .ok (.iload_n 1, 1) := by decide +kernel
theorem d_Mo_first_104 : decode b_Mo_first 104 = .ok (.iadd, 1) := by decide +kernel
theorem d_Mo_first_105 : decode b_Mo_first 105 = .ok (.iaload, 1) := by decide +kernel
theorem d_Mo_first_106 : decode b_Mo_first 106 = .ok (.invokevirtual 164, 3) := by decide +kernel
theorem d_Mo_first_109 : decode b_Mo_first 109 = .ok (.aload_n 0, 1) := by decide +kernel
theorem d_Mo_first_110 : decode b_Mo_first 110 = .ok (.getfield 155, 3) := by decide +kernel
theorem d_Mo_first_113 : decode b_Mo_first 113 = .ok (.ireturn, 1) := by decide +kernel
theorem d_Mo_answer_0 : decode b_Mo_answer 0 = .ok (.aload_n 0, 1) := by decide +kernel
theorem d_Mo_answer_1 : decode b_Mo_answer 1 = .ok (.aload_n 0, 1) := by decide +kernel
theorem d_Mo_answer_2 : decode b_Mo_answer 2 = .ok (.getfield 141, 3) := by decide +kernel
theorem d_Mo_answer_5 : decode b_Mo_answer 5 = .ok (.ifCond .eq 10, 3) := by decide +kernel
theorem d_Mo_answer_8 : decode b_Mo_answer 8 = .ok (.aload_n 0, 1) := by decide +kernel
theorem d_Mo_answer_9 : decode b_Mo_answer 9 = .ok (.getfield 155, 3) := by decide +kernel
theorem d_Mo_answer_12 : decode b_Mo_answer 12 = .ok (.ifCond .ne 7, 3) := by decide +kernel
theorem d_Mo_answer_15 : decode b_Mo_answer 15 = .ok (.iconst 2, 1) := by decide +kernel
theorem d_Mo_answer_16 : decode b_Mo_answer 16 = .ok (.goto 4, 3) := by decide +kernel
theorem d_Mo_answer_19 : decode b_Mo_answer 19 = .ok (.iconst 0, 1) := by decide +kernel
theorem d_Mo_answer_20 : decode b_Mo_answer 20 = .ok (.putfield 69, 3) := by decide +kernel
theorem d_Mo_answer_23 : decode b_Mo_answer 23 = .ok (.aload_n 0, 1) := by decide +kernel
theorem d_Mo_answer_24 : decode b_Mo_answer 24 = .ok (.getfield 69, 3) := by decide +kernel
theorem d_Mo_answer_27 : decode b_Mo_answer 27 = .ok (.ifCond .le 5, 3) := by decide +kernel
theorem d_Mo_answer_30 : decode b_Mo_answer 30 = .ok (.iconst 0, 1) := by decide +kernel
theorem d_Mo_answer_31 : decode b_Mo_answer 31 = .ok (.ireturn, 1) := by decide +kernel
theorem d_Mo_answer_32 : decode b_Mo_answer 32 = .ok (.aload_n 0, 1) := by decide +kernel
theorem d_Mo_answer_33 : decode b_Mo_answer 33 = .ok (.getfield 126, 3) := by decide +kernel
theorem d_Mo_answer_36 : decode b_Mo_answer 36 = .ok (.bipush 61, 2) := by decide +kernel
theorem d_Mo_answer_38 : decode b_Mo_answer 38 = .ok (.imul, 1) := by decide +kernel
theorem d_Mo_answer_39 : decode b_Mo_answer 39 = .ok (.aload_n 0, 1) := by decide +kernel
theorem d_Mo_answer_40 : decode b_Mo_answer 40 = .ok (.getfield 155, 3) := by decide +kernel
theorem d_Mo_answer_43 : decode b_Mo_answer 43 = .ok (.iadd, 1) := by decide +kernel
theorem d_Mo_answer_44 : decode b_Mo_answer 44 = .ok (.istore_n 2, 1) := by decide +kernel
theorem d_Mo_answer_45 : decode b_Mo_answer 45 = .ok (.aload_n 0, 1) := by decide +kernel
theorem d_Mo_answer_46 : decode b_Mo_answer 46 = .ok (.iload_n 1, 1) := by decide +kernel
theorem d_Mo_answer_47 : decode b_Mo_answer 47 = .ok (.iconst (-1), 1) := by decide +kernel
theorem d_Mo_answer_48 : decode b_Mo_answer 48 = .ok (.if_icmp .ne 20, 3) := by decide +kernel
theorem d_Mo_answer_51 : decode b_Mo_answer 51 = .ok (.aload_n 0, 1) := by decide +kernel
theorem d_Mo_answer_52 : decode b_Mo_answer 52 = .ok (.getfield 21, 3) := by decide +kernel
theorem d_Mo_answer_55 : decode b_Mo_answer 55 = .ok (.iload_n 2, 1) := by decide +kernel
theorem d_Mo_answer_56 : decode b_Mo_answer 56 = .ok (.baload, 1) := by decide +kernel
theorem d_Mo_answer_57 : decode b_Mo_answer 57 = .ok (.ifCond .eq 7, 3) := by decide +kernel
theorem d_Mo_answer_60 : decode b_Mo_answer 60 = .ok (.iconst 1, 1) := by decide +kernel
theorem d_Mo_answer_61 : decode b_Mo_answer 61 = .ok (.goto 31, 3) := by decide +kernel
theorem d_Mo_answer_64 : decode b_Mo_answer 64 = .ok (.iconst 0, 1) := by decide +kernel
theorem d_Mo_answer_65 : decode b_Mo_answer 65 = .ok (.goto 27, 3) := by decide +kernel
theorem d_Mo_answer_68 : decode b_Mo_answer 68 = .ok (.iload_n 1, 1) := by decide +kernel
theorem d_Mo_answer_69 : decode b_Mo_answer 69 = .ok (.aload_n 0, 1) := by decide +kernel
theorem d_Mo_answer_70 : decode b_Mo_answer 70 = .ok (.getfield 24, 3) := by decide +kernel
theorem d_Mo_answer_73 : decode b_Mo_answer 73 = .ok (.iload_n 2, 1) := by decide +kernel
theorem d_Mo_answer_74 : decode b_Mo_answer 74 = .ok (.iaload, 1) := by decide +kernel
theorem d_Mo_answer_75 : decode b_Mo_answer 75 = .ok (.aload_n 0, 1) := by decide +kernel
theorem d_Mo_answer_76 : decode b_Mo_answer 76 = .ok (.getfield 27, 3) := by decide +kernel
theorem d_Mo_answer_79 : decode b_Mo_answer 79 = .ok (.iload_n 2, 1) := by decide +kernel
theorem d_Mo_answer_80 : decode b_Mo_answer 80 = .ok (.iaload, 1) := by decide +kernel
theorem d_Mo_answer_81 : decode b_Mo_answer 81 = .ok (.invokestatic 72, 3) := by decide +kernel
theorem d_Mo_answer_84 : decode b_Mo_answer 84 = .ok (.ifCond .eq 7, 3) := by decide +kernel
theorem d_Mo_answer_87 : decode b_Mo_answer 87 = .ok (.iconst 0, 1) := by decide +kernel
theorem d_Mo_answer_88 : decode b_Mo_answer 88 = .ok (.goto 4, 3) := by decide +kernel
theorem d_Mo_answer_91 : decode b_Mo_answer 91 = .ok (.iconst 1, 1) := by decide +kernel
theorem d_Mo_answer_92 : decode b_Mo_answer 92 = .ok (.putfield 69, 3) := by decide +kernel
theorem d_Mo_answer_95 : decode b_Mo_answer 95 = .ok (.aload_n 0, 1) := by decide +kernel
theorem d_Mo_answer_96 : decode b_Mo_answer 96 = .ok (.getfield 69, 3) := by decide +kernel
theorem d_Mo_answer_99 : decode b_Mo_answer 99 = .ok (.ifCond .le 5, 3) := by decide +kernel
theorem d_Mo_answer_102 : decode b_Mo_answer 102 = .ok (.iconst 0, 1) := by decide +kernel
theorem d_Mo_answer_103 : decode b_Mo_answer 103 = .ok (.ireturn, 1) := by decide +kernel
theorem d_Mo_answer_104 : decode b_Mo_answer 104 = .ok (.iconst 0, 1) := by decide +kernel
theorem d_Mo_answer_105 : decode b_Mo_answer 105 = .ok (.istore_n 3, 1) := by decide +kernel
theorem d_Mo_answer_106 : decode b_Mo_answer 106 = .ok (.iload_n 3, 1) := by decide +kernel
theorem d_Mo_answer_107 : decode b_Mo_answer 107 = .ok (.aload_n 0, 1) := by decide +kernel
theorem d_Mo_answer_108 : decode b_Mo_answer 108 = .ok (.getfield 36, 3) := by decide +kernel
theorem d_Mo_answer_111 : decode b_Mo_answer 111 = .ok (.iload_n 2, 1) := by decide +kernel
theorem d_Mo_answer_112 : decode b_Mo_answer 112 = .ok (.iaload, 1) := by decide +kernel
theorem d_Mo_answer_113 : decode b_Mo_answer 113 = .ok (.iconst 1, 1) := by decide +kernel
theorem d_Mo_answer_114 : decode b_Mo_answer 114 = .ok (.isub, 1) := by decide +kernel
theorem d_Mo_answer_115 : decode b_Mo_answer 115 = .ok (.if_icmp .ge 49, 3) := by decide +kernel
theorem d_Mo_answer_118 : decode b_Mo_answer 118 = .ok (.iload_n 1, 1) := by decide +kernel
theorem d_Mo_answer_119 : decode b_Mo_answer 119 = .ok (.iconst (-1), 1) := by decide +kernel
theorem d_Mo_answer_120 : decode b_Mo_answer 120 = .ok (.if_icmp .eq 38, 3) := by decide +kernel
theorem d_Mo_answer_123 : decode b_Mo_answer 123 = .ok (.iload_n 1, 1) := by decide +kernel
theorem d_Mo_answer_124 : decode b_Mo_answer 124 = .ok (.aload_n 0, 1) := by decide +kernel
theorem d_Mo_answer_125 : decode b_Mo_answer 125 = .ok (.getfield 39, 3) := by decide +kernel
theorem d_Mo_answer_128 : decode b_Mo_answer 128 = .ok (.iload_n 2, 1) := by decide +kernel
theorem d_Mo_answer_129 : decode b_Mo_answer 129 = .ok (.bipush 6, 2) := by decide +kernel
theorem d_Mo_answer_131 : decode b_Mo_answer 131 = .ok (.imul, 1) := by decide +kernel
theorem d_Mo_answer_132 : decode b_Mo_answer 132 = .ok (.iload_n 3, 1) := by decide +kernel
theorem d_Mo_answer_133 : decode b_Mo_answer 133 = .ok (.iadd, 1) := by decide +kernel
theorem d_Mo_answer_134 : decode b_Mo_answer 134 = .ok (.iconst 4, 1) := by decide +kernel
theorem d_Mo_answer_135 : decode b_Mo_answer 135 = .ok (.imul, 1) := by decide +kernel
theorem d_Mo_answer_136 : decode b_Mo_answer 136 = .ok (.iaload, 1) := by decide +kernel
theorem d_Mo_answer_137 : decode b_Mo_answer 137 = .ok (.aload_n 0, 1) := by decide +kernel
theorem d_Mo_answer_138 : decode b_Mo_answer 138 = .ok (.getfield 39, 3) := by decide +kernel
theorem d_Mo_answer_141 : decode b_Mo_answer 141 = .ok (.iload_n 2, 1) := by decide +kernel
theorem d_Mo_answer_142 : decode b_Mo_answer 142 = .ok (.bipush 6, 2) := by decide +kernel
theorem d_Mo_answer_144 : decode b_Mo_answer 144 = .ok (.imul, 1) := by decide +kernel
theorem d_Mo_answer_145 : decode b_Mo_answer 145 = .ok (.iload_n 3, 1) := by decide +kernel
theorem d_Mo_answer_146 : decode b_Mo_answer 146 = .ok (.iadd, 1) := by decide +kernel
theorem d_Mo_answer_147 : decode b_Mo_answer 147 = .ok (.iconst 4, 1) := by decide +kernel
theorem d_Mo_answer_148 : decode b_Mo_answer 148 = .ok (.imul, 1) := by decide +kernel
theorem d_Mo_answer_149 : decode b_Mo_answer 149 = .ok (.iconst 1, 1) := by decide +kernel
theorem d_Mo_answer_150 : decode b_Mo_answer 150 = .ok (.iadd, 1) := by decide +kernel
theorem d_Mo_answer_151 : decode b_Mo_answer 151 = .ok (.iaload, 1) := by decide +kernel
theorem d_Mo_answer_152 : decode b_Mo_answer 152 = .ok (.invokestatic 72, 3) := by decide +kernel
theorem d_Mo_answer_155 : decode b_Mo_answer 155 = .ok (.ifCond .ne 9, 3) := by decide +kernel
theorem d_Mo_answer_158 : decode b_Mo_answer 158 = .ok (.iinc 3 1, 3) := by decide +kernel
theorem d_Mo_answer_161 : decode b_Mo_answer 161 = .ok (.goto (-55), 3) := by decide +kernel
theorem d_Mo_answer_164 : decode b_Mo_answer 164 = .ok (.iload_n 2, 1) := by decide +kernel
theorem d_Mo_answer_165 : decode b_Mo_answer 165 = .ok (.bipush 6, 2) := by decide +kernel
theorem d_Mo_answer_167 : decode b_Mo_answer 167 = .ok (.imul, 1) := by decide +kernel
theorem d_Mo_answer_168 : decode b_Mo_answer 168 = .ok (.iload_n 3, 1) := by decide +kernel
theorem d_Mo_answer_169 : decode b_Mo_answer 169 = .ok (.iadd, 1) := by decide +kernel
theorem d_Mo_answer_170 : decode b_Mo_answer 170 = .ok (.iconst 4, 1) := by decide +kernel
theorem d_Mo_answer_171 : decode b_Mo_answer 171 = .ok (.imul, 1) := by decide +kernel
theorem d_Mo_answer_172 : decode b_Mo_answer 172 = .ok (.istore 4, 2) := by decide +kernel
theorem d_Mo_answer_174 : decode b_Mo_answer 174 = .ok (.aload_n 0, 1) := by decide +kernel
theorem d_Mo_answer_175 : decode b_Mo_answer 175 = .ok (.aload_n 0, 1) := by decide +kernel
theorem d_Mo_answer_176 : decode b_Mo_answer 176 = .ok (.aload_n 0, 1) := by decide +kernel
theorem d_Mo_answer_177 : decode b_Mo_answer 177 = .ok (.getfield 39, 3) := by decide +kernel
theorem d_Mo_answer_180 : decode b_Mo_answer 180 = .ok (.iload 4, 2) := by decide +kernel
theorem d_Mo_answer_182 : decode b_Mo_answer 182 = .ok (.iconst 2, 1) := by decide +kernel
theorem d_Mo_answer_183 : decode b_Mo_answer 183 = .ok (.iadd, 1) := by decide +kernel
theorem d_Mo_answer_184 : decode b_Mo_answer 184 = .ok (.iaload, 1) := by decide +kernel
theorem d_Mo_answer_185 : decode b_Mo_answer 185 = .ok (.invokevirtual 151, 3) := by decide +kernel
theorem d_Mo_answer_188 : decode b_Mo_answer 188 = .ok (.ifCond .eq 16, 3) := by decide +kernel
theorem d_Mo_answer_191 : decode b_Mo_answer 191 = .ok (.aload_n 0, 1) := by decide +kernel
theorem d_Mo_answer_192 : decode b_Mo_answer 192 = .ok (.getfield 158, 3) := by decide +kernel
theorem d_Mo_answer_195 : decode b_Mo_answer 195 = .ok (.bipush 40, 2) := by decide +kernel
theorem d_Mo_answer_197 : decode b_Mo_answer 197 = .ok (.if_icmp .ne 7, 3) := by decide +kernel
theorem d_Mo_answer_200 : decode b_Mo_answer 200 = .ok (.iconst 2, 1) := by decide +kernel
theorem d_Mo_answer_201 : decode b_Mo_answer 201 = .ok (.goto 4, 3) := by decide +kernel
theorem d_Mo_answer_204 : decode b_Mo_answer 204 = .ok (.iconst 0, 1) := by decide +kernel
theorem d_Mo_answer_205 : decode b_Mo_answer 205 = .ok (.putfield 69, 3) := by decide +kernel
theorem d_Mo_answer_208 : decode b_Mo_answer 208 = .ok (.aload_n 0, 1) := by decide +kernel
theorem d_Mo_answer_209 : decode b_Mo_answer 209 = .ok (.getfield 69, 3) := by decide +kernel
theorem d_Mo_answer_212 : decode b_Mo_answer 212 = .ok (.ifCond .le 5, 3) := by decide +kernel
theorem d_Mo_answer_215 : decode b_Mo_answer 215 = .ok (.iconst 0, 1) := by decide +kernel
theorem d_Mo_answer_216 : decode b_Mo_answer 216 = .ok (.ireturn, 1) := by decide +kernel
theorem d_Mo_answer_217 : decode b_Mo_answer 217 = .ok (.aload_n 0, 1) := by decide +kernel
theorem d_Mo_answer_218 : decode b_Mo_answer 218 = .ok (.getfield 63, 3) := by decide +kernel
theorem d_Mo_answer_221 : decode b_Mo_answer 221 = .ok (.aload_n 0, 1) := by decide +kernel
theorem d_Mo_answer_222 : decode b_Mo_answer 222 = .ok (.getfield 155, 3) := by decide +kernel
theorem d_Mo_answer_225 : decode b_Mo_answer 225 = .ok (.iload_n 1, 1) := by decide +kernel
theorem d_Mo_answer_226 : decode b_Mo_answer 226 = .ok (.iastore, 1) := by decide +kernel
theorem d_Mo_answer_227 : decode b_Mo_answer 227 = .ok (.aload_n 0, 1) := by decide +kernel
theorem d_Mo_answer_228 : decode b_Mo_answer 228 = .ok (.aload_n 0, 1) := by decide +kernel
theorem d_Mo_answer_229 : decode b_Mo_answer 229 = .ok (.getfield 161, 3) := by decide +kernel
theorem d_Mo_answer_232 : decode b_Mo_answer 232 = .ok (.aload_n 0, 1) := by decide +kernel
theorem d_Mo_answer_233 : decode b_Mo_answer 233 = .ok (.getfield 39, 3) := by decide +kernel
theorem d_Mo_answer_236 : decode b_Mo_answer 236 = .ok (.iload 4, 2) := by decide +kernel
theorem d_Mo_answer_238 : decode b_Mo_answer 238 = .ok (.iconst 3, 1) := by decide +kernel
theorem d_Mo_answer_239 : decode b_Mo_answer 239 = .ok (.iadd, 1) := by decide +kernel
theorem d_Mo_answer_240 : decode b_Mo_answer 240 = .ok (.iaload, 1) := by decide +kernel
theorem d_Mo_answer_241 : decode b_Mo_answer 241 = .ok (.iadd, 1) := by decide +kernel
theorem d_Mo_answer_242 : decode b_Mo_answer 242 = .ok (.putfield 161, 3) := by decide +kernel
theorem d_Mo_answer_245 : decode b_Mo_answer 245 = .ok (.aload_n 0, 1) := by decide +kernel
theorem d_Mo_answer_246 : decode b_Mo_answer 246 = .ok (.aload_n 0, 1) := by decide +kernel
theorem d_Mo_answer_247 : decode b_Mo_answer 247 = .ok (.getfield 39, 3) := by decide +kernel
theorem d_Mo_answer_250 : decode b_Mo_answer 250 = .ok (.iload 4, 2) := by decide +kernel
theorem d_Mo_answer_252 : decode b_Mo_answer 252 = .ok (.iconst 2, 1) := by decide +kernel
theorem d_Mo_answer_253 : decode b_Mo_answer 253 = .ok (.iadd, 1) := by decide +kernel
theorem d_Mo_answer_254 : decode b_Mo_answer 254 = .ok (.iaload, 1) := by decide +kernel
theorem d_Mo_answer_255 : decode b_Mo_answer 255 = .ok (.invokevirtual 164, 3) := by decide +kernel
theorem d_Mo_answer_258 : decode b_Mo_answer 258 = .ok (.aload_n 0, 1) := by decide +kernel
theorem d_Mo_answer_259 : decode b_Mo_answer 259 = .ok (.getfield 155, 3) := by decide +kernel
theorem d_Mo_answer_262 : decode b_Mo_answer 262 = .ok (.ireturn, 1) := by decide +kernel
theorem d_Mo_kind_0 : decode b_Mo_kind 0 = .ok (.aload_n 0, 1) := by decide +kernel
theorem d_Mo_kind_1 : decode b_Mo_kind 1 = .ok (.iconst 0, 1) := by decide +kernel
theorem d_Mo_kind_2 : decode b_Mo_kind 2 = .ok (.putfield 69, 3) := by decide +kernel
theorem d_Mo_kind_5 : decode b_Mo_kind 5 = .ok (.aload_n 0, 1) := by decide +kernel
theorem d_Mo_kind_6 : decode b_Mo_kind 6 = .ok (.getfield 141, 3) := by decide +kernel
theorem d_Mo_kind_9 : decode b_Mo_kind 9 = .ok (.ireturn, 1) := by decide +kernel
theorem d_Mo_holds_0 : decode b_Mo_holds 0 = .ok (.aload_n 0, 1) := by decide +kernel
theorem d_Mo_holds_1 : decode b_Mo_holds 1 = .ok (.getfield 51, 3) := by decide +kernel
theorem d_Mo_holds_4 : decode b_Mo_holds 4 = .ok (.iload_n 1, 1) := by decide +kernel
theorem d_Mo_holds_5 : decode b_Mo_holds 5 = .ok (.iaload, 1) := by decide +kernel
theorem d_Mo_holds_6 : decode b_Mo_holds 6 = .ok (.ifCond .ne 10, 3) := by decide +kernel
theorem d_Mo_holds_9 : decode b_Mo_holds 9 = .ok (.aload_n 0, 1) := by decide +kernel
theorem d_Mo_holds_10 : decode b_Mo_holds 10 = .ok (.getfield 161, 3) := by decide +kernel
theorem d_Mo_holds_13 : decode b_Mo_holds 13 = .ok (.goto 14, 3) := by decide +kernel
theorem d_Mo_holds_16 : decode b_Mo_holds 16 = .ok (.aload_n 0, 1) := by decide +kernel
theorem d_Mo_holds_17 : decode b_Mo_holds 17 = .ok (.getfield 63, 3) := by decide +kernel
theorem d_Mo_holds_20 : decode b_Mo_holds 20 = .ok (.aload_n 0, 1) := by decide +kernel
theorem d_Mo_holds_21 : decode b_Mo_holds 21 = .ok (.getfield 51, 3) := by decide +kernel
theorem d_Mo_holds_24 : decode b_Mo_holds 24 = .ok (.iload_n 1, 1) := by decide +kernel
theorem d_Mo_holds_25 : decode b_Mo_holds 25 = .ok (.iaload, 1) := by decide +kernel
theorem d_Mo_holds_26 : decode b_Mo_holds 26 = .ok (.iaload, 1) := by decide +kernel
theorem d_Mo_holds_27 : decode b_Mo_holds 27 = .ok (.istore_n 2, 1) := by decide +kernel
theorem d_Mo_holds_28 : decode b_Mo_holds 28 = .ok (.aload_n 0, 1) := by decide +kernel
theorem d_Mo_holds_29 : decode b_Mo_holds 29 = .ok (.getfield 51, 3) := by decide +kernel
theorem d_Mo_holds_32 : decode b_Mo_holds 32 = .ok (.iload_n 1, 1) := by decide +kernel
theorem d_Mo_holds_33 : decode b_Mo_holds 33 = .ok (.iaload, 1) := by decide +kernel
theorem d_Mo_holds_34 : decode b_Mo_holds 34 = .ok (.ifCond .le 9, 3) := by decide +kernel
theorem d_Mo_holds_37 : decode b_Mo_holds 37 = .ok (.iload_n 2, 1) := by decide +kernel
theorem d_Mo_holds_38 : decode b_Mo_holds 38 = .ok (.ifCond .ge 5, 3) := by decide +kernel
theorem d_Mo_holds_41 : decode b_Mo_holds 41 = .ok (.iconst 0, 1) := by decide +kernel
theorem d_Mo_holds_42 : decode b_Mo_holds 42 = .ok (.ireturn, 1) := by decide +kernel
theorem d_Mo_holds_43 : decode b_Mo_holds 43 = .ok (.aload_n 0, 1) := by decide +kernel
theorem d_Mo_holds_44 : decode b_Mo_holds 44 = .ok (.getfield 51, 3) := by decide +kernel
theorem d_Mo_holds_47 : decode b_Mo_holds 47 = .ok (.iload_n 1, 1) := by decide +kernel
theorem d_Mo_holds_48 : decode b_Mo_holds 48 = .ok (.iconst 1, 1) := by decide +kernel
theorem d_Mo_holds_49 : decode b_Mo_holds 49 = .ok (.iadd, 1) := by decide +kernel
theorem d_Mo_holds_50 : decode b_Mo_holds 50 = .ok (.iaload, 1) := by decide +kernel
theorem d_Mo_holds_51 : decode b_Mo_holds 51 = .ok (.istore_n 3, 1) := by decide +kernel
theorem d_Mo_holds_52 : decode b_Mo_holds 52 = .ok (.iload_n 3, 1) := by decide +kernel
theorem d_Mo_holds_53 : decode b_Mo_holds 53 = .ok (.bipush 61, 2) := by decide +kernel
theorem d_Mo_holds_55 : decode b_Mo_holds 55 = .ok (.if_icmp .ne 23, 3) := by decide +kernel
theorem d_Mo_holds_58 : decode b_Mo_holds 58 = .ok (.iload_n 2, 1) := by decide +kernel
theorem d_Mo_holds_59 : decode b_Mo_holds 59 = .ok (.aload_n 0, 1) := by decide +kernel
theorem d_Mo_holds_60 : decode b_Mo_holds 60 = .ok (.getfield 51, 3) := by decide +kernel
theorem d_Mo_holds_63 : decode b_Mo_holds 63 = .ok (.iload_n 1, 1) := by decide +kernel
theorem d_Mo_holds_64 : decode b_Mo_holds 64 = .ok (.iconst 2, 1) := by decide +kernel
theorem d_Mo_holds_65 : decode b_Mo_holds 65 = .ok (.iadd, 1) := by decide +kernel
theorem d_Mo_holds_66 : decode b_Mo_holds 66 = .ok (.iaload, 1) := by decide +kernel
theorem d_Mo_holds_67 : decode b_Mo_holds 67 = .ok (.if_icmp .ne 7, 3) := by decide +kernel
theorem d_Mo_holds_70 : decode b_Mo_holds 70 = .ok (.iconst 1, 1) := by decide +kernel
theorem d_Mo_holds_71 : decode b_Mo_holds 71 = .ok (.goto 50, 3) := by decide +kernel
theorem d_Mo_holds_74 : decode b_Mo_holds 74 = .ok (.iconst 0, 1) := by decide +kernel
theorem d_Mo_holds_75 : decode b_Mo_holds 75 = .ok (.goto 46, 3) := by decide +kernel
theorem d_Mo_holds_78 : decode b_Mo_holds 78 = .ok (.iload_n 3, 1) := by decide +kernel
theorem d_Mo_holds_79 : decode b_Mo_holds 79 = .ok (.bipush 60, 2) := by decide +kernel
theorem d_Mo_holds_81 : decode b_Mo_holds 81 = .ok (.if_icmp .ne 23, 3) := by decide +kernel
theorem d_Mo_holds_84 : decode b_Mo_holds 84 = .ok (.iload_n 2, 1) := by decide +kernel
theorem d_Mo_holds_85 : decode b_Mo_holds 85 = .ok (.aload_n 0, 1) := by decide +kernel
theorem d_Mo_holds_86 : decode b_Mo_holds 86 = .ok (.getfield 51, 3) := by decide +kernel
theorem d_Mo_holds_89 : decode b_Mo_holds 89 = .ok (.iload_n 1, 1) := by decide +kernel
theorem d_Mo_holds_90 : decode b_Mo_holds 90 = .ok (.iconst 2, 1) := by decide +kernel
theorem d_Mo_holds_91 : decode b_Mo_holds 91 = .ok (.iadd, 1) := by decide +kernel
theorem d_Mo_holds_92 : decode b_Mo_holds 92 = .ok (.iaload, 1) := by decide +kernel
theorem d_Mo_holds_93 : decode b_Mo_holds 93 = .ok (.if_icmp .ge 7, 3) := by decide +kernel
theorem d_Mo_holds_96 : decode b_Mo_holds 96 = .ok (.iconst 1, 1) := by decide +kernel
theorem d_Mo_holds_97 : decode b_Mo_holds 97 = .ok (.goto 24, 3) := by decide +kernel
theorem d_Mo_holds_100 : decode b_Mo_holds 100 = .ok (.iconst 0, 1) := by decide +kernel
theorem d_Mo_holds_101 : decode b_Mo_holds 101 = .ok (.goto 20, 3) := by decide +kernel
theorem d_Mo_holds_104 : decode b_Mo_holds 104 = .ok (.iload_n 2, 1) := by decide +kernel
theorem d_Mo_holds_105 : decode b_Mo_holds 105 = .ok (.aload_n 0, 1) := by decide +kernel
theorem d_Mo_holds_106 : decode b_Mo_holds 106 = .ok (.getfield 51, 3) := by decide +kernel
theorem d_Mo_holds_109 : decode b_Mo_holds 109 = .ok (.iload_n 1, 1) := by decide +kernel
theorem d_Mo_holds_110 : decode b_Mo_holds 110 = .ok (.iconst 2, 1) := by decide +kernel
theorem d_Mo_holds_111 : decode b_Mo_holds 111 = .ok (.iadd, 1) := by decide +kernel
theorem d_Mo_holds_112 : decode b_Mo_holds 112 = .ok (.iaload, 1) := by decide +kernel
theorem d_Mo_holds_113 : decode b_Mo_holds 113 = .ok (.if_icmp .le 7, 3) := by decide +kernel
theorem d_Mo_holds_116 : decode b_Mo_holds 116 = .ok (.iconst 1, 1) := by decide +kernel
theorem d_Mo_holds_117 : decode b_Mo_holds 117 = .ok (.goto 4, 3) := by decide +kernel
theorem d_Mo_holds_120 : decode b_Mo_holds 120 = .ok (.iconst 0, 1) := by decide +kernel
theorem d_Mo_holds_121 : decode b_Mo_holds 121 = .ok (.ireturn, 1) := by decide +kernel
theorem d_Mo_priority_0 : decode b_Mo_priority 0 = .ok (.aload_n 0, 1) := by decide +kernel
theorem d_Mo_priority_1 : decode b_Mo_priority 1 = .ok (.aload_n 0, 1) := by decide +kernel
theorem d_Mo_priority_2 : decode b_Mo_priority 2 = .ok (.getfield 141, 3) := by decide +kernel
theorem d_Mo_priority_5 : decode b_Mo_priority 5 = .ok (.ifCond .ne 7, 3) := by decide +kernel
theorem d_Mo_priority_8 : decode b_Mo_priority 8 = .ok (.iconst 1, 1) := by decide +kernel
theorem d_Mo_priority_9 : decode b_Mo_priority 9 = .ok (.goto 4, 3) := by decide +kernel
theorem d_Mo_priority_12 : decode b_Mo_priority 12 = .ok (.iconst 0, 1) := by decide +kernel
theorem d_Mo_priority_13 : decode b_Mo_priority 13 = .ok (.putfield 69, 3) := by decide +kernel
theorem d_Mo_priority_16 : decode b_Mo_priority 16 = .ok (.aload_n 0, 1) := by decide +kernel
theorem d_Mo_priority_17 : decode b_Mo_priority 17 = .ok (.getfield 69, 3) := by decide +kernel
theorem d_Mo_priority_20 : decode b_Mo_priority 20 = .ok (.ifCond .le 5, 3) := by decide +kernel
theorem d_Mo_priority_23 : decode b_Mo_priority 23 = .ok (.iconst 0, 1) := by decide +kernel
theorem d_Mo_priority_24 : decode b_Mo_priority 24 = .ok (.ireturn, 1) := by decide +kernel
theorem d_Mo_priority_25 : decode b_Mo_priority 25 = .ok (.aload_n 0, 1) := by decide +kernel
theorem d_Mo_priority_26 : decode b_Mo_priority 26 = .ok (.getfield 126, 3) := by decide +kernel
theorem d_Mo_priority_29 : decode b_Mo_priority 29 = .ok (.bipush 10, 2) := by decide +kernel
theorem d_Mo_priority_31 : decode b_Mo_priority 31 = .ok (.imul, 1) := by decide +kernel
theorem d_Mo_priority_32 : decode b_Mo_priority 32 = .ok (.aload_n 0, 1) := by decide +kernel
theorem d_Mo_priority_33 : decode b_Mo_priority 33 = .ok (.getfield 141, 3) := by decide +kernel
theorem d_Mo_priority_36 : decode b_Mo_priority 36 = .ok (.iadd, 1) := by decide +kernel
theorem d_Mo_priority_37 : decode b_Mo_priority 37 = .ok (.istore_n 1, 1) := by decide +kernel
theorem d_Mo_priority_38 : decode b_Mo_priority 38 = .ok (.iconst 0, 1) := by decide +kernel
theorem d_Mo_priority_39 : decode b_Mo_priority 39 = .ok (.istore_n 2, 1) := by decide +kernel
theorem d_Mo_priority_40 : decode b_Mo_priority 40 = .ok (.iload_n 2, 1) := by decide +kernel
theorem d_Mo_priority_41 : decode b_Mo_priority 41 = .ok (.aload_n 0, 1) := by decide +kernel
theorem d_Mo_priority_42 : decode b_Mo_priority 42 = .ok (.getfield 48, 3) := by decide +kernel
theorem d_Mo_priority_45 : decode b_Mo_priority 45 = .ok (.iload_n 1, 1) := by decide +kernel
theorem d_Mo_priority_46 : decode b_Mo_priority 46 = .ok (.iaload, 1) := by decide +kernel
theorem d_Mo_priority_47 : decode b_Mo_priority 47 = .ok (.if_icmp .ge 83, 3) := by decide +kernel
theorem d_Mo_priority_50 : decode b_Mo_priority 50 = .ok (.iload_n 1, 1) := by decide +kernel
theorem d_Mo_priority_51 : decode b_Mo_priority 51 = .ok (.bipush 6, 2) := by decide +kernel
theorem d_Mo_priority_53 : decode b_Mo_priority 53 = .ok (.imul, 1) := by decide +kernel
theorem d_Mo_priority_54 : decode b_Mo_priority 54 = .ok (.iload_n 2, 1) := by decide +kernel
theorem d_Mo_priority_55 : decode b_Mo_priority 55 = .ok (.iadd, 1) := by decide +kernel
theorem d_Mo_priority_56 : decode b_Mo_priority 56 = .ok (.bipush 14, 2) := by decide +kernel
theorem d_Mo_priority_58 : decode b_Mo_priority 58 = .ok (.imul, 1) := by decide +kernel
theorem d_Mo_priority_59 : decode b_Mo_priority 59 = .ok (.istore_n 3, 1) := by decide +kernel
theorem d_Mo_priority_60 : decode b_Mo_priority 60 = .ok (.iconst 1, 1) := by decide +kernel
theorem d_Mo_priority_61 : decode b_Mo_priority 61 = .ok (.istore 4, 2) := by decide +kernel
theorem d_Mo_priority_63 : decode b_Mo_priority 63 = .ok (.iconst 0, 1) := by decide +kernel
theorem d_Mo_priority_64 : decode b_Mo_priority 64 = .ok (.istore 5, 2) := by decide +kernel
theorem d_Mo_priority_66 : decode b_Mo_priority 66 = .ok (.iload 5, 2) := by decide +kernel
theorem d_Mo_priority_68 : decode b_Mo_priority 68 = .ok (.aload_n 0, 1) := by decide +kernel
theorem d_Mo_priority_69 : decode b_Mo_priority 69 = .ok (.getfield 51, 3) := by decide +kernel
theorem d_Mo_priority_72 : decode b_Mo_priority 72 = .ok (.iload_n 3, 1) := by decide +kernel
theorem d_Mo_priority_73 : decode b_Mo_priority 73 = .ok (.iconst 1, 1) := by decide +kernel
theorem d_Mo_priority_74 : decode b_Mo_priority 74 = .ok (.iadd, 1) := by decide +kernel
theorem d_Mo_priority_75 : decode b_Mo_priority 75 = .ok (.iaload, 1) := by decide +kernel
theorem d_Mo_priority_76 : decode b_Mo_priority 76 = .ok (.if_icmp .ge 36, 3) := by decide +kernel
theorem d_Mo_priority_79 : decode b_Mo_priority 79 = .ok (.iload 4, 2) := by decide +kernel
theorem d_Mo_priority_81 : decode b_Mo_priority 81 = .ok (.ifCond .eq 22, 3) := by decide +kernel
theorem d_Mo_priority_84 : decode b_Mo_priority 84 = .ok (.aload_n 0, 1) := by decide +kernel
theorem d_Mo_priority_85 : decode b_Mo_priority 85 = .ok (.iload_n 3, 1) := by decide +kernel
theorem d_Mo_priority_86 : decode b_Mo_priority 86 = .ok (.iconst 2, 1) := by decide +kernel
theorem d_Mo_priority_87 : decode b_Mo_priority 87 = .ok (.iadd, 1) := by decide +kernel
theorem d_Mo_priority_88 : decode b_Mo_priority 88 = .ok (.iconst 3, 1) := by decide +kernel
theorem d_Mo_priority_89 : decode b_Mo_priority 89 = .ok (.iload 5, 2) := by decide +kernel
theorem d_Mo_priority_91 : decode b_Mo_priority 91 = .ok (.imul, 1) := by decide +kernel
theorem d_Mo_priority_92 : decode b_Mo_priority 92 = .ok (.iadd, 1) := by decide +kernel
theorem d_Mo_priority_93 : decode b_Mo_priority 93 = .ok (.invokevirtual 167, 3) := by decide +kernel
theorem d_Mo_priority_96 : decode b_Mo_priority 96 = .ok (.ifCond .eq 7, 3) := by decide +kernel
theorem d_Mo_priority_99 : decode b_Mo_priority 99 = .ok (.iconst 1, 1) := by decide +kernel
theorem d_Mo_priority_100 : decode b_Mo_priority 100 = .ok (.goto 4, 3) := by decide +kernel
theorem d_Mo_priority_103 : decode b_Mo_priority 103 = .ok (.iconst 0, 1) := by decide +kernel
theorem d_Mo_priority_104 : decode b_Mo_priority 104 = .ok (.istore 4, 2) := by decide +kernel
theorem d_Mo_priority_106 : decode b_Mo_priority 106 = .ok (.iinc 5 1, 3) := by decide +kernel
theorem d_Mo_priority_109 : decode b_Mo_priority 109 = .ok (.goto (-43), 3) := by decide +kernel
theorem d_Mo_priority_112 : decode b_Mo_priority 112 = .ok (.iload 4, 2) := by decide +kernel
theorem d_Mo_priority_114 : decode b_Mo_priority 114 = .ok (.ifCond .eq 10, 3) := by decide +kernel
theorem d_Mo_priority_117 : decode b_Mo_priority 117 = .ok (.aload_n 0, 1) := by decide +kernel
theorem d_Mo_priority_118 : decode b_Mo_priority 118 = .ok (.getfield 51, 3) := by decide +kernel
theorem d_Mo_priority_121 : decode b_Mo_priority 121 = .ok (.iload_n 3, 1) := by decide +kernel
theorem d_Mo_priority_122 : decode b_Mo_priority 122 = .ok (.iaload, 1) := by decide +kernel
theorem d_Mo_priority_123 : decode b_Mo_priority 123 = .ok (.ireturn, 1) := by decide +kernel
theorem d_Mo_priority_124 : decode b_Mo_priority 124 = .ok (.iinc 2 1, 3) := by decide +kernel
theorem d_Mo_priority_127 : decode b_Mo_priority 127 = .ok (.goto (-87), 3) := by decide +kernel
theorem d_Mo_priority_130 : decode b_Mo_priority 130 = .ok (.aload_n 0, 1) := by decide +kernel
theorem d_Mo_priority_131 : decode b_Mo_priority 131 = .ok (.getfield 45, 3) := by decide +kernel
theorem d_Mo_priority_134 : decode b_Mo_priority 134 = .ok (.iload_n 1, 1) := by decide +kernel
theorem d_Mo_priority_135 : decode b_Mo_priority 135 = .ok (.iaload, 1) := by decide +kernel
theorem d_Mo_priority_136 : decode b_Mo_priority 136 = .ok (.ireturn, 1) := by decide +kernel
theorem d_Mo_points_0 : decode b_Mo_points 0 = .ok (.aload_n 0, 1) := by decide +kernel
theorem d_Mo_points_1 : decode b_Mo_points 1 = .ok (.aload_n 0, 1) := by decide +kernel
theorem d_Mo_points_2 : decode b_Mo_points 2 = .ok (.getfield 141, 3) := by decide +kernel
theorem d_Mo_points_5 : decode b_Mo_points 5 = .ok (.ifCond .ne 7, 3) := by decide +kernel
theorem d_Mo_points_8 : decode b_Mo_points 8 = .ok (.iconst 1, 1) := by decide +kernel
theorem d_Mo_points_9 : decode b_Mo_points 9 = .ok (.goto 4, 3) := by decide +kernel
theorem d_Mo_points_12 : decode b_Mo_points 12 = .ok (.iconst 0, 1) := by decide +kernel
theorem d_Mo_points_13 : decode b_Mo_points 13 = .ok (.putfield 69, 3) := by decide +kernel
theorem d_Mo_points_16 : decode b_Mo_points 16 = .ok (.aload_n 0, 1) := by decide +kernel
theorem d_Mo_points_17 : decode b_Mo_points 17 = .ok (.getfield 69, 3) := by decide +kernel
theorem d_Mo_points_20 : decode b_Mo_points 20 = .ok (.ifCond .le 7, 3) := by decide +kernel
theorem d_Mo_points_23 : decode b_Mo_points 23 = .ok (.iconst 0, 1) := by decide +kernel
theorem d_Mo_points_24 : decode b_Mo_points 24 = .ok (.goto 7, 3) := by decide +kernel
theorem d_Mo_points_27 : decode b_Mo_points 27 = .ok (.aload_n 0, 1) := by decide +kernel
theorem d_Mo_points_28 : decode b_Mo_points 28 = .ok (.getfield 161, 3) := by decide +kernel
theorem d_Mo_points_31 : decode b_Mo_points 31 = .ok (.ireturn, 1) := by decide +kernel
theorem d_Mo_asked_0 : decode b_Mo_asked 0 = .ok (.aload_n 0, 1) := by decide +kernel
theorem d_Mo_asked_1 : decode b_Mo_asked 1 = .ok (.iload_n 1, 1) := by decide +kernel
theorem d_Mo_asked_2 : decode b_Mo_asked 2 = .ok (.ifCond .lt 7, 3) := by decide +kernel
theorem d_Mo_asked_5 : decode b_Mo_asked 5 = .ok (.iconst 1, 1) := by decide +kernel
theorem d_Mo_asked_6 : decode b_Mo_asked 6 = .ok (.goto 4, 3) := by decide +kernel
theorem d_Mo_asked_9 : decode b_Mo_asked 9 = .ok (.iconst 0, 1) := by decide +kernel
theorem d_Mo_asked_10 : decode b_Mo_asked 10 = .ok (.invokevirtual 147, 3) := by decide +kernel
theorem d_Mo_asked_13 : decode b_Mo_asked 13 = .ok (.ifCond .ne 5, 3) := by decide +kernel
theorem d_Mo_asked_16 : decode b_Mo_asked 16 = .ok (.iconst 0, 1) := by decide +kernel
theorem d_Mo_asked_17 : decode b_Mo_asked 17 = .ok (.ireturn, 1) := by decide +kernel
theorem d_Mo_asked_18 : decode b_Mo_asked 18 = .ok (.aload_n 0, 1) := by decide +kernel
theorem d_Mo_asked_19 : decode b_Mo_asked 19 = .ok (.getfield 141, 3) := by decide +kernel
theorem d_Mo_asked_22 : decode b_Mo_asked 22 = .ok (.ifCond .le 20, 3) := by decide +kernel
theorem d_Mo_asked_25 : decode b_Mo_asked 25 = .ok (.iload_n 1, 1) := by decide +kernel
theorem d_Mo_asked_26 : decode b_Mo_asked 26 = .ok (.aload_n 0, 1) := by decide +kernel
theorem d_Mo_asked_27 : decode b_Mo_asked 27 = .ok (.getfield 158, 3) := by decide +kernel
theorem d_Mo_asked_30 : decode b_Mo_asked 30 = .ok (.if_icmp .ge 12, 3) := by decide +kernel
theorem d_Mo_asked_33 : decode b_Mo_asked 33 = .ok (.aload_n 0, 1) := by decide +kernel
theorem d_Mo_asked_34 : decode b_Mo_asked 34 = .ok (.getfield 60, 3) := by decide +kernel
theorem d_Mo_asked_37 : decode b_Mo_asked 37 = .ok (.iload_n 1, 1) := by decide +kernel
theorem d_Mo_asked_38 : decode b_Mo_asked 38 = .ok (.iaload, 1) := by decide +kernel
theorem d_Mo_asked_39 : decode b_Mo_asked 39 = .ok (.goto 4, 3) := by decide +kernel
theorem d_Mo_asked_42 : decode b_Mo_asked 42 = .ok (.iconst 0, 1) := by decide +kernel
theorem d_Mo_asked_43 : decode b_Mo_asked 43 = .ok (.ireturn, 1) := by decide +kernel
theorem d_Mo_spreads_0 : decode b_Mo_spreads 0 = .ok (.iconst 0, 1) := by decide +kernel
theorem d_Mo_spreads_1 : decode b_Mo_spreads 1 = .ok (.istore_n 1, 1) := by decide +kernel
theorem d_Mo_spreads_2 : decode b_Mo_spreads 2 = .ok (.iconst 1, 1) := by decide +kernel
theorem d_Mo_spreads_3 : decode b_Mo_spreads 3 = .ok (.istore_n 2, 1) := by decide +kernel
theorem d_Mo_spreads_4 : decode b_Mo_spreads 4 = .ok (.iload_n 2, 1) := by decide +kernel
theorem d_Mo_spreads_5 : decode b_Mo_spreads 5 = .ok (.ifCond .eq 116, 3) := by decide +kernel
theorem d_Mo_spreads_8 : decode b_Mo_spreads 8 = .ok (.iconst 0, 1) := by decide +kernel
theorem d_Mo_spreads_9 : decode b_Mo_spreads 9 = .ok (.istore_n 2, 1) := by decide +kernel
theorem d_Mo_spreads_10 : decode b_Mo_spreads 10 = .ok (.iconst 1, 1) := by decide +kernel
theorem d_Mo_spreads_11 : decode b_Mo_spreads 11 = .ok (.istore_n 3, 1) := by decide +kernel
theorem d_Mo_spreads_12 : decode b_Mo_spreads 12 = .ok (.iload_n 3, 1) := by decide +kernel
theorem d_Mo_spreads_13 : decode b_Mo_spreads 13 = .ok (.bipush 61, 2) := by decide +kernel
theorem d_Mo_spreads_15 : decode b_Mo_spreads 15 = .ok (.if_icmp .ge 103, 3) := by decide +kernel
theorem d_Mo_spreads_18 : decode b_Mo_spreads 18 = .ok (.aload_n 0, 1) := by decide +kernel
theorem d_Mo_spreads_19 : decode b_Mo_spreads 19 = .ok (.getfield 126, 3) := by decide +kernel
theorem d_Mo_spreads_22 : decode b_Mo_spreads 22 = .ok (.bipush 61, 2) := by decide +kernel
theorem d_Mo_spreads_24 : decode b_Mo_spreads 24 = .ok (.imul, 1) := by decide +kernel
theorem d_Mo_spreads_25 : decode b_Mo_spreads 25 = .ok (.iload_n 3, 1) := by decide +kernel
theorem d_Mo_spreads_26 : decode b_Mo_spreads 26 = .ok (.iadd, 1) := by decide +kernel
theorem d_Mo_spreads_27 : decode b_Mo_spreads 27 = .ok (.istore 4, 2) := by decide +kernel
theorem d_Mo_spreads_29 : decode b_Mo_spreads 29 = .ok (.iconst 0, 1) := by decide +kernel
theorem d_Mo_spreads_30 : decode b_Mo_spreads 30 = .ok (.istore 5, 2) := by decide +kernel
theorem d_Mo_spreads_32 : decode b_Mo_spreads 32 = .ok (.iload 5, 2) := by decide +kernel
theorem d_Mo_spreads_34 : decode b_Mo_spreads 34 = .ok (.aload_n 0, 1) := by decide +kernel
theorem d_Mo_spreads_35 : decode b_Mo_spreads 35 = .ok (.getfield 36, 3) := by decide +kernel
theorem d_Mo_spreads_38 : decode b_Mo_spreads 38 = .ok (.iload 4, 2) := by decide +kernel
theorem d_Mo_spreads_40 : decode b_Mo_spreads 40 = .ok (.iaload, 1) := by decide +kernel
theorem d_Mo_spreads_41 : decode b_Mo_spreads 41 = .ok (.if_icmp .ge 71, 3) := by decide +kernel
theorem d_Mo_spreads_44 : decode b_Mo_spreads 44 = .ok (.aload_n 0, 1) := by decide +kernel
theorem d_Mo_spreads_45 : decode b_Mo_spreads 45 = .ok (.getfield 66, 3) := by decide +kernel
theorem d_Mo_spreads_48 : decode b_Mo_spreads 48 = .ok (.iload_n 3, 1) := by decide +kernel
theorem d_Mo_spreads_49 : decode b_Mo_spreads 49 = .ok (.baload, 1) := by decide +kernel
theorem d_Mo_spreads_50 : decode b_Mo_spreads 50 = .ok (.ifCond .eq 62, 3) := by decide +kernel
theorem d_Mo_spreads_53 : decode b_Mo_spreads 53 = .ok (.aload_n 0, 1) := by decide +kernel
theorem d_Mo_spreads_54 : decode b_Mo_spreads 54 = .ok (.getfield 39, 3) := by decide +kernel
theorem d_Mo_spreads_57 : decode b_Mo_spreads 57 = .ok (.iload 4, 2) := by decide +kernel
theorem d_Mo_spreads_59 : decode b_Mo_spreads 59 = .ok (.bipush 6, 2) := by decide +kernel
theorem d_Mo_spreads_61 : decode b_Mo_spreads 61 = .ok (.imul, 1) := by decide +kernel
theorem d_Mo_spreads_62 : decode b_Mo_spreads 62 = .ok (.iload 5, 2) := by decide +kernel
theorem d_Mo_spreads_64 : decode b_Mo_spreads 64 = .ok (.iadd, 1) := by decide +kernel
theorem d_Mo_spreads_65 : decode b_Mo_spreads 65 = .ok (.iconst 4, 1) := by decide +kernel
theorem d_Mo_spreads_66 : decode b_Mo_spreads 66 = .ok (.imul, 1) := by decide +kernel
theorem d_Mo_spreads_67 : decode b_Mo_spreads 67 = .ok (.iconst 2, 1) := by decide +kernel
theorem d_Mo_spreads_68 : decode b_Mo_spreads 68 = .ok (.iadd, 1) := by decide +kernel
theorem d_Mo_spreads_69 : decode b_Mo_spreads 69 = .ok (.iaload, 1) := by decide +kernel
theorem d_Mo_spreads_70 : decode b_Mo_spreads 70 = .ok (.istore 6, 2) := by decide +kernel
theorem d_Mo_spreads_72 : decode b_Mo_spreads 72 = .ok (.aload_n 0, 1) := by decide +kernel
theorem d_Mo_spreads_73 : decode b_Mo_spreads 73 = .ok (.iload 6, 2) := by decide +kernel
theorem d_Mo_spreads_75 : decode b_Mo_spreads 75 = .ok (.invokevirtual 151, 3) := by decide +kernel
theorem d_Mo_spreads_78 : decode b_Mo_spreads 78 = .ok (.ifCond .ne 8, 3) := by decide +kernel
theorem d_Mo_spreads_81 : decode b_Mo_spreads 81 = .ok (.iconst 1, 1) := by decide +kernel
theorem d_Mo_spreads_82 : decode b_Mo_spreads 82 = .ok (.istore_n 1, 1) := by decide +kernel
theorem d_Mo_spreads_83 : decode b_Mo_spreads 83 = .ok (.goto 23, 3) := by decide +kernel
theorem d_Mo_spreads_86 : decode b_Mo_spreads 86 = .ok (.aload_n 0, 1) := by decide +kernel
theorem d_Mo_spreads_87 : decode b_Mo_spreads 87 = .ok (.getfield 66, 3) := by decide +kernel
theorem d_Mo_spreads_90 : decode b_Mo_spreads 90 = .ok (.iload 6, 2) := by decide +kernel
theorem d_Mo_spreads_92 : decode b_Mo_spreads 92 = .ok (.baload, 1) := by decide +kernel
theorem d_Mo_spreads_93 : decode b_Mo_spreads 93 = .ok (.ifCond .ne 13, 3) := by decide +kernel
theorem d_Mo_spreads_96 : decode b_Mo_spreads 96 = .ok (.aload_n 0, 1) := by decide +kernel
theorem d_Mo_spreads_97 : decode b_Mo_spreads 97 = .ok (.getfield 66, 3) := by decide +kernel
theorem d_Mo_spreads_100 : decode b_Mo_spreads 100 = .ok (.iload 6, 2) := by decide +kernel
theorem d_Mo_spreads_102 : decode b_Mo_spreads 102 = .ok (.iconst 1, 1) := by decide +kernel
theorem d_Mo_spreads_103 : decode b_Mo_spreads 103 = .ok (.bastore, 1) := by decide +kernel
theorem d_Mo_spreads_104 : decode b_Mo_spreads 104 = .ok (.iconst 1, 1) := by decide +kernel
theorem d_Mo_spreads_105 : decode b_Mo_spreads 105 = .ok (.istore_n 2, 1) := by decide +kernel
theorem d_Mo_spreads_106 : decode b_Mo_spreads 106 = .ok (.iinc 5 1, 3) := by decide +kernel
theorem d_Mo_spreads_109 : decode b_Mo_spreads 109 = .ok (.goto (-77), 3) := by decide +kernel
theorem d_Mo_spreads_112 : decode b_Mo_spreads 112 = .ok (.iinc 3 1, 3) := by decide +kernel
theorem d_Mo_spreads_115 : decode b_Mo_spreads 115 = .ok (.goto (-103), 3) := by decide +kernel
theorem d_Mo_spreads_118 : decode b_Mo_spreads 118 = .ok (.goto (-114), 3) := by decide +kernel
theorem d_Mo_spreads_121 : decode b_Mo_spreads 121 = .ok (.iload_n 1, 1) := by decide +kernel
theorem d_Mo_spreads_122 : decode b_Mo_spreads 122 = .ok (.ireturn, 1) := by decide +kernel
theorem d_Mo_unmark_0 : decode b_Mo_unmark 0 = .ok (.iconst 0, 1) := by decide +kernel
theorem d_Mo_unmark_1 : decode b_Mo_unmark 1 = .ok (.istore_n 1, 1) := by decide +kernel
theorem d_Mo_unmark_2 : decode b_Mo_unmark 2 = .ok (.iload_n 1, 1) := by decide +kernel
theorem d_Mo_unmark_3 : decode b_Mo_unmark 3 = .ok (.bipush 61, 2) := by decide +kernel
theorem d_Mo_unmark_5 : decode b_Mo_unmark 5 = .ok (.if_icmp .ge 16, 3) := by decide +kernel
theorem d_Mo_unmark_8 : decode b_Mo_unmark 8 = .ok (.aload_n 0, 1) := by decide +kernel
theorem d_Mo_unmark_9 : decode b_Mo_unmark 9 = .ok (.getfield 66, 3) := by decide +kernel
theorem d_Mo_unmark_12 : decode b_Mo_unmark 12 = .ok (.iload_n 1, 1) := by decide +kernel
theorem d_Mo_unmark_13 : decode b_Mo_unmark 13 = .ok (.iconst 0, 1) := by decide +kernel
theorem d_Mo_unmark_14 : decode b_Mo_unmark 14 = .ok (.bastore, 1) := by decide +kernel
theorem d_Mo_unmark_15 : decode b_Mo_unmark 15 = .ok (.iinc 1 1, 3) := by decide +kernel
theorem d_Mo_unmark_18 : decode b_Mo_unmark 18 = .ok (.goto (-16), 3) := by decide +kernel
theorem d_Mo_unmark_21 : decode b_Mo_unmark 21 = .ok (.return_, 1) := by decide +kernel
theorem d_Mo_loops_0 : decode b_Mo_loops 0 = .ok (.aload_n 0, 1) := by decide +kernel
theorem d_Mo_loops_1 : decode b_Mo_loops 1 = .ok (.invokevirtual 170, 3) := by decide +kernel
theorem d_Mo_loops_4 : decode b_Mo_loops 4 = .ok (.aload_n 0, 1) := by decide +kernel
theorem d_Mo_loops_5 : decode b_Mo_loops 5 = .ok (.getfield 126, 3) := by decide +kernel
theorem d_Mo_loops_8 : decode b_Mo_loops 8 = .ok (.bipush 61, 2) := by decide +kernel
theorem d_Mo_loops_10 : decode b_Mo_loops 10 = .ok (.imul, 1) := by decide +kernel
theorem d_Mo_loops_11 : decode b_Mo_loops 11 = .ok (.iload_n 1, 1) := by decide +kernel
theorem d_Mo_loops_12 : decode b_Mo_loops 12 = .ok (.iadd, 1) := by decide +kernel
theorem d_Mo_loops_13 : decode b_Mo_loops 13 = .ok (.istore_n 2, 1) := by decide +kernel
theorem d_Mo_loops_14 : decode b_Mo_loops 14 = .ok (.iconst 0, 1) := by decide +kernel
theorem d_Mo_loops_15 : decode b_Mo_loops 15 = .ok (.istore_n 3, 1) := by decide +kernel
theorem d_Mo_loops_16 : decode b_Mo_loops 16 = .ok (.iload_n 3, 1) := by decide +kernel
theorem d_Mo_loops_17 : decode b_Mo_loops 17 = .ok (.aload_n 0, 1) := by decide +kernel
theorem d_Mo_loops_18 : decode b_Mo_loops 18 = .ok (.getfield 36, 3) := by decide +kernel
theorem d_Mo_loops_21 : decode b_Mo_loops 21 = .ok (.iload_n 2, 1) := by decide +kernel
theorem d_Mo_loops_22 : decode b_Mo_loops 22 = .ok (.iaload, 1) := by decide +kernel
theorem d_Mo_loops_23 : decode b_Mo_loops 23 = .ok (.if_icmp .ge 43, 3) := by decide +kernel
theorem d_Mo_loops_26 : decode b_Mo_loops 26 = .ok (.aload_n 0, 1) := by decide +kernel
theorem d_Mo_loops_27 : decode b_Mo_loops 27 = .ok (.getfield 39, 3) := by decide +kernel
theorem d_Mo_loops_30 : decode b_Mo_loops 30 = .ok (.iload_n 2, 1) := by decide +kernel
theorem d_Mo_loops_31 : decode b_Mo_loops 31 = .ok (.bipush 6, 2) := by decide +kernel
theorem d_Mo_loops_33 : decode b_Mo_loops 33 = .ok (.imul, 1) := by decide +kernel
theorem d_Mo_loops_34 : decode b_Mo_loops 34 = .ok (.iload_n 3, 1) := by decide +kernel
theorem d_Mo_loops_35 : decode b_Mo_loops 35 = .ok (.iadd, 1) := by decide +kernel
theorem d_Mo_loops_36 : decode b_Mo_loops 36 = .ok (.iconst 4, 1) := by decide +kernel
theorem d_Mo_loops_37 : decode b_Mo_loops 37 = .ok (.imul, 1) := by decide +kernel
theorem d_Mo_loops_38 : decode b_Mo_loops 38 = .ok (.iconst 2, 1) := by decide +kernel
theorem d_Mo_loops_39 : decode b_Mo_loops 39 = .ok (.iadd, 1) := by decide +kernel
theorem d_Mo_loops_40 : decode b_Mo_loops 40 = .ok (.iaload, 1) := by decide +kernel
theorem d_Mo_loops_41 : decode b_Mo_loops 41 = .ok (.istore 4, 2) := by decide +kernel
theorem d_Mo_loops_43 : decode b_Mo_loops 43 = .ok (.aload_n 0, 1) := by decide +kernel
theorem d_Mo_loops_44 : decode b_Mo_loops 44 = .ok (.iload 4, 2) := by decide +kernel
theorem d_Mo_loops_46 : decode b_Mo_loops 46 = .ok (.invokevirtual 151, 3) := by decide +kernel
theorem d_Mo_loops_49 : decode b_Mo_loops 49 = .ok (.ifCond .eq 11, 3) := by decide +kernel
theorem d_Mo_loops_52 : decode b_Mo_loops 52 = .ok (.aload_n 0, 1) := by decide +kernel
theorem d_Mo_loops_53 : decode b_Mo_loops 53 = .ok (.getfield 66, 3) := by decide +kernel
theorem d_Mo_loops_56 : decode b_Mo_loops 56 = .ok (.iload 4, 2) := by decide +kernel
theorem d_Mo_loops_58 : decode b_Mo_loops 58 = .ok (.iconst 1, 1) := by decide +kernel
theorem d_Mo_loops_59 : decode b_Mo_loops 59 = .ok (.bastore, 1) := by decide +kernel
theorem d_Mo_loops_60 : decode b_Mo_loops 60 = .ok (.iinc 3 1, 3) := by decide +kernel
theorem d_Mo_loops_63 : decode b_Mo_loops 63 = .ok (.goto (-47), 3) := by decide +kernel
theorem d_Mo_loops_66 : decode b_Mo_loops 66 = .ok (.aload_n 0, 1) := by decide +kernel
theorem d_Mo_loops_67 : decode b_Mo_loops 67 = .ok (.invokevirtual 173, 3) := by decide +kernel
theorem d_Mo_loops_70 : decode b_Mo_loops 70 = .ok (.istore_n 3, 1) := by decide +kernel
theorem d_Mo_loops_71 : decode b_Mo_loops 71 = .ok (.aload_n 0, 1) := by decide +kernel
theorem d_Mo_loops_72 : decode b_Mo_loops 72 = .ok (.getfield 66, 3) := by decide +kernel
theorem d_Mo_loops_75 : decode b_Mo_loops 75 = .ok (.iload_n 1, 1) := by decide +kernel
theorem d_Mo_loops_76 : decode b_Mo_loops 76 = .ok (.baload, 1) := by decide +kernel
theorem d_Mo_loops_77 : decode b_Mo_loops 77 = .ok (.ireturn, 1) := by decide +kernel
theorem d_Mo_loop_0 : decode b_Mo_loop 0 = .ok (.aload_n 0, 1) := by decide +kernel
theorem d_Mo_loop_1 : decode b_Mo_loop 1 = .ok (.iload_n 1, 1) := by decide +kernel
theorem d_Mo_loop_2 : decode b_Mo_loop 2 = .ok (.ifCond .lt 7, 3) := by decide +kernel
theorem d_Mo_loop_5 : decode b_Mo_loop 5 = .ok (.iconst 1, 1) := by decide +kernel
theorem d_Mo_loop_6 : decode b_Mo_loop 6 = .ok (.goto 4, 3) := by decide +kernel
theorem d_Mo_loop_9 : decode b_Mo_loop 9 = .ok (.iconst 0, 1) := by decide +kernel
theorem d_Mo_loop_10 : decode b_Mo_loop 10 = .ok (.invokevirtual 147, 3) := by decide +kernel
theorem d_Mo_loop_13 : decode b_Mo_loop 13 = .ok (.ifCond .ne 5, 3) := by decide +kernel
theorem d_Mo_loop_16 : decode b_Mo_loop 16 = .ok (.iconst 0, 1) := by decide +kernel
theorem d_Mo_loop_17 : decode b_Mo_loop 17 = .ok (.ireturn, 1) := by decide +kernel
theorem d_Mo_loop_18 : decode b_Mo_loop 18 = .ok (.iload_n 1, 1) := by decide +kernel
theorem d_Mo_loop_19 : decode b_Mo_loop 19 = .ok (.istore_n 2, 1) := by decide +kernel
theorem d_Mo_loop_20 : decode b_Mo_loop 20 = .ok (.iconst 1, 1) := by decide +kernel
theorem d_Mo_loop_21 : decode b_Mo_loop 21 = .ok (.istore_n 3, 1) := by decide +kernel
theorem d_Mo_loop_22 : decode b_Mo_loop 22 = .ok (.iload_n 3, 1) := by decide +kernel
theorem d_Mo_loop_23 : decode b_Mo_loop 23 = .ok (.bipush 61, 2) := by decide +kernel
theorem d_Mo_loop_25 : decode b_Mo_loop 25 = .ok (.if_icmp .ge 37, 3) := by decide +kernel
theorem d_Mo_loop_28 : decode b_Mo_loop 28 = .ok (.aload_n 0, 1) := by decide +kernel
theorem d_Mo_loop_29 : decode b_Mo_loop 29 = .ok (.iload_n 3, 1) := by decide +kernel
theorem d_Mo_loop_30 : decode b_Mo_loop 30 = .ok (.invokevirtual 151, 3) := by decide +kernel
theorem d_Mo_loop_33 : decode b_Mo_loop 33 = .ok (.ifCond .eq 23, 3) := by decide +kernel
theorem d_Mo_loop_36 : decode b_Mo_loop 36 = .ok (.aload_n 0, 1) := by decide +kernel
theorem d_Mo_loop_37 : decode b_Mo_loop 37 = .ok (.iload_n 3, 1) := by decide +kernel
theorem d_Mo_loop_38 : decode b_Mo_loop 38 = .ok (.invokevirtual 176, 3) := by decide +kernel
theorem d_Mo_loop_41 : decode b_Mo_loop 41 = .ok (.ifCond .ne 6, 3) := by decide +kernel
theorem d_Mo_loop_44 : decode b_Mo_loop 44 = .ok (.goto 12, 3) := by decide +kernel
theorem d_Mo_loop_47 : decode b_Mo_loop 47 = .ok (.iload_n 2, 1) := by decide +kernel
theorem d_Mo_loop_48 : decode b_Mo_loop 48 = .ok (.ifCond .ne 5, 3) := by decide +kernel
theorem d_Mo_loop_51 : decode b_Mo_loop 51 = .ok (.iload_n 3, 1) := by decide +kernel
theorem d_Mo_loop_52 : decode b_Mo_loop 52 = .ok (.ireturn, 1) := by decide +kernel
theorem d_Mo_loop_53 : decode b_Mo_loop 53 = .ok (.iinc 2 (-1), 3) := by decide +kernel
theorem d_Mo_loop_56 : decode b_Mo_loop 56 = .ok (.iinc 3 1, 3) := by decide +kernel
theorem d_Mo_loop_59 : decode b_Mo_loop 59 = .ok (.goto (-37), 3) := by decide +kernel
theorem d_Mo_loop_62 : decode b_Mo_loop 62 = .ok (.iconst 0, 1) := by decide +kernel
theorem d_Mo_loop_63 : decode b_Mo_loop 63 = .ok (.ireturn, 1) := by decide +kernel
theorem d_Mo_never_0 : decode b_Mo_never 0 = .ok (.aload_n 0, 1) := by decide +kernel
theorem d_Mo_never_1 : decode b_Mo_never 1 = .ok (.iload_n 1, 1) := by decide +kernel
theorem d_Mo_never_2 : decode b_Mo_never 2 = .ok (.ifCond .lt 7, 3) := by decide +kernel
theorem d_Mo_never_5 : decode b_Mo_never 5 = .ok (.iconst 1, 1) := by decide +kernel
theorem d_Mo_never_6 : decode b_Mo_never 6 = .ok (.goto 4, 3) := by decide +kernel
theorem d_Mo_never_9 : decode b_Mo_never 9 = .ok (.iconst 0, 1) := by decide +kernel
theorem d_Mo_never_10 : decode b_Mo_never 10 = .ok (.invokevirtual 147, 3) := by decide +kernel
theorem d_Mo_never_13 : decode b_Mo_never 13 = .ok (.ifCond .ne 5, 3) := by decide +kernel
theorem d_Mo_never_16 : decode b_Mo_never 16 = .ok (.iconst 0, 1) := by decide +kernel
theorem d_Mo_never_17 : decode b_Mo_never 17 = .ok (.ireturn, 1) := by decide +kernel
theorem d_Mo_never_18 : decode b_Mo_never 18 = .ok (.aload_n 0, 1) := by decide +kernel
theorem d_Mo_never_19 : decode b_Mo_never 19 = .ok (.invokevirtual 170, 3) := by decide +kernel
theorem d_Mo_never_22 : decode b_Mo_never 22 = .ok (.iconst 1, 1) := by decide +kernel
theorem d_Mo_never_23 : decode b_Mo_never 23 = .ok (.istore_n 2, 1) := by decide +kernel
theorem d_Mo_never_24 : decode b_Mo_never 24 = .ok (.iload_n 2, 1) := by decide +kernel
theorem d_Mo_never_25 : decode b_Mo_never 25 = .ok (.bipush 10, 2) := by decide +kernel
theorem d_Mo_never_27 : decode b_Mo_never 27 = .ok (.if_icmp .ge 39, 3) := by decide +kernel
theorem d_Mo_never_30 : decode b_Mo_never 30 = .ok (.aload_n 0, 1) := by decide +kernel
theorem d_Mo_never_31 : decode b_Mo_never 31 = .ok (.getfield 42, 3) := by decide +kernel
theorem d_Mo_never_34 : decode b_Mo_never 34 = .ok (.aload_n 0, 1) := by decide +kernel
theorem d_Mo_never_35 : decode b_Mo_never 35 = .ok (.getfield 126, 3) := by decide +kernel
theorem d_Mo_never_38 : decode b_Mo_never 38 = .ok (.bipush 10, 2) := by decide +kernel
theorem d_Mo_never_40 : decode b_Mo_never 40 = .ok (.imul, 1) := by decide +kernel
theorem d_Mo_never_41 : decode b_Mo_never 41 = .ok (.iload_n 2, 1) := by decide +kernel
theorem d_Mo_never_42 : decode b_Mo_never 42 = .ok (.iadd, 1) := by decide +kernel
theorem d_Mo_never_43 : decode b_Mo_never 43 = .ok (.iaload, 1) := by decide +kernel
theorem d_Mo_never_44 : decode b_Mo_never 44 = .ok (.istore_n 3, 1) := by decide +kernel
theorem d_Mo_never_45 : decode b_Mo_never 45 = .ok (.aload_n 0, 1) := by decide +kernel
theorem d_Mo_never_46 : decode b_Mo_never 46 = .ok (.iload_n 3, 1) := by decide +kernel
theorem d_Mo_never_47 : decode b_Mo_never 47 = .ok (.invokevirtual 151, 3) := by decide +kernel
theorem d_Mo_never_50 : decode b_Mo_never 50 = .ok (.ifCond .eq 10, 3) := by decide +kernel
theorem d_Mo_never_53 : decode b_Mo_never 53 = .ok (.aload_n 0, 1) := by decide +kernel
theorem d_Mo_never_54 : decode b_Mo_never 54 = .ok (.getfield 66, 3) := by decide +kernel
theorem d_Mo_never_57 : decode b_Mo_never 57 = .ok (.iload_n 3, 1) := by decide +kernel
theorem d_Mo_never_58 : decode b_Mo_never 58 = .ok (.iconst 1, 1) := by decide +kernel
theorem d_Mo_never_59 : decode b_Mo_never 59 = .ok (.bastore, 1) := by decide +kernel
theorem d_Mo_never_60 : decode b_Mo_never 60 = .ok (.iinc 2 1, 3) := by decide +kernel
theorem d_Mo_never_63 : decode b_Mo_never 63 = .ok (.goto (-39), 3) := by decide +kernel
theorem d_Mo_never_66 : decode b_Mo_never 66 = .ok (.aload_n 0, 1) := by decide +kernel
theorem d_Mo_never_67 : decode b_Mo_never 67 = .ok (.invokevirtual 173, 3) := by decide +kernel
theorem d_Mo_never_70 : decode b_Mo_never 70 = .ok (.istore_n 2, 1) := by decide +kernel
theorem d_Mo_never_71 : decode b_Mo_never 71 = .ok (.iload_n 1, 1) := by decide +kernel
theorem d_Mo_never_72 : decode b_Mo_never 72 = .ok (.istore_n 3, 1) := by decide +kernel
theorem d_Mo_never_73 : decode b_Mo_never 73 = .ok (.iconst 1, 1) := by decide +kernel
theorem d_Mo_never_74 : decode b_Mo_never 74 = .ok (.istore 4, 2) := by decide +kernel
theorem d_Mo_never_76 : decode b_Mo_never 76 = .ok (.iload 4, 2) := by decide +kernel
theorem d_Mo_never_78 : decode b_Mo_never 78 = .ok (.bipush 61, 2) := by decide +kernel
theorem d_Mo_never_80 : decode b_Mo_never 80 = .ok (.if_icmp .ge 41, 3) := by decide +kernel
theorem d_Mo_never_83 : decode b_Mo_never 83 = .ok (.aload_n 0, 1) := by decide +kernel
theorem d_Mo_never_84 : decode b_Mo_never 84 = .ok (.iload 4, 2) := by decide +kernel
theorem d_Mo_never_86 : decode b_Mo_never 86 = .ok (.invokevirtual 151, 3) := by decide +kernel
theorem d_Mo_never_89 : decode b_Mo_never 89 = .ok (.ifCond .eq 26, 3) := by decide +kernel
theorem d_Mo_never_92 : decode b_Mo_never 92 = .ok (.aload_n 0, 1) := by decide +kernel
theorem d_Mo_never_93 : decode b_Mo_never 93 = .ok (.getfield 66, 3) := by decide +kernel
theorem d_Mo_never_96 : decode b_Mo_never 96 = .ok (.iload 4, 2) := by decide +kernel
theorem d_Mo_never_98 : decode b_Mo_never 98 = .ok (.baload, 1) := by decide +kernel
theorem d_Mo_never_99 : decode b_Mo_never 99 = .ok (.ifCond .eq 6, 3) := by decide +kernel
theorem d_Mo_never_102 : decode b_Mo_never 102 = .ok (.goto 13, 3) := by decide +kernel
theorem d_Mo_never_105 : decode b_Mo_never 105 = .ok (.iload_n 3, 1) := by decide +kernel
theorem d_Mo_never_106 : decode b_Mo_never 106 = .ok (.ifCond .ne 6, 3) := by decide +kernel
theorem d_Mo_never_109 : decode b_Mo_never 109 = .ok (.iload 4, 2) := by decide +kernel
theorem d_Mo_never_111 : decode b_Mo_never 111 = .ok (.ireturn, 1) := by decide +kernel
theorem d_Mo_never_112 : decode b_Mo_never 112 = .ok (.iinc 3 (-1), 3) := by decide +kernel
theorem d_Mo_never_115 : decode b_Mo_never 115 = .ok (.iinc 4 1, 3) := by decide +kernel
theorem d_Mo_never_118 : decode b_Mo_never 118 = .ok (.goto (-42), 3) := by decide +kernel
theorem d_Mo_never_121 : decode b_Mo_never 121 = .ok (.iconst 0, 1) := by decide +kernel
theorem d_Mo_never_122 : decode b_Mo_never 122 = .ok (.ireturn, 1) := by decide +kernel
theorem d_Mo_endless_0 : decode b_Mo_endless 0 = .ok (.aload_n 0, 1) := by decide +kernel
theorem d_Mo_endless_1 : decode b_Mo_endless 1 = .ok (.iload_n 1, 1) := by decide +kernel
theorem d_Mo_endless_2 : decode b_Mo_endless 2 = .ok (.ifCond .lt 7, 3) := by decide +kernel
theorem d_Mo_endless_5 : decode b_Mo_endless 5 = .ok (.iconst 1, 1) := by decide +kernel
theorem d_Mo_endless_6 : decode b_Mo_endless 6 = .ok (.goto 4, 3) := by decide +kernel
theorem d_Mo_endless_9 : decode b_Mo_endless 9 = .ok (.iconst 0, 1) := by decide +kernel
theorem d_Mo_endless_10 : decode b_Mo_endless 10 = .ok (.invokevirtual 147, 3) := by decide +kernel
theorem d_Mo_endless_13 : decode b_Mo_endless 13 = .ok (.ifCond .ne 5, 3) := by decide +kernel
theorem d_Mo_endless_16 : decode b_Mo_endless 16 = .ok (.iconst 0, 1) := by decide +kernel
theorem d_Mo_endless_17 : decode b_Mo_endless 17 = .ok (.ireturn, 1) := by decide +kernel
theorem d_Mo_endless_18 : decode b_Mo_endless 18 = .ok (.iload_n 1, 1) := by decide +kernel
theorem d_Mo_endless_19 : decode b_Mo_endless 19 = .ok (.istore_n 2, 1) := by decide +kernel
theorem d_Mo_endless_20 : decode b_Mo_endless 20 = .ok (.iconst 1, 1) := by decide +kernel
theorem d_Mo_endless_21 : decode b_Mo_endless 21 = .ok (.istore_n 3, 1) := by decide +kernel
theorem d_Mo_endless_22 : decode b_Mo_endless 22 = .ok (.iload_n 3, 1) := by decide +kernel
theorem d_Mo_endless_23 : decode b_Mo_endless 23 = .ok (.bipush 10, 2) := by decide +kernel
theorem d_Mo_endless_25 : decode b_Mo_endless 25 = .ok (.if_icmp .ge 68, 3) := by decide +kernel
theorem d_Mo_endless_28 : decode b_Mo_endless 28 = .ok (.aload_n 0, 1) := by decide +kernel
theorem d_Mo_endless_29 : decode b_Mo_endless 29 = .ok (.getfield 42, 3) := by decide +kernel
theorem d_Mo_endless_32 : decode b_Mo_endless 32 = .ok (.aload_n 0, 1) := by decide +kernel
theorem d_Mo_endless_33 : decode b_Mo_endless 33 = .ok (.getfield 126, 3) := by decide +kernel
theorem d_Mo_endless_36 : decode b_Mo_endless 36 = .ok (.bipush 10, 2) := by decide +kernel
theorem d_Mo_endless_38 : decode b_Mo_endless 38 = .ok (.imul, 1) := by decide +kernel
theorem d_Mo_endless_39 : decode b_Mo_endless 39 = .ok (.iload_n 3, 1) := by decide +kernel
theorem d_Mo_endless_40 : decode b_Mo_endless 40 = .ok (.iadd, 1) := by decide +kernel
theorem d_Mo_endless_41 : decode b_Mo_endless 41 = .ok (.iaload, 1) := by decide +kernel
theorem d_Mo_endless_42 : decode b_Mo_endless 42 = .ok (.istore 4, 2) := by decide +kernel
theorem d_Mo_endless_44 : decode b_Mo_endless 44 = .ok (.aload_n 0, 1) := by decide +kernel
theorem d_Mo_endless_45 : decode b_Mo_endless 45 = .ok (.iload 4, 2) := by decide +kernel
theorem d_Mo_endless_47 : decode b_Mo_endless 47 = .ok (.invokevirtual 151, 3) := by decide +kernel
theorem d_Mo_endless_50 : decode b_Mo_endless 50 = .ok (.ifCond .ne 6, 3) := by decide +kernel
theorem d_Mo_endless_53 : decode b_Mo_endless 53 = .ok (.goto 34, 3) := by decide +kernel
theorem d_Mo_endless_56 : decode b_Mo_endless 56 = .ok (.aload_n 0, 1) := by decide +kernel
theorem d_Mo_endless_57 : decode b_Mo_endless 57 = .ok (.invokevirtual 170, 3) := by decide +kernel
theorem d_Mo_endless_60 : decode b_Mo_endless 60 = .ok (.aload_n 0, 1) := by decide +kernel
theorem d_Mo_endless_61 : decode b_Mo_endless 61 = .ok (.getfield 66, 3) := by decide +kernel
theorem d_Mo_endless_64 : decode b_Mo_endless 64 = .ok (.iload 4, 2) := by decide +kernel
theorem d_Mo_endless_66 : decode b_Mo_endless 66 = .ok (.iconst 1, 1) := by decide +kernel
theorem d_Mo_endless_67 : decode b_Mo_endless 67 = .ok (.bastore, 1) := by decide +kernel
theorem d_Mo_endless_68 : decode b_Mo_endless 68 = .ok (.aload_n 0, 1) := by decide +kernel
theorem d_Mo_endless_69 : decode b_Mo_endless 69 = .ok (.invokevirtual 173, 3) := by decide +kernel
theorem d_Mo_endless_72 : decode b_Mo_endless 72 = .ok (.ifCond .eq 6, 3) := by decide +kernel
theorem d_Mo_endless_75 : decode b_Mo_endless 75 = .ok (.goto 12, 3) := by decide +kernel
theorem d_Mo_endless_78 : decode b_Mo_endless 78 = .ok (.iload_n 2, 1) := by decide +kernel
theorem d_Mo_endless_79 : decode b_Mo_endless 79 = .ok (.ifCond .ne 5, 3) := by decide +kernel
theorem d_Mo_endless_82 : decode b_Mo_endless 82 = .ok (.iload_n 3, 1) := by decide +kernel
theorem d_Mo_endless_83 : decode b_Mo_endless 83 = .ok (.ireturn, 1) := by decide +kernel
theorem d_Mo_endless_84 : decode b_Mo_endless 84 = .ok (.iinc 2 (-1), 3) := by decide +kernel
theorem d_Mo_endless_87 : decode b_Mo_endless 87 = .ok (.iinc 3 1, 3) := by decide +kernel
theorem d_Mo_endless_90 : decode b_Mo_endless 90 = .ok (.goto (-68), 3) := by decide +kernel
theorem d_Mo_endless_93 : decode b_Mo_endless 93 = .ok (.iconst 0, 1) := by decide +kernel
theorem d_Mo_endless_94 : decode b_Mo_endless 94 = .ok (.ireturn, 1) := by decide +kernel
theorem d_Mo_word_0 : decode b_Mo_word 0 = .ok (.aload_n 0, 1) := by decide +kernel
theorem d_Mo_word_1 : decode b_Mo_word 1 = .ok (.iload_n 1, 1) := by decide +kernel
theorem d_Mo_word_2 : decode b_Mo_word 2 = .ok (.iconst 1, 1) := by decide +kernel
theorem d_Mo_word_3 : decode b_Mo_word 3 = .ok (.bipush 60, 2) := by decide +kernel
theorem d_Mo_word_5 : decode b_Mo_word 5 = .ok (.invokestatic 72, 3) := by decide +kernel
theorem d_Mo_word_8 : decode b_Mo_word 8 = .ok (.ifCond .eq 42, 3) := by decide +kernel
theorem d_Mo_word_11 : decode b_Mo_word 11 = .ok (.aload_n 0, 1) := by decide +kernel
theorem d_Mo_word_12 : decode b_Mo_word 12 = .ok (.iload_n 1, 1) := by decide +kernel
theorem d_Mo_word_13 : decode b_Mo_word 13 = .ok (.iconst 1, 1) := by decide +kernel
theorem d_Mo_word_14 : decode b_Mo_word 14 = .ok (.bipush 60, 2) := by decide +kernel
theorem d_Mo_word_16 : decode b_Mo_word 16 = .ok (.invokestatic 72, 3) := by decide +kernel
theorem d_Mo_word_19 : decode b_Mo_word 19 = .ok (.ifCond .eq 7, 3) := by decide +kernel
theorem d_Mo_word_22 : decode b_Mo_word 22 = .ok (.iload_n 1, 1) := by decide +kernel
theorem d_Mo_word_23 : decode b_Mo_word 23 = .ok (.goto 4, 3) := by decide +kernel
theorem d_Mo_word_26 : decode b_Mo_word 26 = .ok (.iconst 0, 1) := by decide +kernel
theorem d_Mo_word_27 : decode b_Mo_word 27 = .ok (.invokevirtual 151, 3) := by decide +kernel
theorem d_Mo_word_30 : decode b_Mo_word 30 = .ok (.ifCond .eq 20, 3) := by decide +kernel
theorem d_Mo_word_33 : decode b_Mo_word 33 = .ok (.iload_n 2, 1) := by decide +kernel
theorem d_Mo_word_34 : decode b_Mo_word 34 = .ok (.iconst 0, 1) := by decide +kernel
theorem d_Mo_word_35 : decode b_Mo_word 35 = .ok (.iconst 1, 1) := by decide +kernel
theorem d_Mo_word_36 : decode b_Mo_word 36 = .ok (.invokestatic 72, 3) := by decide +kernel
theorem d_Mo_word_39 : decode b_Mo_word 39 = .ok (.ifCond .eq 11, 3) := by decide +kernel
theorem d_Mo_word_42 : decode b_Mo_word 42 = .ok (.iload_n 3, 1) := by decide +kernel
theorem d_Mo_word_43 : decode b_Mo_word 43 = .ok (.ifCond .lt 7, 3) := by decide +kernel
theorem d_Mo_word_46 : decode b_Mo_word 46 = .ok (.iconst 1, 1) := by decide +kernel
theorem d_Mo_word_47 : decode b_Mo_word 47 = .ok (.goto 4, 3) := by decide +kernel
theorem d_Mo_word_50 : decode b_Mo_word 50 = .ok (.iconst 0, 1) := by decide +kernel
theorem d_Mo_word_51 : decode b_Mo_word 51 = .ok (.invokevirtual 147, 3) := by decide +kernel
theorem d_Mo_word_54 : decode b_Mo_word 54 = .ok (.ifCond .ne 5, 3) := by decide +kernel
theorem d_Mo_word_57 : decode b_Mo_word 57 = .ok (.iconst 0, 1) := by decide +kernel
theorem d_Mo_word_58 : decode b_Mo_word 58 = .ok (.ireturn, 1) := by decide +kernel
theorem d_Mo_word_59 : decode b_Mo_word 59 = .ok (.aload_n 0, 1) := by decide +kernel
theorem d_Mo_word_60 : decode b_Mo_word 60 = .ok (.getfield 126, 3) := by decide +kernel
theorem d_Mo_word_63 : decode b_Mo_word 63 = .ok (.bipush 61, 2) := by decide +kernel
theorem d_Mo_word_65 : decode b_Mo_word 65 = .ok (.imul, 1) := by decide +kernel
theorem d_Mo_word_66 : decode b_Mo_word 66 = .ok (.iload_n 1, 1) := by decide +kernel
theorem d_Mo_word_67 : decode b_Mo_word 67 = .ok (.iadd, 1) := by decide +kernel
theorem d_Mo_word_68 : decode b_Mo_word 68 = .ok (.iconst 2, 1) := by decide +kernel
theorem d_Mo_word_69 : decode b_Mo_word 69 = .ok (.imul, 1) := by decide +kernel
theorem d_Mo_word_70 : decode b_Mo_word 70 = .ok (.istore 4, 2) := by decide +kernel
theorem d_Mo_word_72 : decode b_Mo_word 72 = .ok (.iload_n 2, 1) := by decide +kernel
theorem d_Mo_word_73 : decode b_Mo_word 73 = .ok (.iconst 1, 1) := by decide +kernel
theorem d_Mo_word_74 : decode b_Mo_word 74 = .ok (.if_icmp .ne 18, 3) := by decide +kernel
theorem d_Mo_word_77 : decode b_Mo_word 77 = .ok (.aload_n 0, 1) := by decide +kernel
theorem d_Mo_word_78 : decode b_Mo_word 78 = .ok (.getfield 30, 3) := by decide +kernel
theorem d_Mo_word_81 : decode b_Mo_word 81 = .ok (.iload 4, 2) := by decide +kernel
theorem d_Mo_word_83 : decode b_Mo_word 83 = .ok (.iconst 1, 1) := by decide +kernel
theorem d_Mo_word_84 : decode b_Mo_word 84 = .ok (.iadd, 1) := by decide +kernel
theorem d_Mo_word_85 : decode b_Mo_word 85 = .ok (.iaload, 1) := by decide +kernel
theorem d_Mo_word_86 : decode b_Mo_word 86 = .ok (.ifCond .le 6, 3) := by decide +kernel
theorem d_Mo_word_89 : decode b_Mo_word 89 = .ok (.iinc 4 1, 3) := by decide +kernel
theorem d_Mo_word_92 : decode b_Mo_word 92 = .ok (.iload_n 3, 1) := by decide +kernel
theorem d_Mo_word_93 : decode b_Mo_word 93 = .ok (.aload_n 0, 1) := by decide +kernel
theorem d_Mo_word_94 : decode b_Mo_word 94 = .ok (.getfield 30, 3) := by decide +kernel
theorem d_Mo_word_97 : decode b_Mo_word 97 = .ok (.iload 4, 2) := by decide +kernel
theorem d_Mo_word_99 : decode b_Mo_word 99 = .ok (.iaload, 1) := by decide +kernel
theorem d_Mo_word_100 : decode b_Mo_word 100 = .ok (.if_icmp .ge 18, 3) := by decide +kernel
theorem d_Mo_word_103 : decode b_Mo_word 103 = .ok (.aload_n 0, 1) := by decide +kernel
theorem d_Mo_word_104 : decode b_Mo_word 104 = .ok (.getfield 33, 3) := by decide +kernel
theorem d_Mo_word_107 : decode b_Mo_word 107 = .ok (.iload 4, 2) := by decide +kernel
theorem d_Mo_word_109 : decode b_Mo_word 109 = .ok (.bipush 12, 2) := by decide +kernel
theorem d_Mo_word_111 : decode b_Mo_word 111 = .ok (.imul, 1) := by decide +kernel
theorem d_Mo_word_112 : decode b_Mo_word 112 = .ok (.iload_n 3, 1) := by decide +kernel
theorem d_Mo_word_113 : decode b_Mo_word 113 = .ok (.iadd, 1) := by decide +kernel
theorem d_Mo_word_114 : decode b_Mo_word 114 = .ok (.iaload, 1) := by decide +kernel
theorem d_Mo_word_115 : decode b_Mo_word 115 = .ok (.goto 4, 3) := by decide +kernel
theorem d_Mo_word_118 : decode b_Mo_word 118 = .ok (.iconst (-1), 1) := by decide +kernel
theorem d_Mo_word_119 : decode b_Mo_word 119 = .ok (.ireturn, 1) := by decide +kernel
