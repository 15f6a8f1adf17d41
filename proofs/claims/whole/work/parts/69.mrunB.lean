theorem dX12_doRow_0 : decode cX12_doRow 0 = .ok (.iload_n 2, 1) := by decide +kernel
theorem dX12_doRow_1 : decode cX12_doRow 1 = .ok (.bipush 31, 2) := by decide +kernel
theorem dX12_doRow_3 : decode cX12_doRow 3 = .ok (.if_icmp .ne 88, 3) := by decide +kernel
theorem dX12_doRow_6 : decode cX12_doRow 6 = .ok (.aload_n 0, 1) := by decide +kernel
theorem dX12_doRow_7 : decode cX12_doRow 7 = .ok (.iconst 0, 1) := by decide +kernel
theorem dX12_doRow_8 : decode cX12_doRow 8 = .ok (.invokevirtual 347, 3) := by decide +kernel
theorem dX12_doRow_11 : decode cX12_doRow 11 = .ok (.istore 4, 2) := by decide +kernel
theorem dX12_doRow_13 : decode cX12_doRow 13 = .ok (.iload 4, 2) := by decide +kernel
theorem dX12_doRow_15 : decode cX12_doRow 15 = .ok (.ifCond .lt 11, 3) := by decide +kernel
theorem dX12_doRow_18 : decode cX12_doRow 18 = .ok (.iload 4, 2) := by decide +kernel
theorem dX12_doRow_20 : decode cX12_doRow 20 = .ok (.sipush 3375, 3) := by decide +kernel
theorem dX12_doRow_23 : decode cX12_doRow 23 = .ok (.if_icmp .le 9, 3) := by decide +kernel
theorem dX12_doRow_26 : decode cX12_doRow 26 = .ok (.aload_n 0, 1) := by decide +kernel
theorem dX12_doRow_27 : decode cX12_doRow 27 = .ok (.iconst 4, 1) := by decide +kernel
theorem dX12_doRow_28 : decode cX12_doRow 28 = .ok (.invokevirtual 350, 3) := by decide +kernel
theorem dX12_doRow_31 : decode cX12_doRow 31 = .ok (.ireturn, 1) := by decide +kernel
theorem dX12_doRow_32 : decode cX12_doRow 32 = .ok (.aload_n 0, 1) := by decide +kernel
theorem dX12_doRow_33 : decode cX12_doRow 33 = .ok (.bipush 16, 2) := by decide +kernel
theorem dX12_doRow_35 : decode cX12_doRow 35 = .ok (.invokevirtual 274, 3) := by decide +kernel
theorem dX12_doRow_38 : decode cX12_doRow 38 = .ok (.ifCond .ne 8, 3) := by decide +kernel
theorem dX12_doRow_41 : decode cX12_doRow 41 = .ok (.aload_n 0, 1) := by decide +kernel
theorem dX12_doRow_42 : decode cX12_doRow 42 = .ok (.invokevirtual 326, 3) := by decide +kernel
theorem dX12_doRow_45 : decode cX12_doRow 45 = .ok (.ireturn, 1) := by decide +kernel
theorem dX12_doRow_46 : decode cX12_doRow 46 = .ok (.aload_n 0, 1) := by decide +kernel
theorem dX12_doRow_47 : decode cX12_doRow 47 = .ok (.iconst 1, 1) := by decide +kernel
theorem dX12_doRow_48 : decode cX12_doRow 48 = .ok (.iload 4, 2) := by decide +kernel
theorem dX12_doRow_50 : decode cX12_doRow 50 = .ok (.iload_n 3, 1) := by decide +kernel
theorem dX12_doRow_51 : decode cX12_doRow 51 = .ok (.ifCond .gt 11, 3) := by decide +kernel
theorem dX12_doRow_54 : decode cX12_doRow 54 = .ok (.iload 4, 2) := by decide +kernel
theorem dX12_doRow_56 : decode cX12_doRow 56 = .ok (.invokestatic 391, 3) := by decide +kernel
theorem dX12_doRow_59 : decode cX12_doRow 59 = .ok (.ifCond .le 7, 3) := by decide +kernel
theorem dX12_doRow_62 : decode cX12_doRow 62 = .ok (.iconst 1, 1) := by decide +kernel
theorem dX12_doRow_63 : decode cX12_doRow 63 = .ok (.goto 4, 3) := by decide +kernel
theorem dX12_doRow_66 : decode cX12_doRow 66 = .ok (.iconst 0, 1) := by decide +kernel
theorem dX12_doRow_67 : decode cX12_doRow 67 = .ok (.iload_n 3, 1) := by decide +kernel
theorem dX12_doRow_68 : decode cX12_doRow 68 = .ok (.invokevirtual 313, 3) := by decide +kernel
theorem dX12_doRow_71 : decode cX12_doRow 71 = .ok (.istore 5, 2) := by decide +kernel
theorem dX12_doRow_73 : decode cX12_doRow 73 = .ok (.aload_n 0, 1) := by decide +kernel
theorem dX12_doRow_74 : decode cX12_doRow 74 = .ok (.iconst 1, 1) := by decide +kernel
theorem dX12_doRow_75 : decode cX12_doRow 75 = .ok (.invokevirtual 359, 3) := by decide +kernel
theorem dX12_doRow_78 : decode cX12_doRow 78 = .ok (.aload_n 0, 1) := by decide +kernel
theorem dX12_doRow_79 : decode cX12_doRow 79 = .ok (.iload 5, 2) := by decide +kernel
theorem dX12_doRow_81 : decode cX12_doRow 81 = .ok (.invokevirtual 332, 3) := by decide +kernel
theorem dX12_doRow_84 : decode cX12_doRow 84 = .ok (.aload_n 0, 1) := by decide +kernel
theorem dX12_doRow_85 : decode cX12_doRow 85 = .ok (.iload_n 1, 1) := by decide +kernel
theorem dX12_doRow_86 : decode cX12_doRow 86 = .ok (.invokevirtual 356, 3) := by decide +kernel
theorem dX12_doRow_89 : decode cX12_doRow 89 = .ok (.iconst 1, 1) := by decide +kernel
theorem dX12_doRow_90 : decode cX12_doRow 90 = .ok (.ireturn, 1) := by decide +kernel
theorem dX12_doRow_91 : decode cX12_doRow 91 = .ok (.aload_n 0, 1) := by decide +kernel
theorem dX12_doRow_92 : decode cX12_doRow 92 = .ok (.iload_n 2, 1) := by decide +kernel
theorem dX12_doRow_93 : decode cX12_doRow 93 = .ok (.bipush 32, 2) := by decide +kernel
theorem dX12_doRow_95 : decode cX12_doRow 95 = .ok (.if_icmp .ne 7, 3) := by decide +kernel
theorem dX12_doRow_98 : decode cX12_doRow 98 = .ok (.iconst 0, 1) := by decide +kernel
theorem dX12_doRow_99 : decode cX12_doRow 99 = .ok (.goto 14, 3) := by decide +kernel
theorem dX12_doRow_102 : decode cX12_doRow 102 = .ok (.iload_n 2, 1) := by decide +kernel
theorem dX12_doRow_103 : decode cX12_doRow 103 = .ok (.bipush 33, 2) := by decide +kernel
theorem dX12_doRow_105 : decode cX12_doRow 105 = .ok (.if_icmp .ne 7, 3) := by decide +kernel
theorem dX12_doRow_108 : decode cX12_doRow 108 = .ok (.iconst 1, 1) := by decide +kernel
theorem dX12_doRow_109 : decode cX12_doRow 109 = .ok (.goto 4, 3) := by decide +kernel
theorem dX12_doRow_112 : decode cX12_doRow 112 = .ok (.iconst 2, 1) := by decide +kernel
theorem dX12_doRow_113 : decode cX12_doRow 113 = .ok (.invokevirtual 347, 3) := by decide +kernel
theorem dX12_doRow_116 : decode cX12_doRow 116 = .ok (.istore 4, 2) := by decide +kernel
theorem dX12_doRow_118 : decode cX12_doRow 118 = .ok (.iload 4, 2) := by decide +kernel
theorem dX12_doRow_120 : decode cX12_doRow 120 = .ok (.iconst (-1), 1) := by decide +kernel
theorem dX12_doRow_121 : decode cX12_doRow 121 = .ok (.if_icmp .ne 9, 3) := by decide +kernel
theorem dX12_doRow_124 : decode cX12_doRow 124 = .ok (.aload_n 0, 1) := by decide +kernel
theorem dX12_doRow_125 : decode cX12_doRow 125 = .ok (.iconst 0, 1) := by decide +kernel
theorem dX12_doRow_126 : decode cX12_doRow 126 = .ok (.invokevirtual 350, 3) := by decide +kernel
theorem dX12_doRow_129 : decode cX12_doRow 129 = .ok (.ireturn, 1) := by decide +kernel
theorem dX12_doRow_130 : decode cX12_doRow 130 = .ok (.iload_n 2, 1) := by decide +kernel
theorem dX12_doRow_131 : decode cX12_doRow 131 = .ok (.bipush 32, 2) := by decide +kernel
theorem dX12_doRow_133 : decode cX12_doRow 133 = .ok (.if_icmp .ne 26, 3) := by decide +kernel
theorem dX12_doRow_136 : decode cX12_doRow 136 = .ok (.aload_n 0, 1) := by decide +kernel
theorem dX12_doRow_137 : decode cX12_doRow 137 = .ok (.iconst 1, 1) := by decide +kernel
theorem dX12_doRow_138 : decode cX12_doRow 138 = .ok (.invokevirtual 359, 3) := by decide +kernel
theorem dX12_doRow_141 : decode cX12_doRow 141 = .ok (.aload_n 0, 1) := by decide +kernel
theorem dX12_doRow_142 : decode cX12_doRow 142 = .ok (.aload_n 0, 1) := by decide +kernel
theorem dX12_doRow_143 : decode cX12_doRow 143 = .ok (.getfield 183, 3) := by decide +kernel
theorem dX12_doRow_146 : decode cX12_doRow 146 = .ok (.iload 4, 2) := by decide +kernel
theorem dX12_doRow_148 : decode cX12_doRow 148 = .ok (.iaload, 1) := by decide +kernel
theorem dX12_doRow_149 : decode cX12_doRow 149 = .ok (.invokevirtual 366, 3) := by decide +kernel
theorem dX12_doRow_152 : decode cX12_doRow 152 = .ok (.aload_n 0, 1) := by decide +kernel
theorem dX12_doRow_153 : decode cX12_doRow 153 = .ok (.iload_n 1, 1) := by decide +kernel
theorem dX12_doRow_154 : decode cX12_doRow 154 = .ok (.invokevirtual 356, 3) := by decide +kernel
theorem dX12_doRow_157 : decode cX12_doRow 157 = .ok (.iconst 1, 1) := by decide +kernel
theorem dX12_doRow_158 : decode cX12_doRow 158 = .ok (.ireturn, 1) := by decide +kernel
theorem dX12_doRow_159 : decode cX12_doRow 159 = .ok (.aload_n 0, 1) := by decide +kernel
theorem dX12_doRow_160 : decode cX12_doRow 160 = .ok (.iload_n 2, 1) := by decide +kernel
theorem dX12_doRow_161 : decode cX12_doRow 161 = .ok (.bipush 33, 2) := by decide +kernel
theorem dX12_doRow_163 : decode cX12_doRow 163 = .ok (.if_icmp .ne 7, 3) := by decide +kernel
theorem dX12_doRow_166 : decode cX12_doRow 166 = .ok (.iconst 0, 1) := by decide +kernel
theorem dX12_doRow_167 : decode cX12_doRow 167 = .ok (.goto 4, 3) := by decide +kernel
theorem dX12_doRow_170 : decode cX12_doRow 170 = .ok (.iconst 1, 1) := by decide +kernel
theorem dX12_doRow_171 : decode cX12_doRow 171 = .ok (.invokevirtual 347, 3) := by decide +kernel
theorem dX12_doRow_174 : decode cX12_doRow 174 = .ok (.istore 5, 2) := by decide +kernel
theorem dX12_doRow_176 : decode cX12_doRow 176 = .ok (.iload 5, 2) := by decide +kernel
theorem dX12_doRow_178 : decode cX12_doRow 178 = .ok (.ifCond .lt 15, 3) := by decide +kernel
theorem dX12_doRow_181 : decode cX12_doRow 181 = .ok (.iload 5, 2) := by decide +kernel
theorem dX12_doRow_183 : decode cX12_doRow 183 = .ok (.aload_n 0, 1) := by decide +kernel
theorem dX12_doRow_184 : decode cX12_doRow 184 = .ok (.getfield 183, 3) := by decide +kernel
theorem dX12_doRow_187 : decode cX12_doRow 187 = .ok (.iload 4, 2) := by decide +kernel
theorem dX12_doRow_189 : decode cX12_doRow 189 = .ok (.iaload, 1) := by decide +kernel
theorem dX12_doRow_190 : decode cX12_doRow 190 = .ok (.if_icmp .lt 9, 3) := by decide +kernel
theorem dX12_doRow_193 : decode cX12_doRow 193 = .ok (.aload_n 0, 1) := by decide +kernel
theorem dX12_doRow_194 : decode cX12_doRow 194 = .ok (.iconst 1, 1) := by decide +kernel
theorem dX12_doRow_195 : decode cX12_doRow 195 = .ok (.invokevirtual 350, 3) := by decide +kernel
theorem dX12_doRow_198 : decode cX12_doRow 198 = .ok (.ireturn, 1) := by decide +kernel
theorem dX12_doRow_199 : decode cX12_doRow 199 = .ok (.aload_n 0, 1) := by decide +kernel
theorem dX12_doRow_200 : decode cX12_doRow 200 = .ok (.iload 4, 2) := by decide +kernel
theorem dX12_doRow_202 : decode cX12_doRow 202 = .ok (.iload 5, 2) := by decide +kernel
theorem dX12_doRow_204 : decode cX12_doRow 204 = .ok (.invokevirtual 403, 3) := by decide +kernel
theorem dX12_doRow_207 : decode cX12_doRow 207 = .ok (.istore 6, 2) := by decide +kernel
theorem dX12_doRow_209 : decode cX12_doRow 209 = .ok (.aload_n 0, 1) := by decide +kernel
theorem dX12_doRow_210 : decode cX12_doRow 210 = .ok (.getfield 189, 3) := by decide +kernel
theorem dX12_doRow_213 : decode cX12_doRow 213 = .ok (.iload 4, 2) := by decide +kernel
theorem dX12_doRow_215 : decode cX12_doRow 215 = .ok (.baload, 1) := by decide +kernel
theorem dX12_doRow_216 : decode cX12_doRow 216 = .ok (.ifCond .le 7, 3) := by decide +kernel
theorem dX12_doRow_219 : decode cX12_doRow 219 = .ok (.iconst 1, 1) := by decide +kernel
theorem dX12_doRow_220 : decode cX12_doRow 220 = .ok (.goto 4, 3) := by decide +kernel
theorem dX12_doRow_223 : decode cX12_doRow 223 = .ok (.iconst 0, 1) := by decide +kernel
theorem dX12_doRow_224 : decode cX12_doRow 224 = .ok (.istore 7, 2) := by decide +kernel
theorem dX12_doRow_226 : decode cX12_doRow 226 = .ok (.iload_n 2, 1) := by decide +kernel
theorem dX12_doRow_227 : decode cX12_doRow 227 = .ok (.bipush 33, 2) := by decide +kernel
theorem dX12_doRow_229 : decode cX12_doRow 229 = .ok (.if_icmp .ne 63, 3) := by decide +kernel
theorem dX12_doRow_232 : decode cX12_doRow 232 = .ok (.iload 6, 2) := by decide +kernel
theorem dX12_doRow_234 : decode cX12_doRow 234 = .ok (.iconst (-1), 1) := by decide +kernel
theorem dX12_doRow_235 : decode cX12_doRow 235 = .ok (.if_icmp .ne 16, 3) := by decide +kernel
theorem dX12_doRow_238 : decode cX12_doRow 238 = .ok (.iload 7, 2) := by decide +kernel
theorem dX12_doRow_240 : decode cX12_doRow 240 = .ok (.ifCond .eq 7, 3) := by decide +kernel
theorem dX12_doRow_243 : decode cX12_doRow 243 = .ok (.iconst (-1), 1) := by decide +kernel
theorem dX12_doRow_244 : decode cX12_doRow 244 = .ok (.goto 14, 3) := by decide +kernel
theorem dX12_doRow_247 : decode cX12_doRow 247 = .ok (.iconst 0, 1) := by decide +kernel
theorem dX12_doRow_248 : decode cX12_doRow 248 = .ok (.goto 10, 3) := by decide +kernel
theorem dX12_doRow_251 : decode cX12_doRow 251 = .ok (.aload_n 0, 1) := by decide +kernel
theorem dX12_doRow_252 : decode cX12_doRow 252 = .ok (.getfield 199, 3) := by decide +kernel
theorem dX12_doRow_255 : decode cX12_doRow 255 = .ok (.iload 6, 2) := by decide +kernel
theorem dX12_doRow_257 : decode cX12_doRow 257 = .ok (.iaload, 1) := by decide +kernel
theorem dX12_doRow_258 : decode cX12_doRow 258 = .ok (.istore 8, 2) := by decide +kernel
theorem dX12_doRow_260 : decode cX12_doRow 260 = .ok (.aload_n 0, 1) := by decide +kernel
theorem dX12_doRow_261 : decode cX12_doRow 261 = .ok (.iconst 2, 1) := by decide +kernel
theorem dX12_doRow_262 : decode cX12_doRow 262 = .ok (.invokevirtual 359, 3) := by decide +kernel
theorem dX12_doRow_265 : decode cX12_doRow 265 = .ok (.iload 7, 2) := by decide +kernel
theorem dX12_doRow_267 : decode cX12_doRow 267 = .ok (.ifCond .eq 12, 3) := by decide +kernel
theorem dX12_doRow_270 : decode cX12_doRow 270 = .ok (.aload_n 0, 1) := by decide +kernel
theorem dX12_doRow_271 : decode cX12_doRow 271 = .ok (.iload 8, 2) := by decide +kernel
theorem dX12_doRow_273 : decode cX12_doRow 273 = .ok (.invokevirtual 332, 3) := by decide +kernel
theorem dX12_doRow_276 : decode cX12_doRow 276 = .ok (.goto 9, 3) := by decide +kernel
theorem dX12_doRow_279 : decode cX12_doRow 279 = .ok (.aload_n 0, 1) := by decide +kernel
theorem dX12_doRow_280 : decode cX12_doRow 280 = .ok (.iload 8, 2) := by decide +kernel
theorem dX12_doRow_282 : decode cX12_doRow 282 = .ok (.invokevirtual 366, 3) := by decide +kernel
theorem dX12_doRow_285 : decode cX12_doRow 285 = .ok (.aload_n 0, 1) := by decide +kernel
theorem dX12_doRow_286 : decode cX12_doRow 286 = .ok (.iload_n 1, 1) := by decide +kernel
theorem dX12_doRow_287 : decode cX12_doRow 287 = .ok (.invokevirtual 356, 3) := by decide +kernel
theorem dX12_doRow_290 : decode cX12_doRow 290 = .ok (.iconst 1, 1) := by decide +kernel
theorem dX12_doRow_291 : decode cX12_doRow 291 = .ok (.ireturn, 1) := by decide +kernel
theorem dX12_doRow_292 : decode cX12_doRow 292 = .ok (.iload 6, 2) := by decide +kernel
theorem dX12_doRow_294 : decode cX12_doRow 294 = .ok (.iconst (-1), 1) := by decide +kernel
theorem dX12_doRow_295 : decode cX12_doRow 295 = .ok (.if_icmp .ne 65, 3) := by decide +kernel
theorem dX12_doRow_298 : decode cX12_doRow 298 = .ok (.aload_n 0, 1) := by decide +kernel
theorem dX12_doRow_299 : decode cX12_doRow 299 = .ok (.bipush 16, 2) := by decide +kernel
theorem dX12_doRow_301 : decode cX12_doRow 301 = .ok (.invokevirtual 274, 3) := by decide +kernel
theorem dX12_doRow_304 : decode cX12_doRow 304 = .ok (.ifCond .ne 8, 3) := by decide +kernel
theorem dX12_doRow_307 : decode cX12_doRow 307 = .ok (.aload_n 0, 1) := by decide +kernel
theorem dX12_doRow_308 : decode cX12_doRow 308 = .ok (.invokevirtual 326, 3) := by decide +kernel
theorem dX12_doRow_311 : decode cX12_doRow 311 = .ok (.ireturn, 1) := by decide +kernel
theorem dX12_doRow_312 : decode cX12_doRow 312 = .ok (.aload_n 0, 1) := by decide +kernel
theorem dX12_doRow_313 : decode cX12_doRow 313 = .ok (.iconst 2, 1) := by decide +kernel
theorem dX12_doRow_314 : decode cX12_doRow 314 = .ok (.iconst 0, 1) := by decide +kernel
theorem dX12_doRow_315 : decode cX12_doRow 315 = .ok (.aload_n 0, 1) := by decide +kernel
theorem dX12_doRow_316 : decode cX12_doRow 316 = .ok (.getfield 400, 3) := by decide +kernel
theorem dX12_doRow_319 : decode cX12_doRow 319 = .ok (.ifCond .eq 8, 3) := by decide +kernel
theorem dX12_doRow_322 : decode cX12_doRow 322 = .ok (.iload 7, 2) := by decide +kernel
theorem dX12_doRow_324 : decode cX12_doRow 324 = .ok (.goto 4, 3) := by decide +kernel
theorem dX12_doRow_327 : decode cX12_doRow 327 = .ok (.iconst 1, 1) := by decide +kernel
theorem dX12_doRow_328 : decode cX12_doRow 328 = .ok (.iconst 0, 1) := by decide +kernel
theorem dX12_doRow_329 : decode cX12_doRow 329 = .ok (.invokevirtual 313, 3) := by decide +kernel
theorem dX12_doRow_332 : decode cX12_doRow 332 = .ok (.istore 8, 2) := by decide +kernel
theorem dX12_doRow_334 : decode cX12_doRow 334 = .ok (.aload_n 0, 1) := by decide +kernel
theorem dX12_doRow_335 : decode cX12_doRow 335 = .ok (.aload_n 0, 1) := by decide +kernel
theorem dX12_doRow_336 : decode cX12_doRow 336 = .ok (.iconst 2, 1) := by decide +kernel
theorem dX12_doRow_337 : decode cX12_doRow 337 = .ok (.invokevirtual 347, 3) := by decide +kernel
theorem dX12_doRow_340 : decode cX12_doRow 340 = .ok (.iload 5, 2) := by decide +kernel
theorem dX12_doRow_342 : decode cX12_doRow 342 = .ok (.invokevirtual 403, 3) := by decide +kernel
theorem dX12_doRow_345 : decode cX12_doRow 345 = .ok (.istore 9, 2) := by decide +kernel
theorem dX12_doRow_347 : decode cX12_doRow 347 = .ok (.aload_n 0, 1) := by decide +kernel
theorem dX12_doRow_348 : decode cX12_doRow 348 = .ok (.getfield 199, 3) := by decide +kernel
theorem dX12_doRow_351 : decode cX12_doRow 351 = .ok (.aload_n 0, 1) := by decide +kernel
theorem dX12_doRow_352 : decode cX12_doRow 352 = .ok (.getfield 397, 3) := by decide +kernel
theorem dX12_doRow_355 : decode cX12_doRow 355 = .ok (.iload 8, 2) := by decide +kernel
theorem dX12_doRow_357 : decode cX12_doRow 357 = .ok (.iastore, 1) := by decide +kernel
theorem dX12_doRow_358 : decode cX12_doRow 358 = .ok (.iconst 1, 1) := by decide +kernel
theorem dX12_doRow_359 : decode cX12_doRow 359 = .ok (.ireturn, 1) := by decide +kernel
theorem dX12_doRow_360 : decode cX12_doRow 360 = .ok (.aload_n 0, 1) := by decide +kernel
theorem dX12_doRow_361 : decode cX12_doRow 361 = .ok (.getfield 199, 3) := by decide +kernel
theorem dX12_doRow_364 : decode cX12_doRow 364 = .ok (.iload 6, 2) := by decide +kernel
theorem dX12_doRow_366 : decode cX12_doRow 366 = .ok (.aload_n 0, 1) := by decide +kernel
theorem dX12_doRow_367 : decode cX12_doRow 367 = .ok (.iconst 0, 1) := by decide +kernel
theorem dX12_doRow_368 : decode cX12_doRow 368 = .ok (.invokevirtual 347, 3) := by decide +kernel
theorem dX12_doRow_371 : decode cX12_doRow 371 = .ok (.iastore, 1) := by decide +kernel
theorem dX12_doRow_372 : decode cX12_doRow 372 = .ok (.aload_n 0, 1) := by decide +kernel
theorem dX12_doRow_373 : decode cX12_doRow 373 = .ok (.iconst 3, 1) := by decide +kernel
theorem dX12_doRow_374 : decode cX12_doRow 374 = .ok (.invokevirtual 359, 3) := by decide +kernel
theorem dX12_doRow_377 : decode cX12_doRow 377 = .ok (.aload_n 0, 1) := by decide +kernel
theorem dX12_doRow_378 : decode cX12_doRow 378 = .ok (.iload_n 1, 1) := by decide +kernel
theorem dX12_doRow_379 : decode cX12_doRow 379 = .ok (.invokevirtual 356, 3) := by decide +kernel
theorem dX12_doRow_382 : decode cX12_doRow 382 = .ok (.iconst 1, 1) := by decide +kernel
theorem dX12_doRow_383 : decode cX12_doRow 383 = .ok (.ireturn, 1) := by decide +kernel
def wp_X12_doRow : List Cond := .code yX12_doRow cX12_doRow 10 (some .boolean) :: (((((((((((([.fieldLink RX12 199 "SteadyMachineModel" "cells" "[I", .fieldLink RX12 397 "SteadyMachineModel" "missing" "I", .fieldLink RX12 400 "SteadyMachineModel" "missingLast" "Z", .fieldLink RX12 183 "SteadyMachineModel" "infos" "[I", .fieldLink RX12 189 "SteadyMachineModel" "itemTypes" "[B"] ++ (wsV RX12 313 RX12 yX12_thing wp_X12_thing)) ++ (wsV RX12 347 RX12 yX12_value wp_X12_value)) ++ (wsV RX12 403 RX12 yX12_itemCell wp_X12_itemCell)) ++ (wsV RX12 356 RX12 yX12_onward wp_X12_onward)) ++ (wsV RX12 359 RX12 yX12_drop wp_X12_drop)) ++ (wsV RX12 366 RX12 yX12_putInt wp_X12_putInt)) ++ (wsV RX12 332 RX12 yX12_putThing wp_X12_putThing)) ++ (wsV RX12 274 RX12 yX12_make wp_X12_make)) ++ (wsV RX12 326 RX12 yX12_noRoom wp_X12_noRoom)) ++ (wsV RX12 350 RX12 yX12_fault wp_X12_fault)) ++ (va_wsS RX12 391 yX12_deep wp_X12_deep)) ++ wsX120)
theorem wq_X12_doRow : wp_X12_doRow.all goodWord = true := wa_c rfl (wa_a (wa_a (wa_a (wa_a (wa_a (wa_a (wa_a (wa_a (wa_a (wa_a (wa_a (wa_a (by decide +kernel) (wa_V wq_X12_thing)) (wa_V wq_X12_value)) (wa_V wq_X12_itemCell)) (wa_V wq_X12_onward)) (wa_V wq_X12_drop)) (wa_V wq_X12_putInt)) (wa_V wq_X12_putThing)) (wa_V wq_X12_make)) (wa_V wq_X12_noRoom)) (wa_V wq_X12_fault)) (wa_S wq_X12_deep)) uq_X12)
set_option maxRecDepth 200000 in
theorem wt_X12_doRow : GoodIn lw_tbl wp_X12_doRow := wm_c (List.mem_of_getElem? (i := 1756) rfl) rfl (wm_a (wm_a (wm_a (wm_a (wm_a (wm_a (wm_a (wm_a (wm_a (wm_a (wm_a (wm_a (goodIn_r _ [1506, 1530, 1531, 1499, 1501] (by decide +kernel) (by decide +kernel)) (wm_a (goodIn_r _ [1717, 1719, 122, 147] (by decide +kernel) (by decide +kernel)) wt_X12_thing)) (wm_a (goodIn_r _ [1690, 1692, 116, 147] (by decide +kernel) (by decide +kernel)) wt_X12_value)) (wm_a (goodIn_r _ [1760, 1762, 132, 147] (by decide +kernel) (by decide +kernel)) wt_X12_itemCell)) (wm_a (goodIn_r _ [1701, 1703, 118, 147] (by decide +kernel) (by decide +kernel)) wt_X12_onward)) (wm_a (goodIn_r _ [1697, 1699, 117, 147] (by decide +kernel) (by decide +kernel)) wt_X12_drop)) (wm_a (goodIn_r _ [1733, 1735, 126, 147] (by decide +kernel) (by decide +kernel)) wt_X12_putInt)) (wm_a (goodIn_r _ [1674, 1676, 112, 147] (by decide +kernel) (by decide +kernel)) wt_X12_putThing)) (wm_a (goodIn_r _ [1630, 1632, 102, 147] (by decide +kernel) (by decide +kernel)) wt_X12_make)) (wm_a (goodIn_r _ [1709, 1711, 120, 147] (by decide +kernel) (by decide +kernel)) wt_X12_noRoom)) (wm_a (goodIn_r _ [1725, 1727, 124, 147] (by decide +kernel) (by decide +kernel)) wt_X12_fault)) (wm_a (goodIn_r _ [1757, 1758, 147] (by decide +kernel) (by decide +kernel)) wt_X12_deep)) ut_X12)
theorem wg_X12_doRow_X12_thing_313 : GoodIn wp_X12_doRow (wsV RX12 313 RX12 yX12_thing wp_X12_thing) := goodIn_sub (fun w h => List.mem_cons_of_mem _ (List.mem_append_left _ (List.mem_append_left _ (List.mem_append_left _ (List.mem_append_left _ (List.mem_append_left _ (List.mem_append_left _ (List.mem_append_left _ (List.mem_append_left _ (List.mem_append_left _ (List.mem_append_left _ (List.mem_append_left _ (List.mem_append_right _ h))))))))))))) (wa_V wq_X12_thing)
theorem wg_X12_doRow_X12_value_347 : GoodIn wp_X12_doRow (wsV RX12 347 RX12 yX12_value wp_X12_value) := goodIn_sub (fun w h => List.mem_cons_of_mem _ (List.mem_append_left _ (List.mem_append_left _ (List.mem_append_left _ (List.mem_append_left _ (List.mem_append_left _ (List.mem_append_left _ (List.mem_append_left _ (List.mem_append_left _ (List.mem_append_left _ (List.mem_append_left _ (List.mem_append_right _ h)))))))))))) (wa_V wq_X12_value)
theorem wg_X12_doRow_X12_itemCell_403 : GoodIn wp_X12_doRow (wsV RX12 403 RX12 yX12_itemCell wp_X12_itemCell) := goodIn_sub (fun w h => List.mem_cons_of_mem _ (List.mem_append_left _ (List.mem_append_left _ (List.mem_append_left _ (List.mem_append_left _ (List.mem_append_left _ (List.mem_append_left _ (List.mem_append_left _ (List.mem_append_left _ (List.mem_append_left _ (List.mem_append_right _ h))))))))))) (wa_V wq_X12_itemCell)
theorem wg_X12_doRow_X12_onward_356 : GoodIn wp_X12_doRow (wsV RX12 356 RX12 yX12_onward wp_X12_onward) := goodIn_sub (fun w h => List.mem_cons_of_mem _ (List.mem_append_left _ (List.mem_append_left _ (List.mem_append_left _ (List.mem_append_left _ (List.mem_append_left _ (List.mem_append_left _ (List.mem_append_left _ (List.mem_append_left _ (List.mem_append_right _ h)))))))))) (wa_V wq_X12_onward)
theorem wg_X12_doRow_X12_drop_359 : GoodIn wp_X12_doRow (wsV RX12 359 RX12 yX12_drop wp_X12_drop) := goodIn_sub (fun w h => List.mem_cons_of_mem _ (List.mem_append_left _ (List.mem_append_left _ (List.mem_append_left _ (List.mem_append_left _ (List.mem_append_left _ (List.mem_append_left _ (List.mem_append_left _ (List.mem_append_right _ h))))))))) (wa_V wq_X12_drop)
theorem wg_X12_doRow_X12_putInt_366 : GoodIn wp_X12_doRow (wsV RX12 366 RX12 yX12_putInt wp_X12_putInt) := goodIn_sub (fun w h => List.mem_cons_of_mem _ (List.mem_append_left _ (List.mem_append_left _ (List.mem_append_left _ (List.mem_append_left _ (List.mem_append_left _ (List.mem_append_left _ (List.mem_append_right _ h)))))))) (wa_V wq_X12_putInt)
theorem wg_X12_doRow_X12_putThing_332 : GoodIn wp_X12_doRow (wsV RX12 332 RX12 yX12_putThing wp_X12_putThing) := goodIn_sub (fun w h => List.mem_cons_of_mem _ (List.mem_append_left _ (List.mem_append_left _ (List.mem_append_left _ (List.mem_append_left _ (List.mem_append_left _ (List.mem_append_right _ h))))))) (wa_V wq_X12_putThing)
theorem wg_X12_doRow_X12_make_274 : GoodIn wp_X12_doRow (wsV RX12 274 RX12 yX12_make wp_X12_make) := goodIn_sub (fun w h => List.mem_cons_of_mem _ (List.mem_append_left _ (List.mem_append_left _ (List.mem_append_left _ (List.mem_append_left _ (List.mem_append_right _ h)))))) (wa_V wq_X12_make)
theorem wg_X12_doRow_X12_noRoom_326 : GoodIn wp_X12_doRow (wsV RX12 326 RX12 yX12_noRoom wp_X12_noRoom) := goodIn_sub (fun w h => List.mem_cons_of_mem _ (List.mem_append_left _ (List.mem_append_left _ (List.mem_append_left _ (List.mem_append_right _ h))))) (wa_V wq_X12_noRoom)
theorem wg_X12_doRow_X12_fault_350 : GoodIn wp_X12_doRow (wsV RX12 350 RX12 yX12_fault wp_X12_fault) := goodIn_sub (fun w h => List.mem_cons_of_mem _ (List.mem_append_left _ (List.mem_append_left _ (List.mem_append_right _ h)))) (wa_V wq_X12_fault)
theorem wg_X12_doRow_X12_deep_391 : GoodIn wp_X12_doRow (va_wsS RX12 391 yX12_deep wp_X12_deep) := goodIn_sub (fun w h => List.mem_cons_of_mem _ (List.mem_append_left _ (List.mem_append_right _ h))) (wa_S wq_X12_deep)
theorem wi_X12_doRow_X12 : ∀ w ∈ wsX120, w ∈ wp_X12_doRow := fun w h => List.mem_cons_of_mem _ (List.mem_append_right _ h)
set_option maxHeartbeats 4000000 in
set_option maxRecDepth 100000 in
theorem c_X12_doRow (l : Launch) (D : va_G) (sz t0 : Nat) (σ : sm_S) (α : sm_A) (p1 : Int32) (p2 : Int32) (p3 : Int32) (K : Int32 → sm_S → Prop) (hF : mp_X12_doRow σ p1 p2 p3 K) : Met l yX12_doRow wp_X12_doRow { frames := 6, cells := 0, slots := 0, locals := 146 } (sm_P sm_wM sm_tM 40 D sz t0 σ α [.ref (α.1 1), .int p1, .int p2, .int p3]) (va_Qi K (sm_B sm_wM D α) (sm_a α 40 sz)) 0 0 (sm_a α 40 sz) := by
  refine Met.ofW (cc := cX12_doRow) (maxL := 10) (ret := (some .boolean)) (by decide) rfl ?_
  intro p e s m args below meth c s₁ B hml hv
  obtain ⟨rfl, hsz, hP, hK, hD0, hE⟩ := hv
  have hx := B.exec
  have hb := B.bytes
  have hr := B.returns
  have hts := atoms_spec (ws := wp_X12_doRow) B.pre
  have hown : s.vm.findClass RX12 = some m.cls := findClass_of_methodNamed B.named
  have hlocks := B.notSynchronized
  subst hsz
  have hD : sm_D (sm_a α 40 s.heap.size) α 40 := hD0.own
  have hA : ∀ q : Nat, s.heap.size ≤ q → sm_a α 40 s.heap.size q := fun q h => Or.inr h
  generalize hAe : sm_a α 40 s.heap.size = A at hD hA hE ⊢
  have hS : va_S A s.heap s.heap [] := va_S.rf
  have in_X12 : ∀ w ∈ wsX120, w ∈ wp_X12_doRow := wi_X12_doRow_X12
  have k_0 := hts (.fieldLink RX12 199 "SteadyMachineModel" "cells" "[I") (by decide +kernel)
  have k_1 := hts (.fieldLink RX12 397 "SteadyMachineModel" "missing" "I") (by decide +kernel)
  have k_2 := hts (.fieldLink RX12 400 "SteadyMachineModel" "missingLast" "Z") (by decide +kernel)
  have k_3 := hts (.fieldLink RX12 183 "SteadyMachineModel" "infos" "[I") (by decide +kernel)
  have k_4 := hts (.fieldLink RX12 189 "SteadyMachineModel" "itemTypes" "[B") (by decide +kernel)
  have hl := lv_entry ([.ref (α.1 1), .int p1, .int p2, .int p3]) (n := 10) (Nat.le_of_ble_eq_true rfl)
  rw [lg_entry_eq]
  generalize (lg_sl ([.ref (α.1 1), .int p1, .int p2, .int p3]) ++ List.replicate (10 - (lg_sl ([.ref (α.1 1), .int p1, .int p2, .int p3])).length) Slot.unset).toArray = ls at hl ⊢
  have hl : lv_has ls 10 [(0, .ref (α.1 1)), (1, .int p1), (2, .int p2), (3, .int p3)] := hl
  have B328 : ∀ (σ : sm_S) (x5 : Int32) (y1 : Int32) (y2 : Int32) (y3 : Int32), mp_X12_doRow_328 K σ x5 y1 y2 y3 → sm_J p l e (headSpec wp_X12_doRow { frames := 6, cells := 0, slots := 0, locals := 146 }).room s m ([.ref (α.1 1), .int p1, .int p2, .int p3] : List Value).toArray below meth c (MQ below (va_Qi K (sm_B sm_wM D α) A) ([.ref (α.1 1), .int p1, .int p2, .int p3] : List Value).toArray s 0 0 A) D A 10 (sm_wM σ α) 328 [(0, .ref (α.1 1)), (5, .int x5)] [.int y3, .int y2, .int y1, .ref (α.1 1)] := by
    intro σ x5 y1 y2 y3 hF H locs ls hP hS hl
    unfold mp_X12_doRow_328 at hF
    refine lv_iconst (v := 0) hx hb dX12_doRow_328 (by decide) ?_
    refine sm_vi (As := [.int y1, .int y2, .int y3, .int 0]) (rest := []) hP hK hD hE hS hA ⟨hx, hb, hml, hown, hts⟩ hl.1 (c_X12_thing l D H.size t0 σ α y1 y2 y3 0 _ hF) (cwV 4 hts wg_X12_doRow_X12_thing_313 rfl rfl rfl (by decide +kernel) ⟨Nat.le_of_ble_eq_true rfl, Nat.le_of_ble_eq_true rfl⟩) (va_recv hK hP (ci := 12) (q0 := 1) rfl (sm_gX12 σ α)) rfl rfl (Nat.le_of_ble_eq_true rfl) dX12_doRow_329 ⟨Nat.zero_le _, Nat.zero_le _⟩ (fun r2 σ1 H locs hF hP hS => ?_)
    refine lv_istore (lv' := [(8, .int r2), (0, .ref (α.1 1)), (5, .int x5)]) hx hb dX12_doRow_332 hl (by decide) rfl (fun ls hl => ?_)
    refine lv_aload_n hx hb dX12_doRow_334 rfl (lv_at hl 1 rfl) ?_
    refine lv_aload_n hx hb dX12_doRow_335 rfl (lv_at hl 1 rfl) ?_
    refine lv_iconst (v := 2) hx hb dX12_doRow_336 (by decide) ?_
    refine sm_vi (As := [.int 2]) (rest := [.ref (α.1 1)]) hP hK hD hE hS hA ⟨hx, hb, hml, hown, hts⟩ hl.1 (c_X12_value l D H.size t0 σ1 α 2 _ hF) (cwV 1 hts wg_X12_doRow_X12_value_347 rfl rfl rfl (by decide +kernel) ⟨Nat.le_of_ble_eq_true rfl, Nat.le_of_ble_eq_true rfl⟩) (va_recv hK hP (ci := 12) (q0 := 1) rfl (sm_gX12 σ1 α)) rfl rfl (Nat.le_of_ble_eq_true rfl) dX12_doRow_337 ⟨Nat.zero_le _, Nat.zero_le _⟩ (fun r4 σ3 H locs hF hP hS => ?_)
    refine lv_iload hx hb dX12_doRow_340 (lv_at hl 2 rfl) ?_
    refine sm_vi (As := [.int r4, .int x5]) (rest := []) hP hK hD hE hS hA ⟨hx, hb, hml, hown, hts⟩ hl.1 (c_X12_itemCell l D H.size t0 σ3 α r4 x5 _ hF) (cwV 2 hts wg_X12_doRow_X12_itemCell_403 rfl rfl rfl (by decide +kernel) ⟨Nat.le_of_ble_eq_true rfl, Nat.le_of_ble_eq_true rfl⟩) (va_recv hK hP (ci := 12) (q0 := 1) rfl (sm_gX12 σ3 α)) rfl rfl (Nat.le_of_ble_eq_true rfl) dX12_doRow_342 ⟨Nat.zero_le _, Nat.zero_le _⟩ (fun r6 σ5 H locs hF hP hS => ?_)
    refine lv_istore (lv' := [(9, .int r6), (8, .int r2), (0, .ref (α.1 1)), (5, .int x5)]) hx hb dX12_doRow_345 hl (by decide) rfl (fun ls hl => ?_)
    refine lv_aload_n hx hb dX12_doRow_347 rfl (lv_at hl 2 rfl) ?_
    refine va_get (D := D) (ci := 12) (v := .ref (α.1 31)) (C := RX12) (T := TX12) (N := 42) hx hb hts in_X12 hown hK hP 1 (sm_gX12 σ5 α) rfl 16 (by decide) k_0 (fun _ h9 => h9) rfl dX12_doRow_348 ?_
    refine lv_aload_n hx hb dX12_doRow_351 rfl (lv_at hl 2 rfl) ?_
    refine va_get (D := D) (ci := 12) (v := .int (σ5.1 26)) (C := RX12) (T := TX12) (N := 42) hx hb hts in_X12 hown hK hP 1 (sm_gX12 σ5 α) rfl 40 (by decide) k_1 (fun _ h9 => h9) rfl dX12_doRow_352 ?_
    refine lv_iload hx hb dX12_doRow_355 (lv_at hl 1 rfl) ?_
    obtain ⟨h7, hF⟩ := hF
    refine va_iast (n := (σ5.2.2.1 31)) (f := (σ5.2.2.2.1 31)) (x := r2) hx hb hK hP (hD.to (sm_wM_m _ _)) hS 31 29 (sm_aM31 σ5 α) (sm_yM31 α) h7 dX12_doRow_357 (fun H locs hP _ hS => ?_)
    rw [sm_rM31] at hP
    obtain ⟨σ8, eσ8⟩ : ∃ x : sm_S, x = sm_r σ5 31 (upd (σ5.2.2.2.1 31) (σ5.1 26).toNatClampNeg r2) := ⟨_, rfl⟩
    replace hF := hF σ8 eσ8
    rw [← eσ8] at hP
    refine lv_iconst (v := 1) hx hb dX12_doRow_358 (by decide) ?_
    exact W.zret (v := 1) hx hb hr sm_z1.1 (fun t ht hW => ⟨⟨1, σ8, rfl, hF, (by unfold sm_B; rw [ht]; exact hP)⟩, hS.F ht⟩) hS.2.2 dX12_doRow_359
  have B285 : ∀ (σ : sm_S) (x1 : Int32), mp_X12_doRow_285 K σ x1 → sm_J p l e (headSpec wp_X12_doRow { frames := 6, cells := 0, slots := 0, locals := 146 }).room s m ([.ref (α.1 1), .int p1, .int p2, .int p3] : List Value).toArray below meth c (MQ below (va_Qi K (sm_B sm_wM D α) A) ([.ref (α.1 1), .int p1, .int p2, .int p3] : List Value).toArray s 0 0 A) D A 10 (sm_wM σ α) 285 [(0, .ref (α.1 1)), (1, .int x1)] [] := by
    intro σ x1 hF H locs ls hP hS hl
    unfold mp_X12_doRow_285 at hF
    refine lv_aload_n hx hb dX12_doRow_285 rfl (lv_at hl 0 rfl) ?_
    refine lv_iload_n hx hb dX12_doRow_286 rfl (lv_at hl 1 rfl) ?_
    refine sm_vv (As := [.int x1]) (rest := []) hP hK hD hE hS hA ⟨hx, hb, hml, hown, hts⟩ hl.1 (c_X12_onward l D H.size t0 σ α x1 _ hF) (cwV 1 hts wg_X12_doRow_X12_onward_356 rfl rfl rfl (by decide +kernel) ⟨Nat.le_of_ble_eq_true rfl, Nat.le_of_ble_eq_true rfl⟩) (va_recv hK hP (ci := 12) (q0 := 1) rfl (sm_gX12 σ α)) rfl rfl (Nat.le_of_ble_eq_true rfl) dX12_doRow_287 ⟨Nat.zero_le _, Nat.zero_le _⟩ (fun σ9 H locs hF hP hS => ?_)
    refine lv_iconst (v := 1) hx hb dX12_doRow_290 (by decide) ?_
    exact W.zret (v := 1) hx hb hr sm_z1.1 (fun t ht hW => ⟨⟨1, σ9, rfl, hF, (by unfold sm_B; rw [ht]; exact hP)⟩, hS.F ht⟩) hS.2.2 dX12_doRow_291
  have B258 : ∀ (σ : sm_S) (x1 : Int32) (x7 : Int32) (y0 : Int32), mp_X12_doRow_258 K σ x1 x7 y0 → sm_J p l e (headSpec wp_X12_doRow { frames := 6, cells := 0, slots := 0, locals := 146 }).room s m ([.ref (α.1 1), .int p1, .int p2, .int p3] : List Value).toArray below meth c (MQ below (va_Qi K (sm_B sm_wM D α) A) ([.ref (α.1 1), .int p1, .int p2, .int p3] : List Value).toArray s 0 0 A) D A 10 (sm_wM σ α) 258 [(0, .ref (α.1 1)), (1, .int x1), (7, .int x7)] [.int y0] := by
    intro σ x1 x7 y0 hF H locs ls hP hS hl
    unfold mp_X12_doRow_258 at hF
    refine lv_istore (lv' := [(8, .int y0), (0, .ref (α.1 1)), (1, .int x1), (7, .int x7)]) hx hb dX12_doRow_258 hl (by decide) rfl (fun ls hl => ?_)
    refine lv_aload_n hx hb dX12_doRow_260 rfl (lv_at hl 1 rfl) ?_
    refine lv_iconst (v := 2) hx hb dX12_doRow_261 (by decide) ?_
    refine sm_vv (As := [.int 2]) (rest := []) hP hK hD hE hS hA ⟨hx, hb, hml, hown, hts⟩ hl.1 (c_X12_drop l D H.size t0 σ α 2 _ hF) (cwV 1 hts wg_X12_doRow_X12_drop_359 rfl rfl rfl (by decide +kernel) ⟨Nat.le_of_ble_eq_true rfl, Nat.le_of_ble_eq_true rfl⟩) (va_recv hK hP (ci := 12) (q0 := 1) rfl (sm_gX12 σ α)) rfl rfl (Nat.le_of_ble_eq_true rfl) dX12_doRow_262 ⟨Nat.zero_le _, Nat.zero_le _⟩ (fun σ10 H locs hF hP hS => ?_)
    refine lv_iload hx hb dX12_doRow_265 (lv_at hl 3 rfl) ?_
    refine lv_if_eq (tgt := 279) hx hb dX12_doRow_267 (by decide) (fun h11 => ?_) (fun h11 => ?_)
    · replace hF := hF.1 h11
      refine lv_aload_n hx hb dX12_doRow_279 rfl (lv_at hl 1 rfl) ?_
      refine lv_iload hx hb dX12_doRow_280 (lv_at hl 0 rfl) ?_
      refine sm_vv (As := [.int y0]) (rest := []) hP hK hD hE hS hA ⟨hx, hb, hml, hown, hts⟩ hl.1 (c_X12_putInt l D H.size t0 σ10 α y0 _ hF) (cwV 1 hts wg_X12_doRow_X12_putInt_366 rfl rfl rfl (by decide +kernel) ⟨Nat.le_of_ble_eq_true rfl, Nat.le_of_ble_eq_true rfl⟩) (va_recv hK hP (ci := 12) (q0 := 1) rfl (sm_gX12 σ10 α)) rfl rfl (Nat.le_of_ble_eq_true rfl) dX12_doRow_282 ⟨Nat.zero_le _, Nat.zero_le _⟩ (fun σ12 H locs hF hP hS => ?_)
      exact B285 σ12 x1 hF H locs ls hP hS (lv_sub hl [1, 2] rfl)
    · replace hF := hF.2 h11
      refine lv_aload_n hx hb dX12_doRow_270 rfl (lv_at hl 1 rfl) ?_
      refine lv_iload hx hb dX12_doRow_271 (lv_at hl 0 rfl) ?_
      refine sm_vv (As := [.int y0]) (rest := []) hP hK hD hE hS hA ⟨hx, hb, hml, hown, hts⟩ hl.1 (c_X12_putThing l D H.size t0 σ10 α y0 _ hF) (cwV 1 hts wg_X12_doRow_X12_putThing_332 rfl rfl rfl (by decide +kernel) ⟨Nat.le_of_ble_eq_true rfl, Nat.le_of_ble_eq_true rfl⟩) (va_recv hK hP (ci := 12) (q0 := 1) rfl (sm_gX12 σ10 α)) rfl rfl (Nat.le_of_ble_eq_true rfl) dX12_doRow_273 ⟨Nat.zero_le _, Nat.zero_le _⟩ (fun σ13 H locs hF hP hS => ?_)
      refine lv_goto (tgt := 285) hx hb dX12_doRow_276 (by decide) ?_
      exact B285 σ13 x1 hF H locs ls hP hS (lv_sub hl [1, 2] rfl)
  have B224 : ∀ (σ : sm_S) (x1 : Int32) (x2 : Int32) (x5 : Int32) (x6 : Int32) (y0 : Int32), mp_X12_doRow_224 K σ x1 x2 x5 x6 y0 → sm_J p l e (headSpec wp_X12_doRow { frames := 6, cells := 0, slots := 0, locals := 146 }).room s m ([.ref (α.1 1), .int p1, .int p2, .int p3] : List Value).toArray below meth c (MQ below (va_Qi K (sm_B sm_wM D α) A) ([.ref (α.1 1), .int p1, .int p2, .int p3] : List Value).toArray s 0 0 A) D A 10 (sm_wM σ α) 224 [(0, .ref (α.1 1)), (1, .int x1), (2, .int x2), (5, .int x5), (6, .int x6)] [.int y0] := by
    intro σ x1 x2 x5 x6 y0 hF H locs ls hP hS hl
    unfold mp_X12_doRow_224 at hF
    refine lv_istore (lv' := [(7, .int y0), (0, .ref (α.1 1)), (1, .int x1), (2, .int x2), (5, .int x5), (6, .int x6)]) hx hb dX12_doRow_224 hl (by decide) rfl (fun ls hl => ?_)
    refine lv_iload_n hx hb dX12_doRow_226 rfl (lv_at hl 3 rfl) ?_
    refine lv_bipush (v := 33) hx hb dX12_doRow_227 (by decide) ?_
    refine lv_icmp_ne (tgt := 292) hx hb dX12_doRow_229 (by decide) (fun h14 => ?_) (fun h14 => ?_)
    · replace hF := hF.1 h14
      refine lv_iload hx hb dX12_doRow_292 (lv_at hl 5 rfl) ?_
      refine lv_iconst (v := -1) hx hb dX12_doRow_294 (by decide) ?_
      refine lv_icmp_ne (tgt := 360) hx hb dX12_doRow_295 (by decide) (fun h15 => ?_) (fun h15 => ?_)
      · replace hF := hF.1 h15
        refine lv_aload_n hx hb dX12_doRow_360 rfl (lv_at hl 1 rfl) ?_
        refine va_get (D := D) (ci := 12) (v := .ref (α.1 31)) (C := RX12) (T := TX12) (N := 42) hx hb hts in_X12 hown hK hP 1 (sm_gX12 σ α) rfl 16 (by decide) k_0 (fun _ h9 => h9) rfl dX12_doRow_361 ?_
        refine lv_iload hx hb dX12_doRow_364 (lv_at hl 5 rfl) ?_
        refine lv_aload_n hx hb dX12_doRow_366 rfl (lv_at hl 1 rfl) ?_
        refine lv_iconst (v := 0) hx hb dX12_doRow_367 (by decide) ?_
        refine sm_vi (As := [.int 0]) (rest := [.int x6, .ref (α.1 31)]) hP hK hD hE hS hA ⟨hx, hb, hml, hown, hts⟩ hl.1 (c_X12_value l D H.size t0 σ α 0 _ hF) (cwV 1 hts wg_X12_doRow_X12_value_347 rfl rfl rfl (by decide +kernel) ⟨Nat.le_of_ble_eq_true rfl, Nat.le_of_ble_eq_true rfl⟩) (va_recv hK hP (ci := 12) (q0 := 1) rfl (sm_gX12 σ α)) rfl rfl (Nat.le_of_ble_eq_true rfl) dX12_doRow_368 ⟨Nat.zero_le _, Nat.zero_le _⟩ (fun r17 σ16 H locs hF hP hS => ?_)
        obtain ⟨h18, hF⟩ := hF
        refine va_iast (n := (σ16.2.2.1 31)) (f := (σ16.2.2.2.1 31)) (x := r17) hx hb hK hP (hD.to (sm_wM_m _ _)) hS 31 29 (sm_aM31 σ16 α) (sm_yM31 α) h18 dX12_doRow_371 (fun H locs hP _ hS => ?_)
        rw [sm_rM31] at hP
        obtain ⟨σ19, eσ19⟩ : ∃ x : sm_S, x = sm_r σ16 31 (upd (σ16.2.2.2.1 31) x6.toNatClampNeg r17) := ⟨_, rfl⟩
        replace hF := hF σ19 eσ19
        rw [← eσ19] at hP
        refine lv_aload_n hx hb dX12_doRow_372 rfl (lv_at hl 1 rfl) ?_
        refine lv_iconst (v := 3) hx hb dX12_doRow_373 (by decide) ?_
        refine sm_vv (As := [.int 3]) (rest := []) hP hK hD hE hS hA ⟨hx, hb, hml, hown, hts⟩ hl.1 (c_X12_drop l D H.size t0 σ19 α 3 _ hF) (cwV 1 hts wg_X12_doRow_X12_drop_359 rfl rfl rfl (by decide +kernel) ⟨Nat.le_of_ble_eq_true rfl, Nat.le_of_ble_eq_true rfl⟩) (va_recv hK hP (ci := 12) (q0 := 1) rfl (sm_gX12 σ19 α)) rfl rfl (Nat.le_of_ble_eq_true rfl) dX12_doRow_374 ⟨Nat.zero_le _, Nat.zero_le _⟩ (fun σ20 H locs hF hP hS => ?_)
        refine lv_aload_n hx hb dX12_doRow_377 rfl (lv_at hl 1 rfl) ?_
        refine lv_iload_n hx hb dX12_doRow_378 rfl (lv_at hl 2 rfl) ?_
        refine sm_vv (As := [.int x1]) (rest := []) hP hK hD hE hS hA ⟨hx, hb, hml, hown, hts⟩ hl.1 (c_X12_onward l D H.size t0 σ20 α x1 _ hF) (cwV 1 hts wg_X12_doRow_X12_onward_356 rfl rfl rfl (by decide +kernel) ⟨Nat.le_of_ble_eq_true rfl, Nat.le_of_ble_eq_true rfl⟩) (va_recv hK hP (ci := 12) (q0 := 1) rfl (sm_gX12 σ20 α)) rfl rfl (Nat.le_of_ble_eq_true rfl) dX12_doRow_379 ⟨Nat.zero_le _, Nat.zero_le _⟩ (fun σ21 H locs hF hP hS => ?_)
        refine lv_iconst (v := 1) hx hb dX12_doRow_382 (by decide) ?_
        exact W.zret (v := 1) hx hb hr sm_z1.1 (fun t ht hW => ⟨⟨1, σ21, rfl, hF, (by unfold sm_B; rw [ht]; exact hP)⟩, hS.F ht⟩) hS.2.2 dX12_doRow_383
      · replace hF := hF.2 h15
        refine lv_aload_n hx hb dX12_doRow_298 rfl (lv_at hl 1 rfl) ?_
        refine lv_bipush (v := 16) hx hb dX12_doRow_299 (by decide) ?_
        refine sm_vi (As := [.int 16]) (rest := []) hP hK hD hE hS hA ⟨hx, hb, hml, hown, hts⟩ hl.1 (c_X12_make l D H.size t0 σ α 16 _ hF) (cwV 1 hts wg_X12_doRow_X12_make_274 rfl rfl rfl (by decide +kernel) ⟨Nat.le_of_ble_eq_true rfl, Nat.le_of_ble_eq_true rfl⟩) (va_recv hK hP (ci := 12) (q0 := 1) rfl (sm_gX12 σ α)) rfl rfl (Nat.le_of_ble_eq_true rfl) dX12_doRow_301 ⟨Nat.zero_le _, Nat.zero_le _⟩ (fun r23 σ22 H locs hF hP hS => ?_)
        refine lv_if_ne (tgt := 312) hx hb dX12_doRow_304 (by decide) (fun h24 => ?_) (fun h24 => ?_)
        · replace hF := hF.1 h24
          refine lv_aload_n hx hb dX12_doRow_312 rfl (lv_at hl 1 rfl) ?_
          refine lv_iconst (v := 2) hx hb dX12_doRow_313 (by decide) ?_
          refine lv_iconst (v := 0) hx hb dX12_doRow_314 (by decide) ?_
          refine lv_aload_n hx hb dX12_doRow_315 rfl (lv_at hl 1 rfl) ?_
          refine va_get (D := D) (ci := 12) (v := .int (σ22.1 27)) (C := RX12) (T := TX12) (N := 42) hx hb hts in_X12 hown hK hP 1 (sm_gX12 σ22 α) rfl 41 (by decide) k_2 (fun _ h9 => h9) rfl dX12_doRow_316 ?_
          refine lv_if_eq (tgt := 327) hx hb dX12_doRow_319 (by decide) (fun h25 => ?_) (fun h25 => ?_)
          · replace hF := hF.1 h25
            refine lv_iconst (v := 1) hx hb dX12_doRow_327 (by decide) ?_
            exact B328 σ22 x5 2 0 1 hF H locs ls hP hS (lv_sub hl [1, 4] rfl)
          · replace hF := hF.2 h25
            refine lv_iload hx hb dX12_doRow_322 (lv_at hl 0 rfl) ?_
            refine lv_goto (tgt := 328) hx hb dX12_doRow_324 (by decide) ?_
            exact B328 σ22 x5 2 0 y0 hF H locs ls hP hS (lv_sub hl [1, 4] rfl)
        · replace hF := hF.2 h24
          refine lv_aload_n hx hb dX12_doRow_307 rfl (lv_at hl 1 rfl) ?_
          refine sm_vi (As := []) (rest := []) hP hK hD hE hS hA ⟨hx, hb, hml, hown, hts⟩ hl.1 (c_X12_noRoom l D H.size t0 σ22 α _ hF) (cwV 0 hts wg_X12_doRow_X12_noRoom_326 rfl rfl rfl (by decide +kernel) ⟨Nat.le_of_ble_eq_true rfl, Nat.le_of_ble_eq_true rfl⟩) (va_recv hK hP (ci := 12) (q0 := 1) rfl (sm_gX12 σ22 α)) rfl rfl (Nat.le_of_ble_eq_true rfl) dX12_doRow_308 ⟨Nat.zero_le _, Nat.zero_le _⟩ (fun r27 σ26 H locs hF hP hS => ?_)
          obtain ⟨h28, hF⟩ := hF
          exact W.zret (v := r27) hx hb hr h28.1 (fun t ht hW => ⟨⟨r27, σ26, rfl, hF, (by unfold sm_B; rw [ht]; exact hP)⟩, hS.F ht⟩) hS.2.2 dX12_doRow_311
    · replace hF := hF.2 h14
      refine lv_iload hx hb dX12_doRow_232 (lv_at hl 5 rfl) ?_
      refine lv_iconst (v := -1) hx hb dX12_doRow_234 (by decide) ?_
      refine lv_icmp_ne (tgt := 251) hx hb dX12_doRow_235 (by decide) (fun h29 => ?_) (fun h29 => ?_)
      · replace hF := hF.1 h29
        refine lv_aload_n hx hb dX12_doRow_251 rfl (lv_at hl 1 rfl) ?_
        refine va_get (D := D) (ci := 12) (v := .ref (α.1 31)) (C := RX12) (T := TX12) (N := 42) hx hb hts in_X12 hown hK hP 1 (sm_gX12 σ α) rfl 16 (by decide) k_0 (fun _ h9 => h9) rfl dX12_doRow_252 ?_
        refine lv_iload hx hb dX12_doRow_255 (lv_at hl 5 rfl) ?_
        obtain ⟨h30, hF⟩ := hF
        refine va_iald (n := (σ.2.2.1 31)) (f := (σ.2.2.2.1 31)) hx hb hK hP 31 29 (sm_aM31 σ α) (sm_yM31 α) h30 dX12_doRow_257 ?_
        exact B258 σ x1 y0 ((σ.2.2.2.1 31) x6.toNatClampNeg) hF H locs ls hP hS (lv_sub hl [1, 2, 0] rfl)
      · replace hF := hF.2 h29
        refine lv_iload hx hb dX12_doRow_238 (lv_at hl 0 rfl) ?_
        refine lv_if_eq (tgt := 247) hx hb dX12_doRow_240 (by decide) (fun h31 => ?_) (fun h31 => ?_)
        · replace hF := hF.1 h31
          refine lv_iconst (v := 0) hx hb dX12_doRow_247 (by decide) ?_
          refine lv_goto (tgt := 258) hx hb dX12_doRow_248 (by decide) ?_
          exact B258 σ x1 y0 0 hF H locs ls hP hS (lv_sub hl [1, 2, 0] rfl)
        · replace hF := hF.2 h31
          refine lv_iconst (v := -1) hx hb dX12_doRow_243 (by decide) ?_
          refine lv_goto (tgt := 258) hx hb dX12_doRow_244 (by decide) ?_
          exact B258 σ x1 y0 (-1) hF H locs ls hP hS (lv_sub hl [1, 2, 0] rfl)
  have B193 : ∀ (σ : sm_S), mp_X12_doRow_193 K σ → sm_J p l e (headSpec wp_X12_doRow { frames := 6, cells := 0, slots := 0, locals := 146 }).room s m ([.ref (α.1 1), .int p1, .int p2, .int p3] : List Value).toArray below meth c (MQ below (va_Qi K (sm_B sm_wM D α) A) ([.ref (α.1 1), .int p1, .int p2, .int p3] : List Value).toArray s 0 0 A) D A 10 (sm_wM σ α) 193 [(0, .ref (α.1 1))] [] := by
    intro σ hF H locs ls hP hS hl
    unfold mp_X12_doRow_193 at hF
    refine lv_aload_n hx hb dX12_doRow_193 rfl (lv_at hl 0 rfl) ?_
    refine lv_iconst (v := 1) hx hb dX12_doRow_194 (by decide) ?_
    refine sm_vi (As := [.int 1]) (rest := []) hP hK hD hE hS hA ⟨hx, hb, hml, hown, hts⟩ hl.1 (c_X12_fault l D H.size t0 σ α 1 _ hF) (cwV 1 hts wg_X12_doRow_X12_fault_350 rfl rfl rfl (by decide +kernel) ⟨Nat.le_of_ble_eq_true rfl, Nat.le_of_ble_eq_true rfl⟩) (va_recv hK hP (ci := 12) (q0 := 1) rfl (sm_gX12 σ α)) rfl rfl (Nat.le_of_ble_eq_true rfl) dX12_doRow_195 ⟨Nat.zero_le _, Nat.zero_le _⟩ (fun r33 σ32 H locs hF hP hS => ?_)
    obtain ⟨h34, hF⟩ := hF
    exact W.zret (v := r33) hx hb hr h34.1 (fun t ht hW => ⟨⟨r33, σ32, rfl, hF, (by unfold sm_B; rw [ht]; exact hP)⟩, hS.F ht⟩) hS.2.2 dX12_doRow_198
  have B171 : ∀ (σ : sm_S) (x1 : Int32) (x2 : Int32) (x4 : Int32) (y1 : Int32), mp_X12_doRow_171 K σ x1 x2 x4 y1 → sm_J p l e (headSpec wp_X12_doRow { frames := 6, cells := 0, slots := 0, locals := 146 }).room s m ([.ref (α.1 1), .int p1, .int p2, .int p3] : List Value).toArray below meth c (MQ below (va_Qi K (sm_B sm_wM D α) A) ([.ref (α.1 1), .int p1, .int p2, .int p3] : List Value).toArray s 0 0 A) D A 10 (sm_wM σ α) 171 [(0, .ref (α.1 1)), (1, .int x1), (2, .int x2), (4, .int x4)] [.int y1, .ref (α.1 1)] := by
    intro σ x1 x2 x4 y1 hF H locs ls hP hS hl
    unfold mp_X12_doRow_171 at hF
    refine sm_vi (As := [.int y1]) (rest := []) hP hK hD hE hS hA ⟨hx, hb, hml, hown, hts⟩ hl.1 (c_X12_value l D H.size t0 σ α y1 _ hF) (cwV 1 hts wg_X12_doRow_X12_value_347 rfl rfl rfl (by decide +kernel) ⟨Nat.le_of_ble_eq_true rfl, Nat.le_of_ble_eq_true rfl⟩) (va_recv hK hP (ci := 12) (q0 := 1) rfl (sm_gX12 σ α)) rfl rfl (Nat.le_of_ble_eq_true rfl) dX12_doRow_171 ⟨Nat.zero_le _, Nat.zero_le _⟩ (fun r36 σ35 H locs hF hP hS => ?_)
    refine lv_istore (lv' := [(5, .int r36), (0, .ref (α.1 1)), (1, .int x1), (2, .int x2), (4, .int x4)]) hx hb dX12_doRow_174 hl (by decide) rfl (fun ls hl => ?_)
    refine lv_iload hx hb dX12_doRow_176 (lv_at hl 0 rfl) ?_
    refine lv_if_lt (tgt := 193) hx hb dX12_doRow_178 (by decide) (fun h37 => ?_) (fun h37 => ?_)
    · replace hF := hF.1 h37
      exact B193 σ35 hF H locs ls hP hS (lv_sub hl [1] rfl)
    · replace hF := hF.2 h37
      refine lv_iload hx hb dX12_doRow_181 (lv_at hl 0 rfl) ?_
      refine lv_aload_n hx hb dX12_doRow_183 rfl (lv_at hl 1 rfl) ?_
      refine va_get (D := D) (ci := 12) (v := .ref (α.1 26)) (C := RX12) (T := TX12) (N := 42) hx hb hts in_X12 hown hK hP 1 (sm_gX12 σ35 α) rfl 9 (by decide) k_3 (fun _ h9 => h9) rfl dX12_doRow_184 ?_
      refine lv_iload hx hb dX12_doRow_187 (lv_at hl 4 rfl) ?_
      obtain ⟨h38, hF⟩ := hF
      refine va_iald (n := (σ35.2.2.1 26)) (f := (σ35.2.2.2.1 26)) hx hb hK hP 26 24 (sm_aM26 σ35 α) (sm_yM26 α) h38 dX12_doRow_189 ?_
      refine lv_icmp_lt (tgt := 199) hx hb dX12_doRow_190 (by decide) (fun h39 => ?_) (fun h39 => ?_)
      · replace hF := hF.1 h39
        refine lv_aload_n hx hb dX12_doRow_199 rfl (lv_at hl 1 rfl) ?_
        refine lv_iload hx hb dX12_doRow_200 (lv_at hl 4 rfl) ?_
        refine lv_iload hx hb dX12_doRow_202 (lv_at hl 0 rfl) ?_
        refine sm_vi (As := [.int x4, .int r36]) (rest := []) hP hK hD hE hS hA ⟨hx, hb, hml, hown, hts⟩ hl.1 (c_X12_itemCell l D H.size t0 σ35 α x4 r36 _ hF) (cwV 2 hts wg_X12_doRow_X12_itemCell_403 rfl rfl rfl (by decide +kernel) ⟨Nat.le_of_ble_eq_true rfl, Nat.le_of_ble_eq_true rfl⟩) (va_recv hK hP (ci := 12) (q0 := 1) rfl (sm_gX12 σ35 α)) rfl rfl (Nat.le_of_ble_eq_true rfl) dX12_doRow_204 ⟨Nat.zero_le _, Nat.zero_le _⟩ (fun r41 σ40 H locs hF hP hS => ?_)
        refine lv_istore (lv' := [(6, .int r41), (5, .int r36), (0, .ref (α.1 1)), (1, .int x1), (2, .int x2), (4, .int x4)]) hx hb dX12_doRow_207 hl (by decide) rfl (fun ls hl => ?_)
        refine lv_aload_n hx hb dX12_doRow_209 rfl (lv_at hl 2 rfl) ?_
        refine va_get (D := D) (ci := 12) (v := .ref (α.1 28)) (C := RX12) (T := TX12) (N := 42) hx hb hts in_X12 hown hK hP 1 (sm_gX12 σ40 α) rfl 11 (by decide) k_4 (fun _ h9 => h9) rfl dX12_doRow_210 ?_
        refine lv_iload hx hb dX12_doRow_213 (lv_at hl 5 rfl) ?_
        obtain ⟨h42, hF⟩ := hF
        refine va_bald (n := (σ40.2.2.1 28)) (f := (σ40.2.2.2.1 28)) hx hb hK hP 28 26 (sm_aM28 σ40 α) (sm_yM28 α) h42 dX12_doRow_215 ?_
        refine lv_if_le (tgt := 223) hx hb dX12_doRow_216 (by decide) (fun h43 => ?_) (fun h43 => ?_)
        · replace hF := hF.1 h43
          refine lv_iconst (v := 0) hx hb dX12_doRow_223 (by decide) ?_
          exact B224 σ40 x1 x2 r36 r41 0 hF H locs ls hP hS (lv_sub hl [2, 3, 4, 1, 0] rfl)
        · replace hF := hF.2 h43
          refine lv_iconst (v := 1) hx hb dX12_doRow_219 (by decide) ?_
          refine lv_goto (tgt := 224) hx hb dX12_doRow_220 (by decide) ?_
          exact B224 σ40 x1 x2 r36 r41 1 hF H locs ls hP hS (lv_sub hl [2, 3, 4, 1, 0] rfl)
      · replace hF := hF.2 h39
        exact B193 σ35 hF H locs ls hP hS (lv_sub hl [1] rfl)
  have B113 : ∀ (σ : sm_S) (x1 : Int32) (x2 : Int32) (y1 : Int32), mp_X12_doRow_113 K σ x1 x2 y1 → sm_J p l e (headSpec wp_X12_doRow { frames := 6, cells := 0, slots := 0, locals := 146 }).room s m ([.ref (α.1 1), .int p1, .int p2, .int p3] : List Value).toArray below meth c (MQ below (va_Qi K (sm_B sm_wM D α) A) ([.ref (α.1 1), .int p1, .int p2, .int p3] : List Value).toArray s 0 0 A) D A 10 (sm_wM σ α) 113 [(0, .ref (α.1 1)), (1, .int x1), (2, .int x2)] [.int y1, .ref (α.1 1)] := by
    intro σ x1 x2 y1 hF H locs ls hP hS hl
    unfold mp_X12_doRow_113 at hF
    refine sm_vi (As := [.int y1]) (rest := []) hP hK hD hE hS hA ⟨hx, hb, hml, hown, hts⟩ hl.1 (c_X12_value l D H.size t0 σ α y1 _ hF) (cwV 1 hts wg_X12_doRow_X12_value_347 rfl rfl rfl (by decide +kernel) ⟨Nat.le_of_ble_eq_true rfl, Nat.le_of_ble_eq_true rfl⟩) (va_recv hK hP (ci := 12) (q0 := 1) rfl (sm_gX12 σ α)) rfl rfl (Nat.le_of_ble_eq_true rfl) dX12_doRow_113 ⟨Nat.zero_le _, Nat.zero_le _⟩ (fun r45 σ44 H locs hF hP hS => ?_)
    refine lv_istore (lv' := [(4, .int r45), (0, .ref (α.1 1)), (1, .int x1), (2, .int x2)]) hx hb dX12_doRow_116 hl (by decide) rfl (fun ls hl => ?_)
    refine lv_iload hx hb dX12_doRow_118 (lv_at hl 0 rfl) ?_
    refine lv_iconst (v := -1) hx hb dX12_doRow_120 (by decide) ?_
    refine lv_icmp_ne (tgt := 130) hx hb dX12_doRow_121 (by decide) (fun h46 => ?_) (fun h46 => ?_)
    · replace hF := hF.1 h46
      refine lv_iload_n hx hb dX12_doRow_130 rfl (lv_at hl 3 rfl) ?_
      refine lv_bipush (v := 32) hx hb dX12_doRow_131 (by decide) ?_
      refine lv_icmp_ne (tgt := 159) hx hb dX12_doRow_133 (by decide) (fun h47 => ?_) (fun h47 => ?_)
      · replace hF := hF.1 h47
        refine lv_aload_n hx hb dX12_doRow_159 rfl (lv_at hl 1 rfl) ?_
        refine lv_iload_n hx hb dX12_doRow_160 rfl (lv_at hl 3 rfl) ?_
        refine lv_bipush (v := 33) hx hb dX12_doRow_161 (by decide) ?_
        refine lv_icmp_ne (tgt := 170) hx hb dX12_doRow_163 (by decide) (fun h48 => ?_) (fun h48 => ?_)
        · replace hF := hF.1 h48
          refine lv_iconst (v := 1) hx hb dX12_doRow_170 (by decide) ?_
          exact B171 σ44 x1 x2 r45 1 hF H locs ls hP hS (lv_sub hl [1, 2, 3, 0] rfl)
        · replace hF := hF.2 h48
          refine lv_iconst (v := 0) hx hb dX12_doRow_166 (by decide) ?_
          refine lv_goto (tgt := 171) hx hb dX12_doRow_167 (by decide) ?_
          exact B171 σ44 x1 x2 r45 0 hF H locs ls hP hS (lv_sub hl [1, 2, 3, 0] rfl)
      · replace hF := hF.2 h47
        refine lv_aload_n hx hb dX12_doRow_136 rfl (lv_at hl 1 rfl) ?_
        refine lv_iconst (v := 1) hx hb dX12_doRow_137 (by decide) ?_
        refine sm_vv (As := [.int 1]) (rest := []) hP hK hD hE hS hA ⟨hx, hb, hml, hown, hts⟩ hl.1 (c_X12_drop l D H.size t0 σ44 α 1 _ hF) (cwV 1 hts wg_X12_doRow_X12_drop_359 rfl rfl rfl (by decide +kernel) ⟨Nat.le_of_ble_eq_true rfl, Nat.le_of_ble_eq_true rfl⟩) (va_recv hK hP (ci := 12) (q0 := 1) rfl (sm_gX12 σ44 α)) rfl rfl (Nat.le_of_ble_eq_true rfl) dX12_doRow_138 ⟨Nat.zero_le _, Nat.zero_le _⟩ (fun σ49 H locs hF hP hS => ?_)
        refine lv_aload_n hx hb dX12_doRow_141 rfl (lv_at hl 1 rfl) ?_
        refine lv_aload_n hx hb dX12_doRow_142 rfl (lv_at hl 1 rfl) ?_
        refine va_get (D := D) (ci := 12) (v := .ref (α.1 26)) (C := RX12) (T := TX12) (N := 42) hx hb hts in_X12 hown hK hP 1 (sm_gX12 σ49 α) rfl 9 (by decide) k_3 (fun _ h9 => h9) rfl dX12_doRow_143 ?_
        refine lv_iload hx hb dX12_doRow_146 (lv_at hl 0 rfl) ?_
        obtain ⟨h50, hF⟩ := hF
        refine va_iald (n := (σ49.2.2.1 26)) (f := (σ49.2.2.2.1 26)) hx hb hK hP 26 24 (sm_aM26 σ49 α) (sm_yM26 α) h50 dX12_doRow_148 ?_
        refine sm_vv (As := [.int ((σ49.2.2.2.1 26) r45.toNatClampNeg)]) (rest := []) hP hK hD hE hS hA ⟨hx, hb, hml, hown, hts⟩ hl.1 (c_X12_putInt l D H.size t0 σ49 α ((σ49.2.2.2.1 26) r45.toNatClampNeg) _ hF) (cwV 1 hts wg_X12_doRow_X12_putInt_366 rfl rfl rfl (by decide +kernel) ⟨Nat.le_of_ble_eq_true rfl, Nat.le_of_ble_eq_true rfl⟩) (va_recv hK hP (ci := 12) (q0 := 1) rfl (sm_gX12 σ49 α)) rfl rfl (Nat.le_of_ble_eq_true rfl) dX12_doRow_149 ⟨Nat.zero_le _, Nat.zero_le _⟩ (fun σ51 H locs hF hP hS => ?_)
        refine lv_aload_n hx hb dX12_doRow_152 rfl (lv_at hl 1 rfl) ?_
        refine lv_iload_n hx hb dX12_doRow_153 rfl (lv_at hl 2 rfl) ?_
        refine sm_vv (As := [.int x1]) (rest := []) hP hK hD hE hS hA ⟨hx, hb, hml, hown, hts⟩ hl.1 (c_X12_onward l D H.size t0 σ51 α x1 _ hF) (cwV 1 hts wg_X12_doRow_X12_onward_356 rfl rfl rfl (by decide +kernel) ⟨Nat.le_of_ble_eq_true rfl, Nat.le_of_ble_eq_true rfl⟩) (va_recv hK hP (ci := 12) (q0 := 1) rfl (sm_gX12 σ51 α)) rfl rfl (Nat.le_of_ble_eq_true rfl) dX12_doRow_154 ⟨Nat.zero_le _, Nat.zero_le _⟩ (fun σ52 H locs hF hP hS => ?_)
        refine lv_iconst (v := 1) hx hb dX12_doRow_157 (by decide) ?_
        exact W.zret (v := 1) hx hb hr sm_z1.1 (fun t ht hW => ⟨⟨1, σ52, rfl, hF, (by unfold sm_B; rw [ht]; exact hP)⟩, hS.F ht⟩) hS.2.2 dX12_doRow_158
    · replace hF := hF.2 h46
      refine lv_aload_n hx hb dX12_doRow_124 rfl (lv_at hl 1 rfl) ?_
      refine lv_iconst (v := 0) hx hb dX12_doRow_125 (by decide) ?_
      refine sm_vi (As := [.int 0]) (rest := []) hP hK hD hE hS hA ⟨hx, hb, hml, hown, hts⟩ hl.1 (c_X12_fault l D H.size t0 σ44 α 0 _ hF) (cwV 1 hts wg_X12_doRow_X12_fault_350 rfl rfl rfl (by decide +kernel) ⟨Nat.le_of_ble_eq_true rfl, Nat.le_of_ble_eq_true rfl⟩) (va_recv hK hP (ci := 12) (q0 := 1) rfl (sm_gX12 σ44 α)) rfl rfl (Nat.le_of_ble_eq_true rfl) dX12_doRow_126 ⟨Nat.zero_le _, Nat.zero_le _⟩ (fun r54 σ53 H locs hF hP hS => ?_)
      obtain ⟨h55, hF⟩ := hF
      exact W.zret (v := r54) hx hb hr h55.1 (fun t ht hW => ⟨⟨r54, σ53, rfl, hF, (by unfold sm_B; rw [ht]; exact hP)⟩, hS.F ht⟩) hS.2.2 dX12_doRow_129
  have B67 : ∀ (σ : sm_S) (x1 : Int32) (x3 : Int32) (y1 : Int32) (y2 : Int32) (y3 : Int32), mp_X12_doRow_67 K σ x1 x3 y1 y2 y3 → sm_J p l e (headSpec wp_X12_doRow { frames := 6, cells := 0, slots := 0, locals := 146 }).room s m ([.ref (α.1 1), .int p1, .int p2, .int p3] : List Value).toArray below meth c (MQ below (va_Qi K (sm_B sm_wM D α) A) ([.ref (α.1 1), .int p1, .int p2, .int p3] : List Value).toArray s 0 0 A) D A 10 (sm_wM σ α) 67 [(0, .ref (α.1 1)), (1, .int x1), (3, .int x3)] [.int y3, .int y2, .int y1, .ref (α.1 1)] := by
    intro σ x1 x3 y1 y2 y3 hF H locs ls hP hS hl
    unfold mp_X12_doRow_67 at hF
    refine lv_iload_n hx hb dX12_doRow_67 rfl (lv_at hl 2 rfl) ?_
    refine sm_vi (As := [.int y1, .int y2, .int y3, .int x3]) (rest := []) hP hK hD hE hS hA ⟨hx, hb, hml, hown, hts⟩ hl.1 (c_X12_thing l D H.size t0 σ α y1 y2 y3 x3 _ hF) (cwV 4 hts wg_X12_doRow_X12_thing_313 rfl rfl rfl (by decide +kernel) ⟨Nat.le_of_ble_eq_true rfl, Nat.le_of_ble_eq_true rfl⟩) (va_recv hK hP (ci := 12) (q0 := 1) rfl (sm_gX12 σ α)) rfl rfl (Nat.le_of_ble_eq_true rfl) dX12_doRow_68 ⟨Nat.zero_le _, Nat.zero_le _⟩ (fun r57 σ56 H locs hF hP hS => ?_)
    refine lv_istore (lv' := [(5, .int r57), (0, .ref (α.1 1)), (1, .int x1), (3, .int x3)]) hx hb dX12_doRow_71 hl (by decide) rfl (fun ls hl => ?_)
    refine lv_aload_n hx hb dX12_doRow_73 rfl (lv_at hl 1 rfl) ?_
    refine lv_iconst (v := 1) hx hb dX12_doRow_74 (by decide) ?_
    refine sm_vv (As := [.int 1]) (rest := []) hP hK hD hE hS hA ⟨hx, hb, hml, hown, hts⟩ hl.1 (c_X12_drop l D H.size t0 σ56 α 1 _ hF) (cwV 1 hts wg_X12_doRow_X12_drop_359 rfl rfl rfl (by decide +kernel) ⟨Nat.le_of_ble_eq_true rfl, Nat.le_of_ble_eq_true rfl⟩) (va_recv hK hP (ci := 12) (q0 := 1) rfl (sm_gX12 σ56 α)) rfl rfl (Nat.le_of_ble_eq_true rfl) dX12_doRow_75 ⟨Nat.zero_le _, Nat.zero_le _⟩ (fun σ58 H locs hF hP hS => ?_)
    refine lv_aload_n hx hb dX12_doRow_78 rfl (lv_at hl 1 rfl) ?_
    refine lv_iload hx hb dX12_doRow_79 (lv_at hl 0 rfl) ?_
    refine sm_vv (As := [.int r57]) (rest := []) hP hK hD hE hS hA ⟨hx, hb, hml, hown, hts⟩ hl.1 (c_X12_putThing l D H.size t0 σ58 α r57 _ hF) (cwV 1 hts wg_X12_doRow_X12_putThing_332 rfl rfl rfl (by decide +kernel) ⟨Nat.le_of_ble_eq_true rfl, Nat.le_of_ble_eq_true rfl⟩) (va_recv hK hP (ci := 12) (q0 := 1) rfl (sm_gX12 σ58 α)) rfl rfl (Nat.le_of_ble_eq_true rfl) dX12_doRow_81 ⟨Nat.zero_le _, Nat.zero_le _⟩ (fun σ59 H locs hF hP hS => ?_)
    refine lv_aload_n hx hb dX12_doRow_84 rfl (lv_at hl 1 rfl) ?_
    refine lv_iload_n hx hb dX12_doRow_85 rfl (lv_at hl 2 rfl) ?_
    refine sm_vv (As := [.int x1]) (rest := []) hP hK hD hE hS hA ⟨hx, hb, hml, hown, hts⟩ hl.1 (c_X12_onward l D H.size t0 σ59 α x1 _ hF) (cwV 1 hts wg_X12_doRow_X12_onward_356 rfl rfl rfl (by decide +kernel) ⟨Nat.le_of_ble_eq_true rfl, Nat.le_of_ble_eq_true rfl⟩) (va_recv hK hP (ci := 12) (q0 := 1) rfl (sm_gX12 σ59 α)) rfl rfl (Nat.le_of_ble_eq_true rfl) dX12_doRow_86 ⟨Nat.zero_le _, Nat.zero_le _⟩ (fun σ60 H locs hF hP hS => ?_)
    refine lv_iconst (v := 1) hx hb dX12_doRow_89 (by decide) ?_
    exact W.zret (v := 1) hx hb hr sm_z1.1 (fun t ht hW => ⟨⟨1, σ60, rfl, hF, (by unfold sm_B; rw [ht]; exact hP)⟩, hS.F ht⟩) hS.2.2 dX12_doRow_90
  have B62 : ∀ (σ : sm_S) (x1 : Int32) (x3 : Int32) (y1 : Int32) (y2 : Int32), mp_X12_doRow_62 K σ x1 x3 y1 y2 → sm_J p l e (headSpec wp_X12_doRow { frames := 6, cells := 0, slots := 0, locals := 146 }).room s m ([.ref (α.1 1), .int p1, .int p2, .int p3] : List Value).toArray below meth c (MQ below (va_Qi K (sm_B sm_wM D α) A) ([.ref (α.1 1), .int p1, .int p2, .int p3] : List Value).toArray s 0 0 A) D A 10 (sm_wM σ α) 62 [(0, .ref (α.1 1)), (1, .int x1), (3, .int x3)] [.int y2, .int y1, .ref (α.1 1)] := by
    intro σ x1 x3 y1 y2 hF H locs ls hP hS hl
    unfold mp_X12_doRow_62 at hF
    refine lv_iconst (v := 1) hx hb dX12_doRow_62 (by decide) ?_
    refine lv_goto (tgt := 67) hx hb dX12_doRow_63 (by decide) ?_
    exact B67 σ x1 x3 y1 y2 1 hF H locs ls hP hS (lv_sub hl [0, 1, 2] rfl)
  have B26 : ∀ (σ : sm_S), mp_X12_doRow_26 K σ → sm_J p l e (headSpec wp_X12_doRow { frames := 6, cells := 0, slots := 0, locals := 146 }).room s m ([.ref (α.1 1), .int p1, .int p2, .int p3] : List Value).toArray below meth c (MQ below (va_Qi K (sm_B sm_wM D α) A) ([.ref (α.1 1), .int p1, .int p2, .int p3] : List Value).toArray s 0 0 A) D A 10 (sm_wM σ α) 26 [(0, .ref (α.1 1))] [] := by
    intro σ hF H locs ls hP hS hl
    unfold mp_X12_doRow_26 at hF
    refine lv_aload_n hx hb dX12_doRow_26 rfl (lv_at hl 0 rfl) ?_
    refine lv_iconst (v := 4) hx hb dX12_doRow_27 (by decide) ?_
    refine sm_vi (As := [.int 4]) (rest := []) hP hK hD hE hS hA ⟨hx, hb, hml, hown, hts⟩ hl.1 (c_X12_fault l D H.size t0 σ α 4 _ hF) (cwV 1 hts wg_X12_doRow_X12_fault_350 rfl rfl rfl (by decide +kernel) ⟨Nat.le_of_ble_eq_true rfl, Nat.le_of_ble_eq_true rfl⟩) (va_recv hK hP (ci := 12) (q0 := 1) rfl (sm_gX12 σ α)) rfl rfl (Nat.le_of_ble_eq_true rfl) dX12_doRow_28 ⟨Nat.zero_le _, Nat.zero_le _⟩ (fun r62 σ61 H locs hF hP hS => ?_)
    obtain ⟨h63, hF⟩ := hF
    exact W.zret (v := r62) hx hb hr h63.1 (fun t ht hW => ⟨⟨r62, σ61, rfl, hF, (by unfold sm_B; rw [ht]; exact hP)⟩, hS.F ht⟩) hS.2.2 dX12_doRow_31
  unfold mp_X12_doRow at hF
  revert hP hS
  generalize hLo : ([] : List Loc) = locs
  suffices h9 : ∀ (H : Heap) (locs : List Loc), va_P D vwCl (sm_wM σ α) H → va_S A s.heap H locs → W p l e (headSpec wp_X12_doRow { frames := 6, cells := 0, slots := 0, locals := 146 }).room s m ([.ref (α.1 1), .int p1, .int p2, .int p3] : List Value).toArray below meth c H locs 0 0 (MQ below (va_Qi K (sm_B sm_wM D α) A) ([.ref (α.1 1), .int p1, .int p2, .int p3] : List Value).toArray s 0 0 A) (F0 m 0 ls []) from fun hP hS => h9 s.heap locs hP hS
  intro H locs hP hS
  refine lv_iload_n hx hb dX12_doRow_0 rfl (lv_at hl 2 rfl) ?_
  refine lv_bipush (v := 31) hx hb dX12_doRow_1 (by decide) ?_
  refine lv_icmp_ne (tgt := 91) hx hb dX12_doRow_3 (by decide) (fun h64 => ?_) (fun h64 => ?_)
  · replace hF := hF.1 h64
    refine lv_aload_n hx hb dX12_doRow_91 rfl (lv_at hl 0 rfl) ?_
    refine lv_iload_n hx hb dX12_doRow_92 rfl (lv_at hl 2 rfl) ?_
    refine lv_bipush (v := 32) hx hb dX12_doRow_93 (by decide) ?_
    refine lv_icmp_ne (tgt := 102) hx hb dX12_doRow_95 (by decide) (fun h65 => ?_) (fun h65 => ?_)
    · replace hF := hF.1 h65
      refine lv_iload_n hx hb dX12_doRow_102 rfl (lv_at hl 2 rfl) ?_
      refine lv_bipush (v := 33) hx hb dX12_doRow_103 (by decide) ?_
      refine lv_icmp_ne (tgt := 112) hx hb dX12_doRow_105 (by decide) (fun h66 => ?_) (fun h66 => ?_)
      · replace hF := hF.1 h66
        refine lv_iconst (v := 2) hx hb dX12_doRow_112 (by decide) ?_
        exact B113 σ p1 p2 2 hF H locs ls hP hS (lv_sub hl [0, 1, 2] rfl)
      · replace hF := hF.2 h66
        refine lv_iconst (v := 1) hx hb dX12_doRow_108 (by decide) ?_
        refine lv_goto (tgt := 113) hx hb dX12_doRow_109 (by decide) ?_
        exact B113 σ p1 p2 1 hF H locs ls hP hS (lv_sub hl [0, 1, 2] rfl)
    · replace hF := hF.2 h65
      refine lv_iconst (v := 0) hx hb dX12_doRow_98 (by decide) ?_
      refine lv_goto (tgt := 113) hx hb dX12_doRow_99 (by decide) ?_
      exact B113 σ p1 p2 0 hF H locs ls hP hS (lv_sub hl [0, 1, 2] rfl)
  · replace hF := hF.2 h64
    refine lv_aload_n hx hb dX12_doRow_6 rfl (lv_at hl 0 rfl) ?_
    refine lv_iconst (v := 0) hx hb dX12_doRow_7 (by decide) ?_
    refine sm_vi (As := [.int 0]) (rest := []) hP hK hD hE hS hA ⟨hx, hb, hml, hown, hts⟩ hl.1 (c_X12_value l D H.size t0 σ α 0 _ hF) (cwV 1 hts wg_X12_doRow_X12_value_347 rfl rfl rfl (by decide +kernel) ⟨Nat.le_of_ble_eq_true rfl, Nat.le_of_ble_eq_true rfl⟩) (va_recv hK hP (ci := 12) (q0 := 1) rfl (sm_gX12 σ α)) rfl rfl (Nat.le_of_ble_eq_true rfl) dX12_doRow_8 ⟨Nat.zero_le _, Nat.zero_le _⟩ (fun r68 σ67 H locs hF hP hS => ?_)
    refine lv_istore (lv' := [(4, .int r68), (0, .ref (α.1 1)), (1, .int p1), (2, .int p2), (3, .int p3)]) hx hb dX12_doRow_11 hl (by decide) rfl (fun ls hl => ?_)
    refine lv_iload hx hb dX12_doRow_13 (lv_at hl 0 rfl) ?_
    refine lv_if_lt (tgt := 26) hx hb dX12_doRow_15 (by decide) (fun h69 => ?_) (fun h69 => ?_)
    · replace hF := hF.1 h69
      exact B26 σ67 hF H locs ls hP hS (lv_sub hl [1] rfl)
    · replace hF := hF.2 h69
      refine lv_iload hx hb dX12_doRow_18 (lv_at hl 0 rfl) ?_
      refine lv_sipush (v := 3375) hx hb dX12_doRow_20 (by decide) ?_
      refine lv_icmp_le (tgt := 32) hx hb dX12_doRow_23 (by decide) (fun h70 => ?_) (fun h70 => ?_)
      · replace hF := hF.1 h70
        refine lv_aload_n hx hb dX12_doRow_32 rfl (lv_at hl 1 rfl) ?_
        refine lv_bipush (v := 16) hx hb dX12_doRow_33 (by decide) ?_
        refine sm_vi (As := [.int 16]) (rest := []) hP hK hD hE hS hA ⟨hx, hb, hml, hown, hts⟩ hl.1 (c_X12_make l D H.size t0 σ67 α 16 _ hF) (cwV 1 hts wg_X12_doRow_X12_make_274 rfl rfl rfl (by decide +kernel) ⟨Nat.le_of_ble_eq_true rfl, Nat.le_of_ble_eq_true rfl⟩) (va_recv hK hP (ci := 12) (q0 := 1) rfl (sm_gX12 σ67 α)) rfl rfl (Nat.le_of_ble_eq_true rfl) dX12_doRow_35 ⟨Nat.zero_le _, Nat.zero_le _⟩ (fun r72 σ71 H locs hF hP hS => ?_)
        refine lv_if_ne (tgt := 46) hx hb dX12_doRow_38 (by decide) (fun h73 => ?_) (fun h73 => ?_)
        · replace hF := hF.1 h73
          refine lv_aload_n hx hb dX12_doRow_46 rfl (lv_at hl 1 rfl) ?_
          refine lv_iconst (v := 1) hx hb dX12_doRow_47 (by decide) ?_
          refine lv_iload hx hb dX12_doRow_48 (lv_at hl 0 rfl) ?_
          refine lv_iload_n hx hb dX12_doRow_50 rfl (lv_at hl 4 rfl) ?_
          refine lv_if_gt (tgt := 62) hx hb dX12_doRow_51 (by decide) (fun h74 => ?_) (fun h74 => ?_)
          · replace hF := hF.1 h74
            exact B62 σ71 p1 p3 1 r68 hF H locs ls hP hS (lv_sub hl [1, 2, 4] rfl)
          · replace hF := hF.2 h74
            refine lv_iload hx hb dX12_doRow_54 (lv_at hl 0 rfl) ?_
            refine sm_si (As := [.int r68]) (rest := [.int r68, .int 1, .ref (α.1 1)]) hP hK hD hE hS hA ⟨hx, hb, hml, hown, hts⟩ hl.1 (c_X12_deep l D H.size t0 σ71 α r68 _ hF) (va_cwS 1 hts wg_X12_doRow_X12_deep_391 rfl rfl rfl (by decide +kernel) ⟨Nat.le_of_ble_eq_true rfl, Nat.le_of_ble_eq_true rfl⟩) rfl rfl (Nat.le_of_ble_eq_true rfl) dX12_doRow_56 ⟨Nat.zero_le _, Nat.zero_le _⟩ (fun r76 σ75 H locs hF hP hS => ?_)
            refine lv_if_le (tgt := 66) hx hb dX12_doRow_59 (by decide) (fun h77 => ?_) (fun h77 => ?_)
            · replace hF := hF.1 h77
              refine lv_iconst (v := 0) hx hb dX12_doRow_66 (by decide) ?_
              exact B67 σ75 p1 p3 1 r68 0 hF H locs ls hP hS (lv_sub hl [1, 2, 4] rfl)
            · replace hF := hF.2 h77
              exact B62 σ75 p1 p3 1 r68 hF H locs ls hP hS (lv_sub hl [1, 2, 4] rfl)
        · replace hF := hF.2 h73
          refine lv_aload_n hx hb dX12_doRow_41 rfl (lv_at hl 1 rfl) ?_
          refine sm_vi (As := []) (rest := []) hP hK hD hE hS hA ⟨hx, hb, hml, hown, hts⟩ hl.1 (c_X12_noRoom l D H.size t0 σ71 α _ hF) (cwV 0 hts wg_X12_doRow_X12_noRoom_326 rfl rfl rfl (by decide +kernel) ⟨Nat.le_of_ble_eq_true rfl, Nat.le_of_ble_eq_true rfl⟩) (va_recv hK hP (ci := 12) (q0 := 1) rfl (sm_gX12 σ71 α)) rfl rfl (Nat.le_of_ble_eq_true rfl) dX12_doRow_42 ⟨Nat.zero_le _, Nat.zero_le _⟩ (fun r79 σ78 H locs hF hP hS => ?_)
          obtain ⟨h80, hF⟩ := hF
          exact W.zret (v := r79) hx hb hr h80.1 (fun t ht hW => ⟨⟨r79, σ78, rfl, hF, (by unfold sm_B; rw [ht]; exact hP)⟩, hS.F ht⟩) hS.2.2 dX12_doRow_45
      · replace hF := hF.2 h70
        exact B26 σ67 hF H locs ls hP hS (lv_sub hl [1] rfl)
theorem dX12_getField_0 : decode cX12_getField 0 = .ok (.aload_n 0, 1) := by decide +kernel
theorem dX12_getField_1 : decode cX12_getField 1 = .ok (.getfield 199, 3) := by decide +kernel
theorem dX12_getField_4 : decode cX12_getField 4 = .ok (.aload_n 0, 1) := by decide +kernel
theorem dX12_getField_5 : decode cX12_getField 5 = .ok (.getfield 192, 3) := by decide +kernel
theorem dX12_getField_8 : decode cX12_getField 8 = .ok (.aload_n 0, 1) := by decide +kernel
theorem dX12_getField_9 : decode cX12_getField 9 = .ok (.iconst 0, 1) := by decide +kernel
theorem dX12_getField_10 : decode cX12_getField 10 = .ok (.invokevirtual 347, 3) := by decide +kernel
theorem dX12_getField_13 : decode cX12_getField 13 = .ok (.iaload, 1) := by decide +kernel
theorem dX12_getField_14 : decode cX12_getField 14 = .ok (.iload_n 2, 1) := by decide +kernel
theorem dX12_getField_15 : decode cX12_getField 15 = .ok (.iadd, 1) := by decide +kernel
theorem dX12_getField_16 : decode cX12_getField 16 = .ok (.iaload, 1) := by decide +kernel
theorem dX12_getField_17 : decode cX12_getField 17 = .ok (.istore_n 3, 1) := by decide +kernel
theorem dX12_getField_18 : decode cX12_getField 18 = .ok (.aload_n 0, 1) := by decide +kernel
theorem dX12_getField_19 : decode cX12_getField 19 = .ok (.iconst 1, 1) := by decide +kernel
theorem dX12_getField_20 : decode cX12_getField 20 = .ok (.invokevirtual 359, 3) := by decide +kernel
theorem dX12_getField_23 : decode cX12_getField 23 = .ok (.aload_n 0, 1) := by decide +kernel
theorem dX12_getField_24 : decode cX12_getField 24 = .ok (.getfield 10, 3) := by decide +kernel
theorem dX12_getField_27 : decode cX12_getField 27 = .ok (.getfield 99, 3) := by decide +kernel
theorem dX12_getField_30 : decode cX12_getField 30 = .ok (.bipush 15, 2) := by decide +kernel
theorem dX12_getField_32 : decode cX12_getField 32 = .ok (.iload_n 1, 1) := by decide +kernel
theorem dX12_getField_33 : decode cX12_getField 33 = .ok (.imul, 1) := by decide +kernel
theorem dX12_getField_34 : decode cX12_getField 34 = .ok (.iload_n 2, 1) := by decide +kernel
theorem dX12_getField_35 : decode cX12_getField 35 = .ok (.iadd, 1) := by decide +kernel
theorem dX12_getField_36 : decode cX12_getField 36 = .ok (.iaload, 1) := by decide +kernel
theorem dX12_getField_37 : decode cX12_getField 37 = .ok (.ifCond .le 11, 3) := by decide +kernel
theorem dX12_getField_40 : decode cX12_getField 40 = .ok (.aload_n 0, 1) := by decide +kernel
theorem dX12_getField_41 : decode cX12_getField 41 = .ok (.iload_n 3, 1) := by decide +kernel
theorem dX12_getField_42 : decode cX12_getField 42 = .ok (.invokevirtual 332, 3) := by decide +kernel
theorem dX12_getField_45 : decode cX12_getField 45 = .ok (.goto 8, 3) := by decide +kernel
theorem dX12_getField_48 : decode cX12_getField 48 = .ok (.aload_n 0, 1) := by decide +kernel
theorem dX12_getField_49 : decode cX12_getField 49 = .ok (.iload_n 3, 1) := by decide +kernel
theorem dX12_getField_50 : decode cX12_getField 50 = .ok (.invokevirtual 366, 3) := by decide +kernel
theorem dX12_getField_53 : decode cX12_getField 53 = .ok (.return_, 1) := by decide +kernel
def wp_X12_getField : List Cond := .code yX12_getField cX12_getField 4 none :: (((((([.fieldLink RX12 199 "SteadyMachineModel" "cells" "[I", .fieldLink RX12 192 "SteadyMachineModel" "begins" "[I", .fieldLink RX12 10 "SteadyMachineModel" "image" "LSteadyMachineModel$Image;"] ++ (wsV RX12 347 RX12 yX12_value wp_X12_value)) ++ (wsV RX12 359 RX12 yX12_drop wp_X12_drop)) ++ (wsV RX12 366 RX12 yX12_putInt wp_X12_putInt)) ++ (wsV RX12 332 RX12 yX12_putThing wp_X12_putThing)) ++ wsX110) ++ wsX120)
theorem wq_X12_getField : wp_X12_getField.all goodWord = true := wa_c rfl (wa_a (wa_a (wa_a (wa_a (wa_a (wa_a (by decide +kernel) (wa_V wq_X12_value)) (wa_V wq_X12_drop)) (wa_V wq_X12_putInt)) (wa_V wq_X12_putThing)) uq_X11) uq_X12)
theorem wt_X12_getField : GoodIn lw_tbl wp_X12_getField := wm_c (List.mem_of_getElem? (i := 1732) (by decide +kernel)) rfl (wm_a (wm_a (wm_a (wm_a (wm_a (wm_a (goodIn_r _ [1506, 1502, 1490] (by decide +kernel) (by decide +kernel)) (wm_a (goodIn_r _ [1690, 1692, 116, 147] (by decide +kernel) (by decide +kernel)) wt_X12_value)) (wm_a (goodIn_r _ [1697, 1699, 117, 147] (by decide +kernel) (by decide +kernel)) wt_X12_drop)) (wm_a (goodIn_r _ [1733, 1735, 126, 147] (by decide +kernel) (by decide +kernel)) wt_X12_putInt)) (wm_a (goodIn_r _ [1674, 1676, 112, 147] (by decide +kernel) (by decide +kernel)) wt_X12_putThing)) ut_X11) ut_X12)
theorem wg_X12_getField_X12_value_347 : GoodIn wp_X12_getField (wsV RX12 347 RX12 yX12_value wp_X12_value) := goodIn_sub (fun w h => List.mem_cons_of_mem _ (List.mem_append_left _ (List.mem_append_left _ (List.mem_append_left _ (List.mem_append_left _ (List.mem_append_left _ (List.mem_append_right _ h))))))) (wa_V wq_X12_value)
theorem wg_X12_getField_X12_drop_359 : GoodIn wp_X12_getField (wsV RX12 359 RX12 yX12_drop wp_X12_drop) := goodIn_sub (fun w h => List.mem_cons_of_mem _ (List.mem_append_left _ (List.mem_append_left _ (List.mem_append_left _ (List.mem_append_left _ (List.mem_append_right _ h)))))) (wa_V wq_X12_drop)
theorem wg_X12_getField_X12_putInt_366 : GoodIn wp_X12_getField (wsV RX12 366 RX12 yX12_putInt wp_X12_putInt) := goodIn_sub (fun w h => List.mem_cons_of_mem _ (List.mem_append_left _ (List.mem_append_left _ (List.mem_append_left _ (List.mem_append_right _ h))))) (wa_V wq_X12_putInt)
theorem wg_X12_getField_X12_putThing_332 : GoodIn wp_X12_getField (wsV RX12 332 RX12 yX12_putThing wp_X12_putThing) := goodIn_sub (fun w h => List.mem_cons_of_mem _ (List.mem_append_left _ (List.mem_append_left _ (List.mem_append_right _ h)))) (wa_V wq_X12_putThing)
theorem wi_X12_getField_X11 : ∀ w ∈ wsX110, w ∈ wp_X12_getField := fun w h => List.mem_cons_of_mem _ (List.mem_append_left _ (List.mem_append_right _ h))
theorem wi_X12_getField_X12 : ∀ w ∈ wsX120, w ∈ wp_X12_getField := fun w h => List.mem_cons_of_mem _ (List.mem_append_right _ h)
set_option maxHeartbeats 4000000 in
set_option maxRecDepth 100000 in
theorem c_X12_getField (l : Launch) (D : va_G) (sz t0 : Nat) (σ : sm_S) (α : sm_A) (p1 : Int32) (p2 : Int32) (K : sm_S → Prop) (hF : mp_X12_getField σ p1 p2 K) : Met l yX12_getField wp_X12_getField { frames := 3, cells := 0, slots := 0, locals := 62 } (sm_P sm_wM sm_tM 40 D sz t0 σ α [.ref (α.1 1), .int p1, .int p2]) (va_Qv K (sm_B sm_wM D α) (sm_a α 40 sz)) 0 0 (sm_a α 40 sz) := by
  refine Met.ofW (cc := cX12_getField) (maxL := 4) (ret := none) (by decide) rfl ?_
  intro p e s m args below meth c s₁ B hml hv
  obtain ⟨rfl, hsz, hP, hK, hD0, hE⟩ := hv
  have hx := B.exec
  have hb := B.bytes
  have hr := B.returns
  have hts := atoms_spec (ws := wp_X12_getField) B.pre
  have hown : s.vm.findClass RX12 = some m.cls := findClass_of_methodNamed B.named
  have hlocks := B.notSynchronized
  subst hsz
  have hD : sm_D (sm_a α 40 s.heap.size) α 40 := hD0.own
  have hA : ∀ q : Nat, s.heap.size ≤ q → sm_a α 40 s.heap.size q := fun q h => Or.inr h
  generalize hAe : sm_a α 40 s.heap.size = A at hD hA hE ⊢
  have hS : va_S A s.heap s.heap [] := va_S.rf
  have in_X11 : ∀ w ∈ wsX110, w ∈ wp_X12_getField := wi_X12_getField_X11
  have in_X12 : ∀ w ∈ wsX120, w ∈ wp_X12_getField := wi_X12_getField_X12
  have k_0 := hts (.fieldLink RX12 199 "SteadyMachineModel" "cells" "[I") (by decide +kernel)
  have k_1 := hts (.fieldLink RX12 192 "SteadyMachineModel" "begins" "[I") (by decide +kernel)
  have k_2 := hts (.fieldLink RX12 10 "SteadyMachineModel" "image" "LSteadyMachineModel$Image;") (by decide +kernel)
  have hl := lv_entry ([.ref (α.1 1), .int p1, .int p2]) (n := 4) (Nat.le_of_ble_eq_true rfl)
  rw [lg_entry_eq]
  generalize (lg_sl ([.ref (α.1 1), .int p1, .int p2]) ++ List.replicate (4 - (lg_sl ([.ref (α.1 1), .int p1, .int p2])).length) Slot.unset).toArray = ls at hl ⊢
  have hl : lv_has ls 4 [(0, .ref (α.1 1)), (1, .int p1), (2, .int p2)] := hl
  have B53 : ∀ (σ : sm_S), mp_X12_getField_53 K σ → sm_J p l e (headSpec wp_X12_getField { frames := 3, cells := 0, slots := 0, locals := 62 }).room s m ([.ref (α.1 1), .int p1, .int p2] : List Value).toArray below meth c (MQ below (va_Qv K (sm_B sm_wM D α) A) ([.ref (α.1 1), .int p1, .int p2] : List Value).toArray s 0 0 A) D A 4 (sm_wM σ α) 53 [] [] := by
    intro σ hF H locs ls hP hS hl
    unfold mp_X12_getField_53 at hF
    exact W.vret hx hb hr (fun t ht hW => ⟨⟨σ, rfl, hF, (by unfold sm_B; rw [ht]; exact hP)⟩, hS.F ht⟩) hS.2.2 dX12_getField_53
  unfold mp_X12_getField at hF
  revert hP hS
  generalize hLo : ([] : List Loc) = locs
  suffices h9 : ∀ (H : Heap) (locs : List Loc), va_P D vwCl (sm_wM σ α) H → va_S A s.heap H locs → W p l e (headSpec wp_X12_getField { frames := 3, cells := 0, slots := 0, locals := 62 }).room s m ([.ref (α.1 1), .int p1, .int p2] : List Value).toArray below meth c H locs 0 0 (MQ below (va_Qv K (sm_B sm_wM D α) A) ([.ref (α.1 1), .int p1, .int p2] : List Value).toArray s 0 0 A) (F0 m 0 ls []) from fun hP hS => h9 s.heap locs hP hS
  intro H locs hP hS
  refine lv_aload_n hx hb dX12_getField_0 rfl (lv_at hl 0 rfl) ?_
  refine va_get (D := D) (ci := 12) (v := .ref (α.1 31)) (C := RX12) (T := TX12) (N := 42) hx hb hts in_X12 hown hK hP 1 (sm_gX12 σ α) rfl 16 (by decide) k_0 (fun _ h9 => h9) rfl dX12_getField_1 ?_
  refine lv_aload_n hx hb dX12_getField_4 rfl (lv_at hl 0 rfl) ?_
  refine va_get (D := D) (ci := 12) (v := .ref (α.1 29)) (C := RX12) (T := TX12) (N := 42) hx hb hts in_X12 hown hK hP 1 (sm_gX12 σ α) rfl 12 (by decide) k_1 (fun _ h9 => h9) rfl dX12_getField_5 ?_
  refine lv_aload_n hx hb dX12_getField_8 rfl (lv_at hl 0 rfl) ?_
  refine lv_iconst (v := 0) hx hb dX12_getField_9 (by decide) ?_
  refine sm_vi (As := [.int 0]) (rest := [.ref (α.1 29), .ref (α.1 31)]) hP hK hD hE hS hA ⟨hx, hb, hml, hown, hts⟩ hl.1 (c_X12_value l D H.size t0 σ α 0 _ hF) (cwV 1 hts wg_X12_getField_X12_value_347 rfl rfl rfl (by decide +kernel) ⟨Nat.le_of_ble_eq_true rfl, Nat.le_of_ble_eq_true rfl⟩) (va_recv hK hP (ci := 12) (q0 := 1) rfl (sm_gX12 σ α)) rfl rfl (Nat.le_of_ble_eq_true rfl) dX12_getField_10 ⟨Nat.zero_le _, Nat.zero_le _⟩ (fun r2 σ1 H locs hF hP hS => ?_)
  obtain ⟨h3, hF⟩ := hF
  refine va_iald (n := (σ1.2.2.1 29)) (f := (σ1.2.2.2.1 29)) hx hb hK hP 29 27 (sm_aM29 σ1 α) (sm_yM29 α) h3 dX12_getField_13 ?_
  refine lv_iload_n hx hb dX12_getField_14 rfl (lv_at hl 2 rfl) ?_
  refine lv_iadd hx hb dX12_getField_15 ?_
  obtain ⟨h4, hF⟩ := hF
  refine va_iald (n := (σ1.2.2.1 31)) (f := (σ1.2.2.2.1 31)) hx hb hK hP 31 29 (sm_aM31 σ1 α) (sm_yM31 α) h4 dX12_getField_16 ?_
  refine lv_topi (fun v5 ev5 => ?_)
  replace hF := hF v5 ev5
  refine lv_istore_n (lv' := [(3, .int v5), (0, .ref (α.1 1)), (1, .int p1), (2, .int p2)]) hx hb dX12_getField_17 rfl hl (by decide) rfl (fun ls hl => ?_)
  refine lv_aload_n hx hb dX12_getField_18 rfl (lv_at hl 1 rfl) ?_
  refine lv_iconst (v := 1) hx hb dX12_getField_19 (by decide) ?_
  refine sm_vv (As := [.int 1]) (rest := []) hP hK hD hE hS hA ⟨hx, hb, hml, hown, hts⟩ hl.1 (c_X12_drop l D H.size t0 σ1 α 1 _ hF) (cwV 1 hts wg_X12_getField_X12_drop_359 rfl rfl rfl (by decide +kernel) ⟨Nat.le_of_ble_eq_true rfl, Nat.le_of_ble_eq_true rfl⟩) (va_recv hK hP (ci := 12) (q0 := 1) rfl (sm_gX12 σ1 α)) rfl rfl (Nat.le_of_ble_eq_true rfl) dX12_getField_20 ⟨Nat.zero_le _, Nat.zero_le _⟩ (fun σ6 H locs hF hP hS => ?_)
  refine lv_aload_n hx hb dX12_getField_23 rfl (lv_at hl 1 rfl) ?_
  refine va_get (D := D) (ci := 12) (v := .ref (α.1 0)) (C := RX12) (T := TX12) (N := 42) hx hb hts in_X12 hown hK hP 1 (sm_gX12 σ6 α) rfl 0 (by decide) k_2 (fun _ h9 => h9) rfl dX12_getField_24 ?_
  refine va_getN (D := D) (ci := 11) (v := .ref (α.1 7)) (C := RX11) (T := TX11) (N := 28) hx hb hts in_X11 hown hK hP 0 (sm_gX11 σ6 α) rfl 11 (by decide) (va_Nw.use rfl (hE.1 (.fieldLinkNest "SteadyMachineModel" 99 "SteadyMachineModel$Image" "fieldTypes" "[I" "SteadyMachineModel") (by decide +kernel))) (fun _ h9 => h9) rfl dX12_getField_27 ?_
  refine lv_bipush (v := 15) hx hb dX12_getField_30 (by decide) ?_
  refine lv_iload_n hx hb dX12_getField_32 rfl (lv_at hl 2 rfl) ?_
  refine lv_imul hx hb dX12_getField_33 ?_
  refine lv_iload_n hx hb dX12_getField_34 rfl (lv_at hl 3 rfl) ?_
  refine lv_iadd hx hb dX12_getField_35 ?_
  obtain ⟨h7, hF⟩ := hF
  refine va_iald (n := (σ6.2.2.1 7)) (f := (σ6.2.2.2.1 7)) hx hb hK hP 7 5 (sm_aM7 σ6 α) (sm_yM7 α) h7 dX12_getField_36 ?_
  refine lv_if_le (tgt := 48) hx hb dX12_getField_37 (by decide) (fun h8 => ?_) (fun h8 => ?_)
  · replace hF := hF.1 h8
    refine lv_aload_n hx hb dX12_getField_48 rfl (lv_at hl 1 rfl) ?_
    refine lv_iload_n hx hb dX12_getField_49 rfl (lv_at hl 0 rfl) ?_
    refine sm_vv (As := [.int v5]) (rest := []) hP hK hD hE hS hA ⟨hx, hb, hml, hown, hts⟩ hl.1 (c_X12_putInt l D H.size t0 σ6 α v5 _ hF) (cwV 1 hts wg_X12_getField_X12_putInt_366 rfl rfl rfl (by decide +kernel) ⟨Nat.le_of_ble_eq_true rfl, Nat.le_of_ble_eq_true rfl⟩) (va_recv hK hP (ci := 12) (q0 := 1) rfl (sm_gX12 σ6 α)) rfl rfl (Nat.le_of_ble_eq_true rfl) dX12_getField_50 ⟨Nat.zero_le _, Nat.zero_le _⟩ (fun σ9 H locs hF hP hS => ?_)
    exact B53 σ9 hF H locs ls hP hS (lv_sub hl [] rfl)
  · replace hF := hF.2 h8
    refine lv_aload_n hx hb dX12_getField_40 rfl (lv_at hl 1 rfl) ?_
    refine lv_iload_n hx hb dX12_getField_41 rfl (lv_at hl 0 rfl) ?_
    refine sm_vv (As := [.int v5]) (rest := []) hP hK hD hE hS hA ⟨hx, hb, hml, hown, hts⟩ hl.1 (c_X12_putThing l D H.size t0 σ6 α v5 _ hF) (cwV 1 hts wg_X12_getField_X12_putThing_332 rfl rfl rfl (by decide +kernel) ⟨Nat.le_of_ble_eq_true rfl, Nat.le_of_ble_eq_true rfl⟩) (va_recv hK hP (ci := 12) (q0 := 1) rfl (sm_gX12 σ6 α)) rfl rfl (Nat.le_of_ble_eq_true rfl) dX12_getField_42 ⟨Nat.zero_le _, Nat.zero_le _⟩ (fun σ10 H locs hF hP hS => ?_)
    refine lv_goto (tgt := 53) hx hb dX12_getField_45 (by decide) ?_
    exact B53 σ10 hF H locs ls hP hS (lv_sub hl [] rfl)
theorem dX12_give_0 : decode cX12_give 0 = .ok (.iload_n 1, 1) := by decide +kernel
theorem dX12_give_1 : decode cX12_give 1 = .ok (.ifCond .eq 11, 3) := by decide +kernel
theorem dX12_give_4 : decode cX12_give 4 = .ok (.aload_n 0, 1) := by decide +kernel
theorem dX12_give_5 : decode cX12_give 5 = .ok (.iconst 0, 1) := by decide +kernel
theorem dX12_give_6 : decode cX12_give 6 = .ok (.invokevirtual 347, 3) := by decide +kernel
theorem dX12_give_9 : decode cX12_give 9 = .ok (.goto 4, 3) := by decide +kernel
theorem dX12_give_12 : decode cX12_give 12 = .ok (.iconst 0, 1) := by decide +kernel
theorem dX12_give_13 : decode cX12_give 13 = .ok (.istore_n 2, 1) := by decide +kernel
theorem dX12_give_14 : decode cX12_give 14 = .ok (.iload_n 1, 1) := by decide +kernel
theorem dX12_give_15 : decode cX12_give 15 = .ok (.ifCond .eq 20, 3) := by decide +kernel
theorem dX12_give_18 : decode cX12_give 18 = .ok (.aload_n 0, 1) := by decide +kernel
theorem dX12_give_19 : decode cX12_give 19 = .ok (.getfield 218, 3) := by decide +kernel
theorem dX12_give_22 : decode cX12_give 22 = .ok (.aload_n 0, 1) := by decide +kernel
theorem dX12_give_23 : decode cX12_give 23 = .ok (.iconst 0, 1) := by decide +kernel
theorem dX12_give_24 : decode cX12_give 24 = .ok (.invokevirtual 320, 3) := by decide +kernel
theorem dX12_give_27 : decode cX12_give 27 = .ok (.baload, 1) := by decide +kernel
theorem dX12_give_28 : decode cX12_give 28 = .ok (.ifCond .eq 7, 3) := by decide +kernel
theorem dX12_give_31 : decode cX12_give 31 = .ok (.iconst 1, 1) := by decide +kernel
theorem dX12_give_32 : decode cX12_give 32 = .ok (.goto 4, 3) := by decide +kernel
theorem dX12_give_35 : decode cX12_give 35 = .ok (.iconst 0, 1) := by decide +kernel
theorem dX12_give_36 : decode cX12_give 36 = .ok (.istore_n 3, 1) := by decide +kernel
theorem dX12_give_37 : decode cX12_give 37 = .ok (.aload_n 0, 1) := by decide +kernel
theorem dX12_give_38 : decode cX12_give 38 = .ok (.invokevirtual 335, 3) := by decide +kernel
theorem dX12_give_41 : decode cX12_give 41 = .ok (.aload_n 0, 1) := by decide +kernel
theorem dX12_give_42 : decode cX12_give 42 = .ok (.getfield 256, 3) := by decide +kernel
theorem dX12_give_45 : decode cX12_give 45 = .ok (.ifCond .ne 9, 3) := by decide +kernel
theorem dX12_give_48 : decode cX12_give 48 = .ok (.aload_n 0, 1) := by decide +kernel
theorem dX12_give_49 : decode cX12_give 49 = .ok (.iconst 2, 1) := by decide +kernel
theorem dX12_give_50 : decode cX12_give 50 = .ok (.putfield 152, 3) := by decide +kernel
theorem dX12_give_53 : decode cX12_give 53 = .ok (.return_, 1) := by decide +kernel
theorem dX12_give_54 : decode cX12_give 54 = .ok (.iload_n 1, 1) := by decide +kernel
theorem dX12_give_55 : decode cX12_give 55 = .ok (.ifCond .eq 40, 3) := by decide +kernel
theorem dX12_give_58 : decode cX12_give 58 = .ok (.aload_n 0, 1) := by decide +kernel
theorem dX12_give_59 : decode cX12_give 59 = .ok (.getfield 211, 3) := by decide +kernel
theorem dX12_give_62 : decode cX12_give 62 = .ok (.aload_n 0, 1) := by decide +kernel
theorem dX12_give_63 : decode cX12_give 63 = .ok (.getfield 256, 3) := by decide +kernel
theorem dX12_give_66 : decode cX12_give 66 = .ok (.iconst 1, 1) := by decide +kernel
theorem dX12_give_67 : decode cX12_give 67 = .ok (.isub, 1) := by decide +kernel
theorem dX12_give_68 : decode cX12_give 68 = .ok (.dup2, 1) := by decide +kernel
theorem dX12_give_69 : decode cX12_give 69 = .ok (.iaload, 1) := by decide +kernel
theorem dX12_give_70 : decode cX12_give 70 = .ok (.iconst 1, 1) := by decide +kernel
theorem dX12_give_71 : decode cX12_give 71 = .ok (.iadd, 1) := by decide +kernel
theorem dX12_give_72 : decode cX12_give 72 = .ok (.iastore, 1) := by decide +kernel
theorem dX12_give_73 : decode cX12_give 73 = .ok (.aload_n 0, 1) := by decide +kernel
theorem dX12_give_74 : decode cX12_give 74 = .ok (.getfield 215, 3) := by decide +kernel
theorem dX12_give_77 : decode cX12_give 77 = .ok (.aload_n 0, 1) := by decide +kernel
theorem dX12_give_78 : decode cX12_give 78 = .ok (.iconst 0, 1) := by decide +kernel
theorem dX12_give_79 : decode cX12_give 79 = .ok (.invokevirtual 320, 3) := by decide +kernel
theorem dX12_give_82 : decode cX12_give 82 = .ok (.iload_n 2, 1) := by decide +kernel
theorem dX12_give_83 : decode cX12_give 83 = .ok (.iastore, 1) := by decide +kernel
theorem dX12_give_84 : decode cX12_give 84 = .ok (.aload_n 0, 1) := by decide +kernel
theorem dX12_give_85 : decode cX12_give 85 = .ok (.getfield 218, 3) := by decide +kernel
theorem dX12_give_88 : decode cX12_give 88 = .ok (.aload_n 0, 1) := by decide +kernel
theorem dX12_give_89 : decode cX12_give 89 = .ok (.iconst 0, 1) := by decide +kernel
theorem dX12_give_90 : decode cX12_give 90 = .ok (.invokevirtual 320, 3) := by decide +kernel
theorem dX12_give_93 : decode cX12_give 93 = .ok (.iload_n 3, 1) := by decide +kernel
theorem dX12_give_94 : decode cX12_give 94 = .ok (.bastore, 1) := by decide +kernel
theorem dX12_give_95 : decode cX12_give 95 = .ok (.aload_n 0, 1) := by decide +kernel
theorem dX12_give_96 : decode cX12_give 96 = .ok (.aload_n 0, 1) := by decide +kernel
theorem dX12_give_97 : decode cX12_give 97 = .ok (.getfield 10, 3) := by decide +kernel
theorem dX12_give_100 : decode cX12_give 100 = .ok (.getfield 30, 3) := by decide +kernel
theorem dX12_give_103 : decode cX12_give 103 = .ok (.aload_n 0, 1) := by decide +kernel
theorem dX12_give_104 : decode cX12_give 104 = .ok (.invokevirtual 317, 3) := by decide +kernel
theorem dX12_give_107 : decode cX12_give 107 = .ok (.iaload, 1) := by decide +kernel
theorem dX12_give_108 : decode cX12_give 108 = .ok (.aload_n 0, 1) := by decide +kernel
theorem dX12_give_109 : decode cX12_give 109 = .ok (.getfield 208, 3) := by decide +kernel
theorem dX12_give_112 : decode cX12_give 112 = .ok (.aload_n 0, 1) := by decide +kernel
theorem dX12_give_113 : decode cX12_give 113 = .ok (.getfield 256, 3) := by decide +kernel
theorem dX12_give_116 : decode cX12_give 116 = .ok (.iconst 1, 1) := by decide +kernel
theorem dX12_give_117 : decode cX12_give 117 = .ok (.isub, 1) := by decide +kernel
theorem dX12_give_118 : decode cX12_give 118 = .ok (.iaload, 1) := by decide +kernel
theorem dX12_give_119 : decode cX12_give 119 = .ok (.iadd, 1) := by decide +kernel
theorem dX12_give_120 : decode cX12_give 120 = .ok (.invokevirtual 356, 3) := by decide +kernel
theorem dX12_give_123 : decode cX12_give 123 = .ok (.return_, 1) := by decide +kernel
def wp_X12_give : List Cond := .code yX12_give cX12_give 4 none :: ((((((([.fieldLink RX12 10 "SteadyMachineModel" "image" "LSteadyMachineModel$Image;", .fieldLink RX12 208 "SteadyMachineModel" "placeOf" "[I", .fieldLink RX12 256 "SteadyMachineModel" "frames" "I", .fieldLink RX12 211 "SteadyMachineModel" "highOf" "[I", .fieldLink RX12 215 "SteadyMachineModel" "valueAt" "[I", .fieldLink RX12 218 "SteadyMachineModel" "isThing" "[Z", .fieldLink RX12 152 "SteadyMachineModel" "state" "I"] ++ (wsV RX12 317 RX12 yX12_method wp_X12_method)) ++ (wsV RX12 356 RX12 yX12_onward wp_X12_onward)) ++ (wsV RX12 335 RX12 yX12_leave wp_X12_leave)) ++ (wsV RX12 320 RX12 yX12_under wp_X12_under)) ++ (wsV RX12 347 RX12 yX12_value wp_X12_value)) ++ wsX110) ++ wsX120)
theorem wq_X12_give : wp_X12_give.all goodWord = true := wa_c rfl (wa_a (wa_a (wa_a (wa_a (wa_a (wa_a (wa_a (by decide +kernel) (wa_V wq_X12_method)) (wa_V wq_X12_onward)) (wa_V wq_X12_leave)) (wa_V wq_X12_under)) (wa_V wq_X12_value)) uq_X11) uq_X12)
theorem wt_X12_give : GoodIn lw_tbl wp_X12_give := wm_c (List.mem_of_getElem? (i := 1752) (by decide +kernel)) rfl (wm_a (wm_a (wm_a (wm_a (wm_a (wm_a (wm_a (goodIn_r _ [1490, 1510, 1508, 1511, 1512, 1513, 1516] (by decide +kernel) (by decide +kernel)) (wm_a (goodIn_r _ [1670, 1672, 111, 147] (by decide +kernel) (by decide +kernel)) wt_X12_method)) (wm_a (goodIn_r _ [1701, 1703, 118, 147] (by decide +kernel) (by decide +kernel)) wt_X12_onward)) (wm_a (goodIn_r _ [1682, 1684, 114, 147] (by decide +kernel) (by decide +kernel)) wt_X12_leave)) (wm_a (goodIn_r _ [1678, 1680, 113, 147] (by decide +kernel) (by decide +kernel)) wt_X12_under)) (wm_a (goodIn_r _ [1690, 1692, 116, 147] (by decide +kernel) (by decide +kernel)) wt_X12_value)) ut_X11) ut_X12)
theorem wg_X12_give_X12_method_317 : GoodIn wp_X12_give (wsV RX12 317 RX12 yX12_method wp_X12_method) := goodIn_sub (fun w h => List.mem_cons_of_mem _ (List.mem_append_left _ (List.mem_append_left _ (List.mem_append_left _ (List.mem_append_left _ (List.mem_append_left _ (List.mem_append_left _ (List.mem_append_right _ h)))))))) (wa_V wq_X12_method)
theorem wg_X12_give_X12_onward_356 : GoodIn wp_X12_give (wsV RX12 356 RX12 yX12_onward wp_X12_onward) := goodIn_sub (fun w h => List.mem_cons_of_mem _ (List.mem_append_left _ (List.mem_append_left _ (List.mem_append_left _ (List.mem_append_left _ (List.mem_append_left _ (List.mem_append_right _ h))))))) (wa_V wq_X12_onward)
theorem wg_X12_give_X12_leave_335 : GoodIn wp_X12_give (wsV RX12 335 RX12 yX12_leave wp_X12_leave) := goodIn_sub (fun w h => List.mem_cons_of_mem _ (List.mem_append_left _ (List.mem_append_left _ (List.mem_append_left _ (List.mem_append_left _ (List.mem_append_right _ h)))))) (wa_V wq_X12_leave)
theorem wg_X12_give_X12_under_320 : GoodIn wp_X12_give (wsV RX12 320 RX12 yX12_under wp_X12_under) := goodIn_sub (fun w h => List.mem_cons_of_mem _ (List.mem_append_left _ (List.mem_append_left _ (List.mem_append_left _ (List.mem_append_right _ h))))) (wa_V wq_X12_under)
theorem wg_X12_give_X12_value_347 : GoodIn wp_X12_give (wsV RX12 347 RX12 yX12_value wp_X12_value) := goodIn_sub (fun w h => List.mem_cons_of_mem _ (List.mem_append_left _ (List.mem_append_left _ (List.mem_append_right _ h)))) (wa_V wq_X12_value)
theorem wi_X12_give_X11 : ∀ w ∈ wsX110, w ∈ wp_X12_give := fun w h => List.mem_cons_of_mem _ (List.mem_append_left _ (List.mem_append_right _ h))
theorem wi_X12_give_X12 : ∀ w ∈ wsX120, w ∈ wp_X12_give := fun w h => List.mem_cons_of_mem _ (List.mem_append_right _ h)
set_option maxHeartbeats 4000000 in
set_option maxRecDepth 100000 in
theorem c_X12_give (l : Launch) (D : va_G) (sz t0 : Nat) (σ : sm_S) (α : sm_A) (p1 : Int32) (K : sm_S → Prop) (hF : mp_X12_give σ p1 K) : Met l yX12_give wp_X12_give { frames := 3, cells := 0, slots := 0, locals := 62 } (sm_P sm_wM sm_tM 40 D sz t0 σ α [.ref (α.1 1), .int p1]) (va_Qv K (sm_B sm_wM D α) (sm_a α 40 sz)) 0 0 (sm_a α 40 sz) := by
  refine Met.ofW (cc := cX12_give) (maxL := 4) (ret := none) (by decide) rfl ?_
  intro p e s m args below meth c s₁ B hml hv
  obtain ⟨rfl, hsz, hP, hK, hD0, hE⟩ := hv
  have hx := B.exec
  have hb := B.bytes
  have hr := B.returns
  have hts := atoms_spec (ws := wp_X12_give) B.pre
  have hown : s.vm.findClass RX12 = some m.cls := findClass_of_methodNamed B.named
  have hlocks := B.notSynchronized
  subst hsz
  have hD : sm_D (sm_a α 40 s.heap.size) α 40 := hD0.own
  have hA : ∀ q : Nat, s.heap.size ≤ q → sm_a α 40 s.heap.size q := fun q h => Or.inr h
  generalize hAe : sm_a α 40 s.heap.size = A at hD hA hE ⊢
  have hS : va_S A s.heap s.heap [] := va_S.rf
  have in_X11 : ∀ w ∈ wsX110, w ∈ wp_X12_give := wi_X12_give_X11
  have in_X12 : ∀ w ∈ wsX120, w ∈ wp_X12_give := wi_X12_give_X12
  have k_0 := hts (.fieldLink RX12 10 "SteadyMachineModel" "image" "LSteadyMachineModel$Image;") (by decide +kernel)
  have k_1 := hts (.fieldLink RX12 208 "SteadyMachineModel" "placeOf" "[I") (by decide +kernel)
  have k_2 := hts (.fieldLink RX12 256 "SteadyMachineModel" "frames" "I") (by decide +kernel)
  have k_3 := hts (.fieldLink RX12 211 "SteadyMachineModel" "highOf" "[I") (by decide +kernel)
  have k_4 := hts (.fieldLink RX12 215 "SteadyMachineModel" "valueAt" "[I") (by decide +kernel)
  have k_5 := hts (.fieldLink RX12 218 "SteadyMachineModel" "isThing" "[Z") (by decide +kernel)
  have k_6 := hts (.fieldLink RX12 152 "SteadyMachineModel" "state" "I") (by decide +kernel)
  have hl := lv_entry ([.ref (α.1 1), .int p1]) (n := 4) (Nat.le_of_ble_eq_true rfl)
  rw [lg_entry_eq]
  generalize (lg_sl ([.ref (α.1 1), .int p1]) ++ List.replicate (4 - (lg_sl ([.ref (α.1 1), .int p1])).length) Slot.unset).toArray = ls at hl ⊢
  have hl : lv_has ls 4 [(0, .ref (α.1 1)), (1, .int p1)] := hl
  have B95 : ∀ (σ : sm_S), mp_X12_give_95 K σ → sm_J p l e (headSpec wp_X12_give { frames := 3, cells := 0, slots := 0, locals := 62 }).room s m ([.ref (α.1 1), .int p1] : List Value).toArray below meth c (MQ below (va_Qv K (sm_B sm_wM D α) A) ([.ref (α.1 1), .int p1] : List Value).toArray s 0 0 A) D A 4 (sm_wM σ α) 95 [(0, .ref (α.1 1))] [] := by
    intro σ hF H locs ls hP hS hl
    unfold mp_X12_give_95 at hF
    refine lv_aload_n hx hb dX12_give_95 rfl (lv_at hl 0 rfl) ?_
    refine lv_aload_n hx hb dX12_give_96 rfl (lv_at hl 0 rfl) ?_
    refine va_get (D := D) (ci := 12) (v := .ref (α.1 0)) (C := RX12) (T := TX12) (N := 42) hx hb hts in_X12 hown hK hP 1 (sm_gX12 σ α) rfl 0 (by decide) k_0 (fun _ h9 => h9) rfl dX12_give_97 ?_
    refine va_getN (D := D) (ci := 11) (v := .ref (α.1 17)) (C := RX11) (T := TX11) (N := 28) hx hb hts in_X11 hown hK hP 0 (sm_gX11 σ α) rfl 22 (by decide) (va_Nw.use rfl (hE.1 (.fieldLinkNest "SteadyMachineModel" 30 "SteadyMachineModel$Image" "codeAt" "[I" "SteadyMachineModel") (by decide +kernel))) (fun _ h9 => h9) rfl dX12_give_100 ?_
    refine lv_aload_n hx hb dX12_give_103 rfl (lv_at hl 0 rfl) ?_
    refine sm_vi (As := []) (rest := [.ref (α.1 17), .ref (α.1 1)]) hP hK hD hE hS hA ⟨hx, hb, hml, hown, hts⟩ hl.1 (c_X12_method l D H.size t0 σ α _ hF) (cwV 0 hts wg_X12_give_X12_method_317 rfl rfl rfl (by decide +kernel) ⟨Nat.le_of_ble_eq_true rfl, Nat.le_of_ble_eq_true rfl⟩) (va_recv hK hP (ci := 12) (q0 := 1) rfl (sm_gX12 σ α)) rfl rfl (Nat.le_of_ble_eq_true rfl) dX12_give_104 ⟨Nat.zero_le _, Nat.zero_le _⟩ (fun r2 σ1 H locs hF hP hS => ?_)
    obtain ⟨h3, hF⟩ := hF
    refine va_iald (n := (σ1.2.2.1 17)) (f := (σ1.2.2.2.1 17)) hx hb hK hP 17 15 (sm_aM17 σ1 α) (sm_yM17 α) h3 dX12_give_107 ?_
    refine lv_aload_n hx hb dX12_give_108 rfl (lv_at hl 0 rfl) ?_
    refine va_get (D := D) (ci := 12) (v := .ref (α.1 34)) (C := RX12) (T := TX12) (N := 42) hx hb hts in_X12 hown hK hP 1 (sm_gX12 σ1 α) rfl 20 (by decide) k_1 (fun _ h9 => h9) rfl dX12_give_109 ?_
    refine lv_aload_n hx hb dX12_give_112 rfl (lv_at hl 0 rfl) ?_
    refine va_get (D := D) (ci := 12) (v := .int (σ1.1 14)) (C := RX12) (T := TX12) (N := 42) hx hb hts in_X12 hown hK hP 1 (sm_gX12 σ1 α) rfl 18 (by decide) k_2 (fun _ h9 => h9) rfl dX12_give_113 ?_
    refine lv_iconst (v := 1) hx hb dX12_give_116 (by decide) ?_
    refine lv_isub hx hb dX12_give_117 ?_
    obtain ⟨h4, hF⟩ := hF
    refine va_iald (n := (σ1.2.2.1 34)) (f := (σ1.2.2.2.1 34)) hx hb hK hP 34 32 (sm_aM34 σ1 α) (sm_yM34 α) h4 dX12_give_118 ?_
    refine lv_iadd hx hb dX12_give_119 ?_
    refine sm_vv (As := [.int (((σ1.2.2.2.1 17) r2.toNatClampNeg) + ((σ1.2.2.2.1 34) ((σ1.1 14) - 1).toNatClampNeg))]) (rest := []) hP hK hD hE hS hA ⟨hx, hb, hml, hown, hts⟩ hl.1 (c_X12_onward l D H.size t0 σ1 α (((σ1.2.2.2.1 17) r2.toNatClampNeg) + ((σ1.2.2.2.1 34) ((σ1.1 14) - 1).toNatClampNeg)) _ hF) (cwV 1 hts wg_X12_give_X12_onward_356 rfl rfl rfl (by decide +kernel) ⟨Nat.le_of_ble_eq_true rfl, Nat.le_of_ble_eq_true rfl⟩) (va_recv hK hP (ci := 12) (q0 := 1) rfl (sm_gX12 σ1 α)) rfl rfl (Nat.le_of_ble_eq_true rfl) dX12_give_120 ⟨Nat.zero_le _, Nat.zero_le _⟩ (fun σ5 H locs hF hP hS => ?_)
    exact W.vret hx hb hr (fun t ht hW => ⟨⟨σ5, rfl, hF, (by unfold sm_B; rw [ht]; exact hP)⟩, hS.F ht⟩) hS.2.2 dX12_give_123
  have B36 : ∀ (σ : sm_S) (x1 : Int32) (x2 : Int32) (y0 : Int32), mp_X12_give_36 K σ x1 x2 y0 → sm_J p l e (headSpec wp_X12_give { frames := 3, cells := 0, slots := 0, locals := 62 }).room s m ([.ref (α.1 1), .int p1] : List Value).toArray below meth c (MQ below (va_Qv K (sm_B sm_wM D α) A) ([.ref (α.1 1), .int p1] : List Value).toArray s 0 0 A) D A 4 (sm_wM σ α) 36 [(0, .ref (α.1 1)), (1, .int x1), (2, .int x2)] [.int y0] := by
    intro σ x1 x2 y0 hF H locs ls hP hS hl
    unfold mp_X12_give_36 at hF
    refine lv_istore_n (lv' := [(3, .int y0), (0, .ref (α.1 1)), (1, .int x1), (2, .int x2)]) hx hb dX12_give_36 rfl hl (by decide) rfl (fun ls hl => ?_)
    refine lv_aload_n hx hb dX12_give_37 rfl (lv_at hl 1 rfl) ?_
    refine sm_vv (As := []) (rest := []) hP hK hD hE hS hA ⟨hx, hb, hml, hown, hts⟩ hl.1 (c_X12_leave l D H.size t0 σ α _ hF) (cwV 0 hts wg_X12_give_X12_leave_335 rfl rfl rfl (by decide +kernel) ⟨Nat.le_of_ble_eq_true rfl, Nat.le_of_ble_eq_true rfl⟩) (va_recv hK hP (ci := 12) (q0 := 1) rfl (sm_gX12 σ α)) rfl rfl (Nat.le_of_ble_eq_true rfl) dX12_give_38 ⟨Nat.zero_le _, Nat.zero_le _⟩ (fun σ6 H locs hF hP hS => ?_)
    refine lv_aload_n hx hb dX12_give_41 rfl (lv_at hl 1 rfl) ?_
    refine va_get (D := D) (ci := 12) (v := .int (σ6.1 14)) (C := RX12) (T := TX12) (N := 42) hx hb hts in_X12 hown hK hP 1 (sm_gX12 σ6 α) rfl 18 (by decide) k_2 (fun _ h9 => h9) rfl dX12_give_42 ?_
    refine lv_if_ne (tgt := 54) hx hb dX12_give_45 (by decide) (fun h7 => ?_) (fun h7 => ?_)
    · replace hF := hF.1 h7
      refine lv_iload_n hx hb dX12_give_54 rfl (lv_at hl 2 rfl) ?_
      refine lv_if_eq (tgt := 95) hx hb dX12_give_55 (by decide) (fun h8 => ?_) (fun h8 => ?_)
      · replace hF := hF.1 h8
        exact B95 σ6 hF H locs ls hP hS (lv_sub hl [1] rfl)
      · replace hF := hF.2 h8
        refine lv_aload_n hx hb dX12_give_58 rfl (lv_at hl 1 rfl) ?_
        refine va_get (D := D) (ci := 12) (v := .ref (α.1 35)) (C := RX12) (T := TX12) (N := 42) hx hb hts in_X12 hown hK hP 1 (sm_gX12 σ6 α) rfl 21 (by decide) k_3 (fun _ h9 => h9) rfl dX12_give_59 ?_
        refine lv_aload_n hx hb dX12_give_62 rfl (lv_at hl 1 rfl) ?_
        refine va_get (D := D) (ci := 12) (v := .int (σ6.1 14)) (C := RX12) (T := TX12) (N := 42) hx hb hts in_X12 hown hK hP 1 (sm_gX12 σ6 α) rfl 18 (by decide) k_2 (fun _ h9 => h9) rfl dX12_give_63 ?_
        refine lv_iconst (v := 1) hx hb dX12_give_66 (by decide) ?_
        refine lv_isub hx hb dX12_give_67 ?_
        refine lv_dup2_11 hx hb dX12_give_68 rfl rfl ?_
        obtain ⟨h9, hF⟩ := hF
        refine va_iald (n := (σ6.2.2.1 35)) (f := (σ6.2.2.2.1 35)) hx hb hK hP 35 33 (sm_aM35 σ6 α) (sm_yM35 α) h9 dX12_give_69 ?_
        refine lv_iconst (v := 1) hx hb dX12_give_70 (by decide) ?_
        refine lv_iadd hx hb dX12_give_71 ?_
        obtain ⟨h10, hF⟩ := hF
        refine va_iast (n := (σ6.2.2.1 35)) (f := (σ6.2.2.2.1 35)) (x := (((σ6.2.2.2.1 35) ((σ6.1 14) - 1).toNatClampNeg) + 1)) hx hb hK hP (hD.to (sm_wM_m _ _)) hS 35 33 (sm_aM35 σ6 α) (sm_yM35 α) h10 dX12_give_72 (fun H locs hP _ hS => ?_)
        rw [sm_rM35] at hP
        obtain ⟨σ11, eσ11⟩ : ∃ x : sm_S, x = sm_r σ6 35 (upd (σ6.2.2.2.1 35) ((σ6.1 14) - 1).toNatClampNeg (((σ6.2.2.2.1 35) ((σ6.1 14) - 1).toNatClampNeg) + 1)) := ⟨_, rfl⟩
        replace hF := hF σ11 eσ11
        rw [← eσ11] at hP
        refine lv_aload_n hx hb dX12_give_73 rfl (lv_at hl 1 rfl) ?_
        refine va_get (D := D) (ci := 12) (v := .ref (α.1 36)) (C := RX12) (T := TX12) (N := 42) hx hb hts in_X12 hown hK hP 1 (sm_gX12 σ11 α) rfl 22 (by decide) k_4 (fun _ h9 => h9) rfl dX12_give_74 ?_
        refine lv_aload_n hx hb dX12_give_77 rfl (lv_at hl 1 rfl) ?_
        refine lv_iconst (v := 0) hx hb dX12_give_78 (by decide) ?_
        refine sm_vi (As := [.int 0]) (rest := [.ref (α.1 36)]) hP hK hD hE hS hA ⟨hx, hb, hml, hown, hts⟩ hl.1 (c_X12_under l D H.size t0 σ11 α 0 _ hF) (cwV 1 hts wg_X12_give_X12_under_320 rfl rfl rfl (by decide +kernel) ⟨Nat.le_of_ble_eq_true rfl, Nat.le_of_ble_eq_true rfl⟩) (va_recv hK hP (ci := 12) (q0 := 1) rfl (sm_gX12 σ11 α)) rfl rfl (Nat.le_of_ble_eq_true rfl) dX12_give_79 ⟨Nat.zero_le _, Nat.zero_le _⟩ (fun r13 σ12 H locs hF hP hS => ?_)
        refine lv_iload_n hx hb dX12_give_82 rfl (lv_at hl 3 rfl) ?_
        obtain ⟨h14, hF⟩ := hF
        refine va_iast (n := (σ12.2.2.1 36)) (f := (σ12.2.2.2.1 36)) (x := x2) hx hb hK hP (hD.to (sm_wM_m _ _)) hS 36 34 (sm_aM36 σ12 α) (sm_yM36 α) h14 dX12_give_83 (fun H locs hP _ hS => ?_)
        rw [sm_rM36] at hP
        obtain ⟨σ15, eσ15⟩ : ∃ x : sm_S, x = sm_r σ12 36 (upd (σ12.2.2.2.1 36) r13.toNatClampNeg x2) := ⟨_, rfl⟩
        replace hF := hF σ15 eσ15
        rw [← eσ15] at hP
        refine lv_aload_n hx hb dX12_give_84 rfl (lv_at hl 1 rfl) ?_
        refine va_get (D := D) (ci := 12) (v := .ref (α.1 37)) (C := RX12) (T := TX12) (N := 42) hx hb hts in_X12 hown hK hP 1 (sm_gX12 σ15 α) rfl 23 (by decide) k_5 (fun _ h9 => h9) rfl dX12_give_85 ?_
        refine lv_aload_n hx hb dX12_give_88 rfl (lv_at hl 1 rfl) ?_
        refine lv_iconst (v := 0) hx hb dX12_give_89 (by decide) ?_
        refine sm_vi (As := [.int 0]) (rest := [.ref (α.1 37)]) hP hK hD hE hS hA ⟨hx, hb, hml, hown, hts⟩ hl.1 (c_X12_under l D H.size t0 σ15 α 0 _ hF) (cwV 1 hts wg_X12_give_X12_under_320 rfl rfl rfl (by decide +kernel) ⟨Nat.le_of_ble_eq_true rfl, Nat.le_of_ble_eq_true rfl⟩) (va_recv hK hP (ci := 12) (q0 := 1) rfl (sm_gX12 σ15 α)) rfl rfl (Nat.le_of_ble_eq_true rfl) dX12_give_90 ⟨Nat.zero_le _, Nat.zero_le _⟩ (fun r17 σ16 H locs hF hP hS => ?_)
        refine lv_iload_n hx hb dX12_give_93 rfl (lv_at hl 0 rfl) ?_
        obtain ⟨h18, hF⟩ := hF
        refine va_zast (n := (σ16.2.2.1 37)) (f := (σ16.2.2.2.1 37)) (x := y0) hx hb hK hP (hD.to (sm_wM_m _ _)) hS 37 35 (sm_aM37 σ16 α) (sm_yM37 α) h18 dX12_give_94 (fun H locs hP _ hS => ?_)
        rw [sm_rM37] at hP
        obtain ⟨σ19, eσ19⟩ : ∃ x : sm_S, x = sm_r σ16 37 (upd (σ16.2.2.2.1 37) r17.toNatClampNeg (vp_nar .boolean y0)) := ⟨_, rfl⟩
        replace hF := hF σ19 eσ19
        rw [← eσ19] at hP
        exact B95 σ19 hF H locs ls hP hS (lv_sub hl [1] rfl)
    · replace hF := hF.2 h7
      refine lv_aload_n hx hb dX12_give_48 rfl (lv_at hl 1 rfl) ?_
      refine lv_iconst (v := 2) hx hb dX12_give_49 (by decide) ?_
      refine va_put (D := D) (ci := 12) (v := .int 2) (ty := .int) (C := RX12) (T := TX12) (N := 42) hx hb hts in_X12 tyX12 tyX12_ok nmX12 hown hK hP (hD.to (sm_wM_m _ _)) hS 1 (sm_gX12 σ6 α) rfl 26 (by decide) k_6 (fun _ h9 => h9) rfl (by decide +kernel) rfl rfl (Nat.le_of_ble_eq_true rfl) dX12_give_50 (fun H locs hP _ hS => ?_)
      rw [sm_iM17] at hP
      obtain ⟨σ20, eσ20⟩ : ∃ x : sm_S, x = sm_i σ6 17 2 := ⟨_, rfl⟩
      replace hF := hF σ20 eσ20
      rw [← eσ20] at hP
      exact W.vret hx hb hr (fun t ht hW => ⟨⟨σ20, rfl, hF, (by unfold sm_B; rw [ht]; exact hP)⟩, hS.F ht⟩) hS.2.2 dX12_give_53
  have B35 : ∀ (σ : sm_S) (x1 : Int32) (x2 : Int32), mp_X12_give_35 K σ x1 x2 → sm_J p l e (headSpec wp_X12_give { frames := 3, cells := 0, slots := 0, locals := 62 }).room s m ([.ref (α.1 1), .int p1] : List Value).toArray below meth c (MQ below (va_Qv K (sm_B sm_wM D α) A) ([.ref (α.1 1), .int p1] : List Value).toArray s 0 0 A) D A 4 (sm_wM σ α) 35 [(0, .ref (α.1 1)), (1, .int x1), (2, .int x2)] [] := by
    intro σ x1 x2 hF H locs ls hP hS hl
    unfold mp_X12_give_35 at hF
    refine lv_iconst (v := 0) hx hb dX12_give_35 (by decide) ?_
    exact B36 σ x1 x2 0 hF H locs ls hP hS (lv_sub hl [0, 1, 2] rfl)
  have B13 : ∀ (σ : sm_S) (x1 : Int32) (y0 : Int32), mp_X12_give_13 K σ x1 y0 → sm_J p l e (headSpec wp_X12_give { frames := 3, cells := 0, slots := 0, locals := 62 }).room s m ([.ref (α.1 1), .int p1] : List Value).toArray below meth c (MQ below (va_Qv K (sm_B sm_wM D α) A) ([.ref (α.1 1), .int p1] : List Value).toArray s 0 0 A) D A 4 (sm_wM σ α) 13 [(0, .ref (α.1 1)), (1, .int x1)] [.int y0] := by
    intro σ x1 y0 hF H locs ls hP hS hl
    unfold mp_X12_give_13 at hF
    refine lv_istore_n (lv' := [(2, .int y0), (0, .ref (α.1 1)), (1, .int x1)]) hx hb dX12_give_13 rfl hl (by decide) rfl (fun ls hl => ?_)
    refine lv_iload_n hx hb dX12_give_14 rfl (lv_at hl 2 rfl) ?_
    refine lv_if_eq (tgt := 35) hx hb dX12_give_15 (by decide) (fun h21 => ?_) (fun h21 => ?_)
    · replace hF := hF.1 h21
      exact B35 σ x1 y0 hF H locs ls hP hS (lv_sub hl [1, 2, 0] rfl)
    · replace hF := hF.2 h21
      refine lv_aload_n hx hb dX12_give_18 rfl (lv_at hl 1 rfl) ?_
      refine va_get (D := D) (ci := 12) (v := .ref (α.1 37)) (C := RX12) (T := TX12) (N := 42) hx hb hts in_X12 hown hK hP 1 (sm_gX12 σ α) rfl 23 (by decide) k_5 (fun _ h9 => h9) rfl dX12_give_19 ?_
      refine lv_aload_n hx hb dX12_give_22 rfl (lv_at hl 1 rfl) ?_
      refine lv_iconst (v := 0) hx hb dX12_give_23 (by decide) ?_
      refine sm_vi (As := [.int 0]) (rest := [.ref (α.1 37)]) hP hK hD hE hS hA ⟨hx, hb, hml, hown, hts⟩ hl.1 (c_X12_under l D H.size t0 σ α 0 _ hF) (cwV 1 hts wg_X12_give_X12_under_320 rfl rfl rfl (by decide +kernel) ⟨Nat.le_of_ble_eq_true rfl, Nat.le_of_ble_eq_true rfl⟩) (va_recv hK hP (ci := 12) (q0 := 1) rfl (sm_gX12 σ α)) rfl rfl (Nat.le_of_ble_eq_true rfl) dX12_give_24 ⟨Nat.zero_le _, Nat.zero_le _⟩ (fun r23 σ22 H locs hF hP hS => ?_)
      obtain ⟨h24, hF⟩ := hF
      refine va_zald (n := (σ22.2.2.1 37)) (f := (σ22.2.2.2.1 37)) hx hb hK hP 37 35 (sm_aM37 σ22 α) (sm_yM37 α) h24 dX12_give_27 ?_
      refine lv_if_eq (tgt := 35) hx hb dX12_give_28 (by decide) (fun h25 => ?_) (fun h25 => ?_)
      · replace hF := hF.1 h25
        exact B35 σ22 x1 y0 hF H locs ls hP hS (lv_sub hl [1, 2, 0] rfl)
      · replace hF := hF.2 h25
        refine lv_iconst (v := 1) hx hb dX12_give_31 (by decide) ?_
        refine lv_goto (tgt := 36) hx hb dX12_give_32 (by decide) ?_
        exact B36 σ22 x1 y0 1 hF H locs ls hP hS (lv_sub hl [1, 2, 0] rfl)
  unfold mp_X12_give at hF
  revert hP hS
  generalize hLo : ([] : List Loc) = locs
  suffices h9 : ∀ (H : Heap) (locs : List Loc), va_P D vwCl (sm_wM σ α) H → va_S A s.heap H locs → W p l e (headSpec wp_X12_give { frames := 3, cells := 0, slots := 0, locals := 62 }).room s m ([.ref (α.1 1), .int p1] : List Value).toArray below meth c H locs 0 0 (MQ below (va_Qv K (sm_B sm_wM D α) A) ([.ref (α.1 1), .int p1] : List Value).toArray s 0 0 A) (F0 m 0 ls []) from fun hP hS => h9 s.heap locs hP hS
  intro H locs hP hS
  refine lv_iload_n hx hb dX12_give_0 rfl (lv_at hl 1 rfl) ?_
  refine lv_if_eq (tgt := 12) hx hb dX12_give_1 (by decide) (fun h26 => ?_) (fun h26 => ?_)
  · replace hF := hF.1 h26
    refine lv_iconst (v := 0) hx hb dX12_give_12 (by decide) ?_
    exact B13 σ p1 0 hF H locs ls hP hS (lv_sub hl [0, 1] rfl)
  · replace hF := hF.2 h26
    refine lv_aload_n hx hb dX12_give_4 rfl (lv_at hl 0 rfl) ?_
    refine lv_iconst (v := 0) hx hb dX12_give_5 (by decide) ?_
    refine sm_vi (As := [.int 0]) (rest := []) hP hK hD hE hS hA ⟨hx, hb, hml, hown, hts⟩ hl.1 (c_X12_value l D H.size t0 σ α 0 _ hF) (cwV 1 hts wg_X12_give_X12_value_347 rfl rfl rfl (by decide +kernel) ⟨Nat.le_of_ble_eq_true rfl, Nat.le_of_ble_eq_true rfl⟩) (va_recv hK hP (ci := 12) (q0 := 1) rfl (sm_gX12 σ α)) rfl rfl (Nat.le_of_ble_eq_true rfl) dX12_give_6 ⟨Nat.zero_le _, Nat.zero_le _⟩ (fun r28 σ27 H locs hF hP hS => ?_)
    refine lv_goto (tgt := 13) hx hb dX12_give_9 (by decide) ?_
    exact B13 σ27 p1 r28 hF H locs ls hP hS (lv_sub hl [0, 1] rfl)
theorem dX12_isOne_0 : decode cX12_isOne 0 = .ok (.iload_n 1, 1) := by decide +kernel
theorem dX12_isOne_1 : decode cX12_isOne 1 = .ok (.iconst (-1), 1) := by decide +kernel
theorem dX12_isOne_2 : decode cX12_isOne 2 = .ok (.if_icmp .eq 33, 3) := by decide +kernel
theorem dX12_isOne_5 : decode cX12_isOne 5 = .ok (.aload_n 0, 1) := by decide +kernel
theorem dX12_isOne_6 : decode cX12_isOne 6 = .ok (.getfield 180, 3) := by decide +kernel
theorem dX12_isOne_9 : decode cX12_isOne 9 = .ok (.iload_n 1, 1) := by decide +kernel
theorem dX12_isOne_10 : decode cX12_isOne 10 = .ok (.baload, 1) := by decide +kernel
theorem dX12_isOne_11 : decode cX12_isOne 11 = .ok (.ifCond .ne 24, 3) := by decide +kernel
theorem dX12_isOne_14 : decode cX12_isOne 14 = .ok (.aload_n 0, 1) := by decide +kernel
theorem dX12_isOne_15 : decode cX12_isOne 15 = .ok (.getfield 10, 3) := by decide +kernel
theorem dX12_isOne_18 : decode cX12_isOne 18 = .ok (.aload_n 0, 1) := by decide +kernel
theorem dX12_isOne_19 : decode cX12_isOne 19 = .ok (.getfield 183, 3) := by decide +kernel
theorem dX12_isOne_22 : decode cX12_isOne 22 = .ok (.iload_n 1, 1) := by decide +kernel
theorem dX12_isOne_23 : decode cX12_isOne 23 = .ok (.iaload, 1) := by decide +kernel
theorem dX12_isOne_24 : decode cX12_isOne 24 = .ok (.iload_n 2, 1) := by decide +kernel
theorem dX12_isOne_25 : decode cX12_isOne 25 = .ok (.invokevirtual 14, 3) := by decide +kernel
theorem dX12_isOne_28 : decode cX12_isOne 28 = .ok (.ifCond .eq 7, 3) := by decide +kernel
theorem dX12_isOne_31 : decode cX12_isOne 31 = .ok (.iconst 1, 1) := by decide +kernel
theorem dX12_isOne_32 : decode cX12_isOne 32 = .ok (.goto 4, 3) := by decide +kernel
theorem dX12_isOne_35 : decode cX12_isOne 35 = .ok (.iconst 0, 1) := by decide +kernel
theorem dX12_isOne_36 : decode cX12_isOne 36 = .ok (.ireturn, 1) := by decide +kernel
def wp_X12_isOne : List Cond := .code yX12_isOne cX12_isOne 3 (some .boolean) :: (([.fieldLink RX12 180 "SteadyMachineModel" "sorts" "[B", .fieldLink RX12 10 "SteadyMachineModel" "image" "LSteadyMachineModel$Image;", .fieldLink RX12 183 "SteadyMachineModel" "infos" "[I"] ++ (wsV RX12 14 RX11 yX11_isA wp_X11_isA)) ++ wsX120)
theorem wq_X12_isOne : wp_X12_isOne.all goodWord = true := wa_c rfl (wa_a (wa_a (by decide +kernel) (wa_V wq_X11_isA)) uq_X12)
theorem wt_X12_isOne : GoodIn lw_tbl wp_X12_isOne := wm_c (List.mem_of_getElem? (i := 1740) (by decide +kernel)) rfl (wm_a (wm_a (goodIn_r _ [1498, 1490, 1499] (by decide +kernel) (by decide +kernel)) (wm_a (goodIn_r _ [1294, 1295, 1296, 148] (by decide +kernel) (by decide +kernel)) wt_X11_isA)) ut_X12)
theorem wg_X12_isOne_X11_isA_14 : GoodIn wp_X12_isOne (wsV RX12 14 RX11 yX11_isA wp_X11_isA) := goodIn_sub (fun w h => List.mem_cons_of_mem _ (List.mem_append_left _ (List.mem_append_right _ h))) (wa_V wq_X11_isA)
theorem wi_X12_isOne_X12 : ∀ w ∈ wsX120, w ∈ wp_X12_isOne := fun w h => List.mem_cons_of_mem _ (List.mem_append_right _ h)
set_option maxHeartbeats 4000000 in
set_option maxRecDepth 100000 in
theorem c_X12_isOne (l : Launch) (D : va_G) (sz t0 : Nat) (σ : sm_S) (α : sm_A) (p1 : Int32) (p2 : Int32) (K : Int32 → sm_S → Prop) (hF : mp_X12_isOne σ p1 p2 K) : Met l yX12_isOne wp_X12_isOne { frames := 2, cells := 0, slots := 0, locals := 44 } (sm_P sm_wM sm_tM 40 D sz t0 σ α [.ref (α.1 1), .int p1, .int p2]) (va_Qi K (sm_B sm_wM D α) (sm_a α 40 sz)) 0 0 (sm_a α 40 sz) := by
  refine Met.ofW (cc := cX12_isOne) (maxL := 3) (ret := (some .boolean)) (by decide) rfl ?_
  intro p e s m args below meth c s₁ B hml hv
  obtain ⟨rfl, hsz, hP, hK, hD0, hE⟩ := hv
  have hx := B.exec
  have hb := B.bytes
  have hr := B.returns
  have hts := atoms_spec (ws := wp_X12_isOne) B.pre
  have hown : s.vm.findClass RX12 = some m.cls := findClass_of_methodNamed B.named
  have hlocks := B.notSynchronized
  subst hsz
  have hD : sm_D (sm_a α 40 s.heap.size) α 40 := hD0.own
  have hA : ∀ q : Nat, s.heap.size ≤ q → sm_a α 40 s.heap.size q := fun q h => Or.inr h
  generalize hAe : sm_a α 40 s.heap.size = A at hD hA hE ⊢
  have hS : va_S A s.heap s.heap [] := va_S.rf
  have in_X12 : ∀ w ∈ wsX120, w ∈ wp_X12_isOne := wi_X12_isOne_X12
  have k_0 := hts (.fieldLink RX12 180 "SteadyMachineModel" "sorts" "[B") (by decide +kernel)
  have k_1 := hts (.fieldLink RX12 10 "SteadyMachineModel" "image" "LSteadyMachineModel$Image;") (by decide +kernel)
  have k_2 := hts (.fieldLink RX12 183 "SteadyMachineModel" "infos" "[I") (by decide +kernel)
  have hl := lv_entry ([.ref (α.1 1), .int p1, .int p2]) (n := 3) (Nat.le_of_ble_eq_true rfl)
  rw [lg_entry_eq]
  generalize (lg_sl ([.ref (α.1 1), .int p1, .int p2]) ++ List.replicate (3 - (lg_sl ([.ref (α.1 1), .int p1, .int p2])).length) Slot.unset).toArray = ls at hl ⊢
  have hl : lv_has ls 3 [(0, .ref (α.1 1)), (1, .int p1), (2, .int p2)] := hl
  have B36 : ∀ (σ : sm_S) (y0 : Int32), mp_X12_isOne_36 K σ y0 → sm_J p l e (headSpec wp_X12_isOne { frames := 2, cells := 0, slots := 0, locals := 44 }).room s m ([.ref (α.1 1), .int p1, .int p2] : List Value).toArray below meth c (MQ below (va_Qi K (sm_B sm_wM D α) A) ([.ref (α.1 1), .int p1, .int p2] : List Value).toArray s 0 0 A) D A 3 (sm_wM σ α) 36 [] [.int y0] := by
    intro σ y0 hF H locs ls hP hS hl
    unfold mp_X12_isOne_36 at hF
    obtain ⟨h1, hF⟩ := hF
    exact W.zret (v := y0) hx hb hr h1.1 (fun t ht hW => ⟨⟨y0, σ, rfl, hF, (by unfold sm_B; rw [ht]; exact hP)⟩, hS.F ht⟩) hS.2.2 dX12_isOne_36
  have B35 : ∀ (σ : sm_S), mp_X12_isOne_35 K σ → sm_J p l e (headSpec wp_X12_isOne { frames := 2, cells := 0, slots := 0, locals := 44 }).room s m ([.ref (α.1 1), .int p1, .int p2] : List Value).toArray below meth c (MQ below (va_Qi K (sm_B sm_wM D α) A) ([.ref (α.1 1), .int p1, .int p2] : List Value).toArray s 0 0 A) D A 3 (sm_wM σ α) 35 [] [] := by
    intro σ hF H locs ls hP hS hl
    unfold mp_X12_isOne_35 at hF
    refine lv_iconst (v := 0) hx hb dX12_isOne_35 (by decide) ?_
    exact B36 σ 0 hF H locs ls hP hS (lv_sub hl [] rfl)
  unfold mp_X12_isOne at hF
  revert hP hS
  generalize hLo : ([] : List Loc) = locs
  suffices h9 : ∀ (H : Heap) (locs : List Loc), va_P D vwCl (sm_wM σ α) H → va_S A s.heap H locs → W p l e (headSpec wp_X12_isOne { frames := 2, cells := 0, slots := 0, locals := 44 }).room s m ([.ref (α.1 1), .int p1, .int p2] : List Value).toArray below meth c H locs 0 0 (MQ below (va_Qi K (sm_B sm_wM D α) A) ([.ref (α.1 1), .int p1, .int p2] : List Value).toArray s 0 0 A) (F0 m 0 ls []) from fun hP hS => h9 s.heap locs hP hS
  intro H locs hP hS
  refine lv_iload_n hx hb dX12_isOne_0 rfl (lv_at hl 1 rfl) ?_
  refine lv_iconst (v := -1) hx hb dX12_isOne_1 (by decide) ?_
  refine lv_icmp_eq (tgt := 35) hx hb dX12_isOne_2 (by decide) (fun h2 => ?_) (fun h2 => ?_)
  · replace hF := hF.1 h2
    exact B35 σ hF H locs ls hP hS (lv_sub hl [] rfl)
  · replace hF := hF.2 h2
    refine lv_aload_n hx hb dX12_isOne_5 rfl (lv_at hl 0 rfl) ?_
    refine va_get (D := D) (ci := 12) (v := .ref (α.1 25)) (C := RX12) (T := TX12) (N := 42) hx hb hts in_X12 hown hK hP 1 (sm_gX12 σ α) rfl 8 (by decide) k_0 (fun _ h9 => h9) rfl dX12_isOne_6 ?_
    refine lv_iload_n hx hb dX12_isOne_9 rfl (lv_at hl 1 rfl) ?_
    obtain ⟨h3, hF⟩ := hF
    refine va_bald (n := (σ.2.2.1 25)) (f := (σ.2.2.2.1 25)) hx hb hK hP 25 23 (sm_aM25 σ α) (sm_yM25 α) h3 dX12_isOne_10 ?_
    refine lv_if_ne (tgt := 35) hx hb dX12_isOne_11 (by decide) (fun h4 => ?_) (fun h4 => ?_)
    · replace hF := hF.1 h4
      exact B35 σ hF H locs ls hP hS (lv_sub hl [] rfl)
    · replace hF := hF.2 h4
      refine lv_aload_n hx hb dX12_isOne_14 rfl (lv_at hl 0 rfl) ?_
      refine va_get (D := D) (ci := 12) (v := .ref (α.1 0)) (C := RX12) (T := TX12) (N := 42) hx hb hts in_X12 hown hK hP 1 (sm_gX12 σ α) rfl 0 (by decide) k_1 (fun _ h9 => h9) rfl dX12_isOne_15 ?_
      refine lv_aload_n hx hb dX12_isOne_18 rfl (lv_at hl 0 rfl) ?_
      refine va_get (D := D) (ci := 12) (v := .ref (α.1 26)) (C := RX12) (T := TX12) (N := 42) hx hb hts in_X12 hown hK hP 1 (sm_gX12 σ α) rfl 9 (by decide) k_2 (fun _ h9 => h9) rfl dX12_isOne_19 ?_
      refine lv_iload_n hx hb dX12_isOne_22 rfl (lv_at hl 1 rfl) ?_
      obtain ⟨h5, hF⟩ := hF
      refine va_iald (n := (σ.2.2.1 26)) (f := (σ.2.2.2.1 26)) hx hb hK hP 26 24 (sm_aM26 σ α) (sm_yM26 α) h5 dX12_isOne_23 ?_
      refine lv_iload_n hx hb dX12_isOne_24 rfl (lv_at hl 2 rfl) ?_
      refine sm_vi (As := [.int ((σ.2.2.2.1 26) p1.toNatClampNeg), .int p2]) (rest := []) hP hK hD hE hS hA ⟨hx, hb, hml, hown, hts⟩ hl.1 (c_X11_isA l D H.size t0 σ α ((σ.2.2.2.1 26) p1.toNatClampNeg) p2 _ hF) (cwV 2 hts wg_X12_isOne_X11_isA_14 rfl rfl rfl (by decide +kernel) ⟨Nat.le_of_ble_eq_true rfl, Nat.le_of_ble_eq_true rfl⟩) (va_recv hK hP (ci := 11) (q0 := 0) rfl (sm_gX11 σ α)) rfl rfl (Nat.le_of_ble_eq_true rfl) dX12_isOne_25 ⟨Nat.zero_le _, Nat.zero_le _⟩ (fun r7 σ6 H locs hF hP hS => ?_)
      refine lv_if_eq (tgt := 35) hx hb dX12_isOne_28 (by decide) (fun h8 => ?_) (fun h8 => ?_)
      · replace hF := hF.1 h8
        exact B35 σ6 hF H locs ls hP hS (lv_sub hl [] rfl)
      · replace hF := hF.2 h8
        refine lv_iconst (v := 1) hx hb dX12_isOne_31 (by decide) ?_
        refine lv_goto (tgt := 36) hx hb dX12_isOne_32 (by decide) ?_
        exact B36 σ6 1 hF H locs ls hP hS (lv_sub hl [] rfl)
theorem dX12_doThings_0 : decode cX12_doThings 0 = .ok (.aload_n 0, 1) := by decide +kernel
theorem dX12_doThings_1 : decode cX12_doThings 1 = .ok (.getfield 10, 3) := by decide +kernel
theorem dX12_doThings_4 : decode cX12_doThings 4 = .ok (.getfield 111, 3) := by decide +kernel
theorem dX12_doThings_7 : decode cX12_doThings 7 = .ok (.iload_n 1, 1) := by decide +kernel
theorem dX12_doThings_8 : decode cX12_doThings 8 = .ok (.iconst 1, 1) := by decide +kernel
theorem dX12_doThings_9 : decode cX12_doThings 9 = .ok (.iadd, 1) := by decide +kernel
theorem dX12_doThings_10 : decode cX12_doThings 10 = .ok (.iaload, 1) := by decide +kernel
theorem dX12_doThings_11 : decode cX12_doThings 11 = .ok (.istore_n 3, 1) := by decide +kernel
theorem dX12_doThings_12 : decode cX12_doThings 12 = .ok (.aload_n 0, 1) := by decide +kernel
theorem dX12_doThings_13 : decode cX12_doThings 13 = .ok (.getfield 10, 3) := by decide +kernel
theorem dX12_doThings_16 : decode cX12_doThings 16 = .ok (.getfield 111, 3) := by decide +kernel
theorem dX12_doThings_19 : decode cX12_doThings 19 = .ok (.iload_n 1, 1) := by decide +kernel
theorem dX12_doThings_20 : decode cX12_doThings 20 = .ok (.iconst 2, 1) := by decide +kernel
theorem dX12_doThings_21 : decode cX12_doThings 21 = .ok (.iadd, 1) := by decide +kernel
theorem dX12_doThings_22 : decode cX12_doThings 22 = .ok (.sipush 8000, 3) := by decide +kernel
theorem dX12_doThings_25 : decode cX12_doThings 25 = .ok (.if_icmp .ge 9, 3) := by decide +kernel
theorem dX12_doThings_28 : decode cX12_doThings 28 = .ok (.iload_n 1, 1) := by decide +kernel
theorem dX12_doThings_29 : decode cX12_doThings 29 = .ok (.iconst 2, 1) := by decide +kernel
theorem dX12_doThings_30 : decode cX12_doThings 30 = .ok (.iadd, 1) := by decide +kernel
theorem dX12_doThings_31 : decode cX12_doThings 31 = .ok (.goto 4, 3) := by decide +kernel
theorem dX12_doThings_34 : decode cX12_doThings 34 = .ok (.iload_n 1, 1) := by decide +kernel
theorem dX12_doThings_35 : decode cX12_doThings 35 = .ok (.iaload, 1) := by decide +kernel
theorem dX12_doThings_36 : decode cX12_doThings 36 = .ok (.istore 4, 2) := by decide +kernel
theorem dX12_doThings_38 : decode cX12_doThings 38 = .ok (.iload_n 2, 1) := by decide +kernel
theorem dX12_doThings_39 : decode cX12_doThings 39 = .ok (.tableswitch 362 26 39 #[69, 104, 129, 175, 209, 362, 362, 362, 362, 237, 243, 314, 314, 331], 69) := by decide +kernel
theorem dX12_doThings_108 : decode cX12_doThings 108 = .ok (.aload_n 0, 1) := by decide +kernel
theorem dX12_doThings_109 : decode cX12_doThings 109 = .ok (.iconst 1, 1) := by decide +kernel
theorem dX12_doThings_110 : decode cX12_doThings 110 = .ok (.aload_n 0, 1) := by decide +kernel
theorem dX12_doThings_111 : decode cX12_doThings 111 = .ok (.getfield 10, 3) := by decide +kernel
theorem dX12_doThings_114 : decode cX12_doThings 114 = .ok (.getfield 292, 3) := by decide +kernel
theorem dX12_doThings_117 : decode cX12_doThings 117 = .ok (.iload_n 3, 1) := by decide +kernel
theorem dX12_doThings_118 : decode cX12_doThings 118 = .ok (.iaload, 1) := by decide +kernel
theorem dX12_doThings_119 : decode cX12_doThings 119 = .ok (.iadd, 1) := by decide +kernel
theorem dX12_doThings_120 : decode cX12_doThings 120 = .ok (.invokevirtual 274, 3) := by decide +kernel
theorem dX12_doThings_123 : decode cX12_doThings 123 = .ok (.ifCond .ne 8, 3) := by decide +kernel
theorem dX12_doThings_126 : decode cX12_doThings 126 = .ok (.aload_n 0, 1) := by decide +kernel
theorem dX12_doThings_127 : decode cX12_doThings 127 = .ok (.invokevirtual 326, 3) := by decide +kernel
theorem dX12_doThings_130 : decode cX12_doThings 130 = .ok (.ireturn, 1) := by decide +kernel
theorem dX12_doThings_131 : decode cX12_doThings 131 = .ok (.aload_n 0, 1) := by decide +kernel
theorem dX12_doThings_132 : decode cX12_doThings 132 = .ok (.aload_n 0, 1) := by decide +kernel
theorem dX12_doThings_133 : decode cX12_doThings 133 = .ok (.iload_n 3, 1) := by decide +kernel
theorem dX12_doThings_134 : decode cX12_doThings 134 = .ok (.invokevirtual 329, 3) := by decide +kernel
theorem dX12_doThings_137 : decode cX12_doThings 137 = .ok (.invokevirtual 332, 3) := by decide +kernel
theorem dX12_doThings_140 : decode cX12_doThings 140 = .ok (.goto 269, 3) := by decide +kernel
theorem dX12_doThings_143 : decode cX12_doThings 143 = .ok (.aload_n 0, 1) := by decide +kernel
theorem dX12_doThings_144 : decode cX12_doThings 144 = .ok (.iconst 0, 1) := by decide +kernel
theorem dX12_doThings_145 : decode cX12_doThings 145 = .ok (.invokevirtual 347, 3) := by decide +kernel
theorem dX12_doThings_148 : decode cX12_doThings 148 = .ok (.iconst (-1), 1) := by decide +kernel
theorem dX12_doThings_149 : decode cX12_doThings 149 = .ok (.if_icmp .ne 9, 3) := by decide +kernel
theorem dX12_doThings_152 : decode cX12_doThings 152 = .ok (.aload_n 0, 1) := by decide +kernel
theorem dX12_doThings_153 : decode cX12_doThings 153 = .ok (.iconst 0, 1) := by decide +kernel
theorem dX12_doThings_154 : decode cX12_doThings 154 = .ok (.invokevirtual 350, 3) := by decide +kernel
theorem dX12_doThings_157 : decode cX12_doThings 157 = .ok (.ireturn, 1) := by decide +kernel
theorem dX12_doThings_158 : decode cX12_doThings 158 = .ok (.aload_n 0, 1) := by decide +kernel
theorem dX12_doThings_159 : decode cX12_doThings 159 = .ok (.iload_n 3, 1) := by decide +kernel
theorem dX12_doThings_160 : decode cX12_doThings 160 = .ok (.iload 4, 2) := by decide +kernel
theorem dX12_doThings_162 : decode cX12_doThings 162 = .ok (.invokevirtual 375, 3) := by decide +kernel
theorem dX12_doThings_165 : decode cX12_doThings 165 = .ok (.goto 244, 3) := by decide +kernel
theorem dX12_doThings_168 : decode cX12_doThings 168 = .ok (.aload_n 0, 1) := by decide +kernel
theorem dX12_doThings_169 : decode cX12_doThings 169 = .ok (.iconst 1, 1) := by decide +kernel
theorem dX12_doThings_170 : decode cX12_doThings 170 = .ok (.invokevirtual 347, 3) := by decide +kernel
theorem dX12_doThings_173 : decode cX12_doThings 173 = .ok (.iconst (-1), 1) := by decide +kernel
theorem dX12_doThings_174 : decode cX12_doThings 174 = .ok (.if_icmp .ne 9, 3) := by decide +kernel
theorem dX12_doThings_177 : decode cX12_doThings 177 = .ok (.aload_n 0, 1) := by decide +kernel
theorem dX12_doThings_178 : decode cX12_doThings 178 = .ok (.iconst 0, 1) := by decide +kernel
theorem dX12_doThings_179 : decode cX12_doThings 179 = .ok (.invokevirtual 350, 3) := by decide +kernel
theorem dX12_doThings_182 : decode cX12_doThings 182 = .ok (.ireturn, 1) := by decide +kernel
theorem dX12_doThings_183 : decode cX12_doThings 183 = .ok (.aload_n 0, 1) := by decide +kernel
theorem dX12_doThings_184 : decode cX12_doThings 184 = .ok (.getfield 199, 3) := by decide +kernel
theorem dX12_doThings_187 : decode cX12_doThings 187 = .ok (.aload_n 0, 1) := by decide +kernel
theorem dX12_doThings_188 : decode cX12_doThings 188 = .ok (.getfield 192, 3) := by decide +kernel
theorem dX12_doThings_191 : decode cX12_doThings 191 = .ok (.aload_n 0, 1) := by decide +kernel
theorem dX12_doThings_192 : decode cX12_doThings 192 = .ok (.iconst 1, 1) := by decide +kernel
theorem dX12_doThings_193 : decode cX12_doThings 193 = .ok (.invokevirtual 347, 3) := by decide +kernel
theorem dX12_doThings_196 : decode cX12_doThings 196 = .ok (.iaload, 1) := by decide +kernel
theorem dX12_doThings_197 : decode cX12_doThings 197 = .ok (.iload 4, 2) := by decide +kernel
theorem dX12_doThings_199 : decode cX12_doThings 199 = .ok (.iadd, 1) := by decide +kernel
theorem dX12_doThings_200 : decode cX12_doThings 200 = .ok (.aload_n 0, 1) := by decide +kernel
theorem dX12_doThings_201 : decode cX12_doThings 201 = .ok (.iconst 0, 1) := by decide +kernel
theorem dX12_doThings_202 : decode cX12_doThings 202 = .ok (.invokevirtual 347, 3) := by decide +kernel
theorem dX12_doThings_205 : decode cX12_doThings 205 = .ok (.iastore, 1) := by decide +kernel
theorem dX12_doThings_206 : decode cX12_doThings 206 = .ok (.aload_n 0, 1) := by decide +kernel
theorem dX12_doThings_207 : decode cX12_doThings 207 = .ok (.iconst 2, 1) := by decide +kernel
theorem dX12_doThings_208 : decode cX12_doThings 208 = .ok (.invokevirtual 359, 3) := by decide +kernel
theorem dX12_doThings_211 : decode cX12_doThings 211 = .ok (.goto 198, 3) := by decide +kernel
theorem dX12_doThings_214 : decode cX12_doThings 214 = .ok (.aload_n 0, 1) := by decide +kernel
theorem dX12_doThings_215 : decode cX12_doThings 215 = .ok (.aload_n 0, 1) := by decide +kernel
theorem dX12_doThings_216 : decode cX12_doThings 216 = .ok (.iconst 0, 1) := by decide +kernel
theorem dX12_doThings_217 : decode cX12_doThings 217 = .ok (.invokevirtual 347, 3) := by decide +kernel
theorem dX12_doThings_220 : decode cX12_doThings 220 = .ok (.iload_n 3, 1) := by decide +kernel
theorem dX12_doThings_221 : decode cX12_doThings 221 = .ok (.invokevirtual 378, 3) := by decide +kernel
theorem dX12_doThings_224 : decode cX12_doThings 224 = .ok (.istore 5, 2) := by decide +kernel
theorem dX12_doThings_226 : decode cX12_doThings 226 = .ok (.aload_n 0, 1) := by decide +kernel
theorem dX12_doThings_227 : decode cX12_doThings 227 = .ok (.iconst 1, 1) := by decide +kernel
theorem dX12_doThings_228 : decode cX12_doThings 228 = .ok (.invokevirtual 359, 3) := by decide +kernel
theorem dX12_doThings_231 : decode cX12_doThings 231 = .ok (.aload_n 0, 1) := by decide +kernel
theorem dX12_doThings_232 : decode cX12_doThings 232 = .ok (.iload 5, 2) := by decide +kernel
theorem dX12_doThings_234 : decode cX12_doThings 234 = .ok (.ifCond .eq 7, 3) := by decide +kernel
theorem dX12_doThings_237 : decode cX12_doThings 237 = .ok (.iconst 1, 1) := by decide +kernel
theorem dX12_doThings_238 : decode cX12_doThings 238 = .ok (.goto 4, 3) := by decide +kernel
theorem dX12_doThings_241 : decode cX12_doThings 241 = .ok (.iconst 0, 1) := by decide +kernel
theorem dX12_doThings_242 : decode cX12_doThings 242 = .ok (.invokevirtual 366, 3) := by decide +kernel
theorem dX12_doThings_245 : decode cX12_doThings 245 = .ok (.goto 164, 3) := by decide +kernel
theorem dX12_doThings_248 : decode cX12_doThings 248 = .ok (.aload_n 0, 1) := by decide +kernel
theorem dX12_doThings_249 : decode cX12_doThings 249 = .ok (.iconst 0, 1) := by decide +kernel
theorem dX12_doThings_250 : decode cX12_doThings 250 = .ok (.invokevirtual 347, 3) := by decide +kernel
theorem dX12_doThings_253 : decode cX12_doThings 253 = .ok (.iconst (-1), 1) := by decide +kernel
theorem dX12_doThings_254 : decode cX12_doThings 254 = .ok (.if_icmp .eq 155, 3) := by decide +kernel
theorem dX12_doThings_257 : decode cX12_doThings 257 = .ok (.aload_n 0, 1) := by decide +kernel
theorem dX12_doThings_258 : decode cX12_doThings 258 = .ok (.aload_n 0, 1) := by decide +kernel
theorem dX12_doThings_259 : decode cX12_doThings 259 = .ok (.iconst 0, 1) := by decide +kernel
theorem dX12_doThings_260 : decode cX12_doThings 260 = .ok (.invokevirtual 347, 3) := by decide +kernel
theorem dX12_doThings_263 : decode cX12_doThings 263 = .ok (.iload_n 3, 1) := by decide +kernel
theorem dX12_doThings_264 : decode cX12_doThings 264 = .ok (.invokevirtual 378, 3) := by decide +kernel
theorem dX12_doThings_267 : decode cX12_doThings 267 = .ok (.ifCond .ne 142, 3) := by decide +kernel
theorem dX12_doThings_270 : decode cX12_doThings 270 = .ok (.aload_n 0, 1) := by decide +kernel
theorem dX12_doThings_271 : decode cX12_doThings 271 = .ok (.iconst 3, 1) := by decide +kernel
theorem dX12_doThings_272 : decode cX12_doThings 272 = .ok (.invokevirtual 350, 3) := by decide +kernel
theorem dX12_doThings_275 : decode cX12_doThings 275 = .ok (.ireturn, 1) := by decide +kernel
theorem dX12_doThings_276 : decode cX12_doThings 276 = .ok (.aload_n 0, 1) := by decide +kernel
theorem dX12_doThings_277 : decode cX12_doThings 277 = .ok (.iload_n 3, 1) := by decide +kernel
theorem dX12_doThings_278 : decode cX12_doThings 278 = .ok (.invokevirtual 381, 3) := by decide +kernel
theorem dX12_doThings_281 : decode cX12_doThings 281 = .ok (.ireturn, 1) := by decide +kernel
theorem dX12_doThings_282 : decode cX12_doThings 282 = .ok (.aload_n 0, 1) := by decide +kernel
theorem dX12_doThings_283 : decode cX12_doThings 283 = .ok (.aload_n 0, 1) := by decide +kernel
theorem dX12_doThings_284 : decode cX12_doThings 284 = .ok (.getfield 10, 3) := by decide +kernel
theorem dX12_doThings_287 : decode cX12_doThings 287 = .ok (.getfield 68, 3) := by decide +kernel
theorem dX12_doThings_290 : decode cX12_doThings 290 = .ok (.aload_n 0, 1) := by decide +kernel
theorem dX12_doThings_291 : decode cX12_doThings 291 = .ok (.getfield 10, 3) := by decide +kernel
theorem dX12_doThings_294 : decode cX12_doThings 294 = .ok (.getfield 108, 3) := by decide +kernel
theorem dX12_doThings_297 : decode cX12_doThings 297 = .ok (.bipush 16, 2) := by decide +kernel
theorem dX12_doThings_299 : decode cX12_doThings 299 = .ok (.iload_n 3, 1) := by decide +kernel
theorem dX12_doThings_300 : decode cX12_doThings 300 = .ok (.imul, 1) := by decide +kernel
theorem dX12_doThings_301 : decode cX12_doThings 301 = .ok (.iload 4, 2) := by decide +kernel
theorem dX12_doThings_303 : decode cX12_doThings 303 = .ok (.iadd, 1) := by decide +kernel
theorem dX12_doThings_304 : decode cX12_doThings 304 = .ok (.iaload, 1) := by decide +kernel
theorem dX12_doThings_305 : decode cX12_doThings 305 = .ok (.iaload, 1) := by decide +kernel
theorem dX12_doThings_306 : decode cX12_doThings 306 = .ok (.iconst 1, 1) := by decide +kernel
theorem dX12_doThings_307 : decode cX12_doThings 307 = .ok (.isub, 1) := by decide +kernel
theorem dX12_doThings_308 : decode cX12_doThings 308 = .ok (.invokevirtual 347, 3) := by decide +kernel
theorem dX12_doThings_311 : decode cX12_doThings 311 = .ok (.istore 6, 2) := by decide +kernel
theorem dX12_doThings_313 : decode cX12_doThings 313 = .ok (.iload 6, 2) := by decide +kernel
theorem dX12_doThings_315 : decode cX12_doThings 315 = .ok (.iconst (-1), 1) := by decide +kernel
theorem dX12_doThings_316 : decode cX12_doThings 316 = .ok (.if_icmp .ne 11, 3) := by decide +kernel
theorem dX12_doThings_319 : decode cX12_doThings 319 = .ok (.aload_n 0, 1) := by decide +kernel
theorem dX12_doThings_320 : decode cX12_doThings 320 = .ok (.iconst 0, 1) := by decide +kernel
theorem dX12_doThings_321 : decode cX12_doThings 321 = .ok (.invokevirtual 350, 3) := by decide +kernel
theorem dX12_doThings_324 : decode cX12_doThings 324 = .ok (.goto 28, 3) := by decide +kernel
theorem dX12_doThings_327 : decode cX12_doThings 327 = .ok (.aload_n 0, 1) := by decide +kernel
theorem dX12_doThings_328 : decode cX12_doThings 328 = .ok (.aload_n 0, 1) := by decide +kernel
theorem dX12_doThings_329 : decode cX12_doThings 329 = .ok (.getfield 10, 3) := by decide +kernel
theorem dX12_doThings_332 : decode cX12_doThings 332 = .ok (.getfield 108, 3) := by decide +kernel
theorem dX12_doThings_335 : decode cX12_doThings 335 = .ok (.bipush 16, 2) := by decide +kernel
theorem dX12_doThings_337 : decode cX12_doThings 337 = .ok (.aload_n 0, 1) := by decide +kernel
theorem dX12_doThings_338 : decode cX12_doThings 338 = .ok (.getfield 183, 3) := by decide +kernel
theorem dX12_doThings_341 : decode cX12_doThings 341 = .ok (.iload 6, 2) := by decide +kernel
theorem dX12_doThings_343 : decode cX12_doThings 343 = .ok (.iaload, 1) := by decide +kernel
theorem dX12_doThings_344 : decode cX12_doThings 344 = .ok (.imul, 1) := by decide +kernel
theorem dX12_doThings_345 : decode cX12_doThings 345 = .ok (.iload 4, 2) := by decide +kernel
theorem dX12_doThings_347 : decode cX12_doThings 347 = .ok (.iadd, 1) := by decide +kernel
theorem dX12_doThings_348 : decode cX12_doThings 348 = .ok (.iaload, 1) := by decide +kernel
theorem dX12_doThings_349 : decode cX12_doThings 349 = .ok (.invokevirtual 381, 3) := by decide +kernel
theorem dX12_doThings_352 : decode cX12_doThings 352 = .ok (.ireturn, 1) := by decide +kernel
theorem dX12_doThings_353 : decode cX12_doThings 353 = .ok (.aload_n 0, 1) := by decide +kernel
theorem dX12_doThings_354 : decode cX12_doThings 354 = .ok (.iload_n 2, 1) := by decide +kernel
theorem dX12_doThings_355 : decode cX12_doThings 355 = .ok (.bipush 38, 2) := by decide +kernel
theorem dX12_doThings_357 : decode cX12_doThings 357 = .ok (.if_icmp .ne 7, 3) := by decide +kernel
theorem dX12_doThings_360 : decode cX12_doThings 360 = .ok (.iconst 1, 1) := by decide +kernel
theorem dX12_doThings_361 : decode cX12_doThings 361 = .ok (.goto 4, 3) := by decide +kernel
theorem dX12_doThings_364 : decode cX12_doThings 364 = .ok (.iconst 0, 1) := by decide +kernel
theorem dX12_doThings_365 : decode cX12_doThings 365 = .ok (.invokevirtual 384, 3) := by decide +kernel
theorem dX12_doThings_368 : decode cX12_doThings 368 = .ok (.iconst 1, 1) := by decide +kernel
theorem dX12_doThings_369 : decode cX12_doThings 369 = .ok (.ireturn, 1) := by decide +kernel
theorem dX12_doThings_370 : decode cX12_doThings 370 = .ok (.aload_n 0, 1) := by decide +kernel
theorem dX12_doThings_371 : decode cX12_doThings 371 = .ok (.iconst 0, 1) := by decide +kernel
theorem dX12_doThings_372 : decode cX12_doThings 372 = .ok (.invokevirtual 347, 3) := by decide +kernel
theorem dX12_doThings_375 : decode cX12_doThings 375 = .ok (.iconst (-1), 1) := by decide +kernel
theorem dX12_doThings_376 : decode cX12_doThings 376 = .ok (.if_icmp .ne 9, 3) := by decide +kernel
theorem dX12_doThings_379 : decode cX12_doThings 379 = .ok (.aload_n 0, 1) := by decide +kernel
theorem dX12_doThings_380 : decode cX12_doThings 380 = .ok (.iconst 0, 1) := by decide +kernel
theorem dX12_doThings_381 : decode cX12_doThings 381 = .ok (.invokevirtual 350, 3) := by decide +kernel
theorem dX12_doThings_384 : decode cX12_doThings 384 = .ok (.ireturn, 1) := by decide +kernel
theorem dX12_doThings_385 : decode cX12_doThings 385 = .ok (.aload_n 0, 1) := by decide +kernel
theorem dX12_doThings_386 : decode cX12_doThings 386 = .ok (.iconst 1, 1) := by decide +kernel
theorem dX12_doThings_387 : decode cX12_doThings 387 = .ok (.putfield 259, 3) := by decide +kernel
theorem dX12_doThings_390 : decode cX12_doThings 390 = .ok (.aload_n 0, 1) := by decide +kernel
theorem dX12_doThings_391 : decode cX12_doThings 391 = .ok (.aload_n 0, 1) := by decide +kernel
theorem dX12_doThings_392 : decode cX12_doThings 392 = .ok (.iconst 0, 1) := by decide +kernel
theorem dX12_doThings_393 : decode cX12_doThings 393 = .ok (.invokevirtual 347, 3) := by decide +kernel
theorem dX12_doThings_396 : decode cX12_doThings 396 = .ok (.putfield 301, 3) := by decide +kernel
theorem dX12_doThings_399 : decode cX12_doThings 399 = .ok (.iconst 1, 1) := by decide +kernel
theorem dX12_doThings_400 : decode cX12_doThings 400 = .ok (.ireturn, 1) := by decide +kernel
theorem dX12_doThings_401 : decode cX12_doThings 401 = .ok (.aload_n 0, 1) := by decide +kernel
theorem dX12_doThings_402 : decode cX12_doThings 402 = .ok (.iload_n 1, 1) := by decide +kernel
theorem dX12_doThings_403 : decode cX12_doThings 403 = .ok (.iload_n 2, 1) := by decide +kernel
theorem dX12_doThings_404 : decode cX12_doThings 404 = .ok (.iload_n 3, 1) := by decide +kernel
theorem dX12_doThings_405 : decode cX12_doThings 405 = .ok (.invokevirtual 388, 3) := by decide +kernel
theorem dX12_doThings_408 : decode cX12_doThings 408 = .ok (.ireturn, 1) := by decide +kernel
theorem dX12_doThings_409 : decode cX12_doThings 409 = .ok (.aload_n 0, 1) := by decide +kernel
theorem dX12_doThings_410 : decode cX12_doThings 410 = .ok (.iload_n 1, 1) := by decide +kernel
theorem dX12_doThings_411 : decode cX12_doThings 411 = .ok (.invokevirtual 356, 3) := by decide +kernel
theorem dX12_doThings_414 : decode cX12_doThings 414 = .ok (.iconst 1, 1) := by decide +kernel
theorem dX12_doThings_415 : decode cX12_doThings 415 = .ok (.ireturn, 1) := by decide +kernel
def wp_X12_doThings : List Cond := .code yX12_doThings cX12_doThings 7 (some .boolean) :: (((((((((((((((([.fieldLink RX12 10 "SteadyMachineModel" "image" "LSteadyMachineModel$Image;", .fieldLink RX12 199 "SteadyMachineModel" "cells" "[I", .fieldLink RX12 192 "SteadyMachineModel" "begins" "[I", .fieldLink RX12 183 "SteadyMachineModel" "infos" "[I", .fieldLink RX12 259 "SteadyMachineModel" "flies" "Z", .fieldLink RX12 301 "SteadyMachineModel" "flying" "I"] ++ (wsV RX12 356 RX12 yX12_onward wp_X12_onward)) ++ (wsV RX12 384 RX12 yX12_give wp_X12_give)) ++ (wsV RX12 366 RX12 yX12_putInt wp_X12_putInt)) ++ (wsV RX12 274 RX12 yX12_make wp_X12_make)) ++ (wsV RX12 329 RX12 yX12_object wp_X12_object)) ++ (wsV RX12 332 RX12 yX12_putThing wp_X12_putThing)) ++ (wsV RX12 326 RX12 yX12_noRoom wp_X12_noRoom)) ++ (wsV RX12 347 RX12 yX12_value wp_X12_value)) ++ (wsV RX12 375 RX12 yX12_getField wp_X12_getField)) ++ (wsV RX12 350 RX12 yX12_fault wp_X12_fault)) ++ (wsV RX12 359 RX12 yX12_drop wp_X12_drop)) ++ (wsV RX12 378 RX12 yX12_isOne wp_X12_isOne)) ++ (wsV RX12 388 RX12 yX12_doRow wp_X12_doRow)) ++ (wsV RX12 381 RX12 yX12_call wp_X12_call)) ++ wsX110) ++ wsX120)
theorem wq_X12_doThings : wp_X12_doThings.all goodWord = true := wa_c rfl (wa_a (wa_a (wa_a (wa_a (wa_a (wa_a (wa_a (wa_a (wa_a (wa_a (wa_a (wa_a (wa_a (wa_a (wa_a (wa_a (by decide +kernel) (wa_V wq_X12_onward)) (wa_V wq_X12_give)) (wa_V wq_X12_putInt)) (wa_V wq_X12_make)) (wa_V wq_X12_object)) (wa_V wq_X12_putThing)) (wa_V wq_X12_noRoom)) (wa_V wq_X12_value)) (wa_V wq_X12_getField)) (wa_V wq_X12_fault)) (wa_V wq_X12_drop)) (wa_V wq_X12_isOne)) (wa_V wq_X12_doRow)) (wa_V wq_X12_call)) uq_X11) uq_X12)
set_option maxRecDepth 200000 in
theorem wt_X12_doThings : GoodIn lw_tbl wp_X12_doThings := wm_c (List.mem_of_getElem? (i := 1708) rfl) rfl (wm_a (wm_a (wm_a (wm_a (wm_a (wm_a (wm_a (wm_a (wm_a (wm_a (wm_a (wm_a (wm_a (wm_a (wm_a (wm_a (goodIn_r _ [1490, 1506, 1502, 1499, 1514, 1515] (by decide +kernel) (by decide +kernel)) (wm_a (goodIn_r _ [1701, 1703, 118, 147] (by decide +kernel) (by decide +kernel)) wt_X12_onward)) (wm_a (goodIn_r _ [1749, 1751, 130, 147] (by decide +kernel) (by decide +kernel)) wt_X12_give)) (wm_a (goodIn_r _ [1733, 1735, 126, 147] (by decide +kernel) (by decide +kernel)) wt_X12_putInt)) (wm_a (goodIn_r _ [1630, 1632, 102, 147] (by decide +kernel) (by decide +kernel)) wt_X12_make)) (wm_a (goodIn_r _ [1713, 1715, 121, 147] (by decide +kernel) (by decide +kernel)) wt_X12_object)) (wm_a (goodIn_r _ [1674, 1676, 112, 147] (by decide +kernel) (by decide +kernel)) wt_X12_putThing)) (wm_a (goodIn_r _ [1709, 1711, 120, 147] (by decide +kernel) (by decide +kernel)) wt_X12_noRoom)) (wm_a (goodIn_r _ [1690, 1692, 116, 147] (by decide +kernel) (by decide +kernel)) wt_X12_value)) (wm_a (goodIn_r _ [1729, 1731, 125, 147] (by decide +kernel) (by decide +kernel)) wt_X12_getField)) (wm_a (goodIn_r _ [1725, 1727, 124, 147] (by decide +kernel) (by decide +kernel)) wt_X12_fault)) (wm_a (goodIn_r _ [1697, 1699, 117, 147] (by decide +kernel) (by decide +kernel)) wt_X12_drop)) (wm_a (goodIn_r _ [1737, 1739, 127, 147] (by decide +kernel) (by decide +kernel)) wt_X12_isOne)) (wm_a (goodIn_r _ [1753, 1755, 131, 147] (by decide +kernel) (by decide +kernel)) wt_X12_doRow)) (wm_a (goodIn_r _ [1741, 1743, 128, 147] (by decide +kernel) (by decide +kernel)) wt_X12_call)) ut_X11) ut_X12)
theorem wg_X12_doThings_X12_onward_356 : GoodIn wp_X12_doThings (wsV RX12 356 RX12 yX12_onward wp_X12_onward) := goodIn_sub (fun w h => List.mem_cons_of_mem _ (List.mem_append_left _ (List.mem_append_left _ (List.mem_append_left _ (List.mem_append_left _ (List.mem_append_left _ (List.mem_append_left _ (List.mem_append_left _ (List.mem_append_left _ (List.mem_append_left _ (List.mem_append_left _ (List.mem_append_left _ (List.mem_append_left _ (List.mem_append_left _ (List.mem_append_left _ (List.mem_append_left _ (List.mem_append_right _ h))))))))))))))))) (wa_V wq_X12_onward)
theorem wg_X12_doThings_X12_give_384 : GoodIn wp_X12_doThings (wsV RX12 384 RX12 yX12_give wp_X12_give) := goodIn_sub (fun w h => List.mem_cons_of_mem _ (List.mem_append_left _ (List.mem_append_left _ (List.mem_append_left _ (List.mem_append_left _ (List.mem_append_left _ (List.mem_append_left _ (List.mem_append_left _ (List.mem_append_left _ (List.mem_append_left _ (List.mem_append_left _ (List.mem_append_left _ (List.mem_append_left _ (List.mem_append_left _ (List.mem_append_left _ (List.mem_append_right _ h)))))))))))))))) (wa_V wq_X12_give)
theorem wg_X12_doThings_X12_putInt_366 : GoodIn wp_X12_doThings (wsV RX12 366 RX12 yX12_putInt wp_X12_putInt) := goodIn_sub (fun w h => List.mem_cons_of_mem _ (List.mem_append_left _ (List.mem_append_left _ (List.mem_append_left _ (List.mem_append_left _ (List.mem_append_left _ (List.mem_append_left _ (List.mem_append_left _ (List.mem_append_left _ (List.mem_append_left _ (List.mem_append_left _ (List.mem_append_left _ (List.mem_append_left _ (List.mem_append_left _ (List.mem_append_right _ h))))))))))))))) (wa_V wq_X12_putInt)
theorem wg_X12_doThings_X12_make_274 : GoodIn wp_X12_doThings (wsV RX12 274 RX12 yX12_make wp_X12_make) := goodIn_sub (fun w h => List.mem_cons_of_mem _ (List.mem_append_left _ (List.mem_append_left _ (List.mem_append_left _ (List.mem_append_left _ (List.mem_append_left _ (List.mem_append_left _ (List.mem_append_left _ (List.mem_append_left _ (List.mem_append_left _ (List.mem_append_left _ (List.mem_append_left _ (List.mem_append_left _ (List.mem_append_right _ h)))))))))))))) (wa_V wq_X12_make)
theorem wg_X12_doThings_X12_object_329 : GoodIn wp_X12_doThings (wsV RX12 329 RX12 yX12_object wp_X12_object) := goodIn_sub (fun w h => List.mem_cons_of_mem _ (List.mem_append_left _ (List.mem_append_left _ (List.mem_append_left _ (List.mem_append_left _ (List.mem_append_left _ (List.mem_append_left _ (List.mem_append_left _ (List.mem_append_left _ (List.mem_append_left _ (List.mem_append_left _ (List.mem_append_left _ (List.mem_append_right _ h))))))))))))) (wa_V wq_X12_object)
theorem wg_X12_doThings_X12_putThing_332 : GoodIn wp_X12_doThings (wsV RX12 332 RX12 yX12_putThing wp_X12_putThing) := goodIn_sub (fun w h => List.mem_cons_of_mem _ (List.mem_append_left _ (List.mem_append_left _ (List.mem_append_left _ (List.mem_append_left _ (List.mem_append_left _ (List.mem_append_left _ (List.mem_append_left _ (List.mem_append_left _ (List.mem_append_left _ (List.mem_append_left _ (List.mem_append_right _ h)))))))))))) (wa_V wq_X12_putThing)
theorem wg_X12_doThings_X12_noRoom_326 : GoodIn wp_X12_doThings (wsV RX12 326 RX12 yX12_noRoom wp_X12_noRoom) := goodIn_sub (fun w h => List.mem_cons_of_mem _ (List.mem_append_left _ (List.mem_append_left _ (List.mem_append_left _ (List.mem_append_left _ (List.mem_append_left _ (List.mem_append_left _ (List.mem_append_left _ (List.mem_append_left _ (List.mem_append_left _ (List.mem_append_right _ h))))))))))) (wa_V wq_X12_noRoom)
theorem wg_X12_doThings_X12_value_347 : GoodIn wp_X12_doThings (wsV RX12 347 RX12 yX12_value wp_X12_value) := goodIn_sub (fun w h => List.mem_cons_of_mem _ (List.mem_append_left _ (List.mem_append_left _ (List.mem_append_left _ (List.mem_append_left _ (List.mem_append_left _ (List.mem_append_left _ (List.mem_append_left _ (List.mem_append_left _ (List.mem_append_right _ h)))))))))) (wa_V wq_X12_value)
theorem wg_X12_doThings_X12_getField_375 : GoodIn wp_X12_doThings (wsV RX12 375 RX12 yX12_getField wp_X12_getField) := goodIn_sub (fun w h => List.mem_cons_of_mem _ (List.mem_append_left _ (List.mem_append_left _ (List.mem_append_left _ (List.mem_append_left _ (List.mem_append_left _ (List.mem_append_left _ (List.mem_append_left _ (List.mem_append_right _ h))))))))) (wa_V wq_X12_getField)
theorem wg_X12_doThings_X12_fault_350 : GoodIn wp_X12_doThings (wsV RX12 350 RX12 yX12_fault wp_X12_fault) := goodIn_sub (fun w h => List.mem_cons_of_mem _ (List.mem_append_left _ (List.mem_append_left _ (List.mem_append_left _ (List.mem_append_left _ (List.mem_append_left _ (List.mem_append_left _ (List.mem_append_right _ h)))))))) (wa_V wq_X12_fault)
theorem wg_X12_doThings_X12_drop_359 : GoodIn wp_X12_doThings (wsV RX12 359 RX12 yX12_drop wp_X12_drop) := goodIn_sub (fun w h => List.mem_cons_of_mem _ (List.mem_append_left _ (List.mem_append_left _ (List.mem_append_left _ (List.mem_append_left _ (List.mem_append_left _ (List.mem_append_right _ h))))))) (wa_V wq_X12_drop)
theorem wg_X12_doThings_X12_isOne_378 : GoodIn wp_X12_doThings (wsV RX12 378 RX12 yX12_isOne wp_X12_isOne) := goodIn_sub (fun w h => List.mem_cons_of_mem _ (List.mem_append_left _ (List.mem_append_left _ (List.mem_append_left _ (List.mem_append_left _ (List.mem_append_right _ h)))))) (wa_V wq_X12_isOne)
theorem wg_X12_doThings_X12_doRow_388 : GoodIn wp_X12_doThings (wsV RX12 388 RX12 yX12_doRow wp_X12_doRow) := goodIn_sub (fun w h => List.mem_cons_of_mem _ (List.mem_append_left _ (List.mem_append_left _ (List.mem_append_left _ (List.mem_append_right _ h))))) (wa_V wq_X12_doRow)
theorem wg_X12_doThings_X12_call_381 : GoodIn wp_X12_doThings (wsV RX12 381 RX12 yX12_call wp_X12_call) := goodIn_sub (fun w h => List.mem_cons_of_mem _ (List.mem_append_left _ (List.mem_append_left _ (List.mem_append_right _ h)))) (wa_V wq_X12_call)
theorem wi_X12_doThings_X11 : ∀ w ∈ wsX110, w ∈ wp_X12_doThings := fun w h => List.mem_cons_of_mem _ (List.mem_append_left _ (List.mem_append_right _ h))
theorem wi_X12_doThings_X12 : ∀ w ∈ wsX120, w ∈ wp_X12_doThings := fun w h => List.mem_cons_of_mem _ (List.mem_append_right _ h)
set_option maxHeartbeats 4000000 in
set_option maxRecDepth 100000 in
theorem c_X12_doThings (l : Launch) (D : va_G) (sz t0 : Nat) (σ : sm_S) (α : sm_A) (p1 : Int32) (p2 : Int32) (K : Int32 → sm_S → Prop) (hF : mp_X12_doThings σ p1 p2 K) : Met l yX12_doThings wp_X12_doThings { frames := 7, cells := 0, slots := 0, locals := 175 } (sm_P sm_wM sm_tM 40 D sz t0 σ α [.ref (α.1 1), .int p1, .int p2]) (va_Qi K (sm_B sm_wM D α) (sm_a α 40 sz)) 0 0 (sm_a α 40 sz) := by
  refine Met.ofW (cc := cX12_doThings) (maxL := 7) (ret := (some .boolean)) (by decide) rfl ?_
  intro p e s m args below meth c s₁ B hml hv
  obtain ⟨rfl, hsz, hP, hK, hD0, hE⟩ := hv
  have hx := B.exec
  have hb := B.bytes
  have hr := B.returns
  have hts := atoms_spec (ws := wp_X12_doThings) B.pre
  have hown : s.vm.findClass RX12 = some m.cls := findClass_of_methodNamed B.named
  have hlocks := B.notSynchronized
  subst hsz
  have hD : sm_D (sm_a α 40 s.heap.size) α 40 := hD0.own
  have hA : ∀ q : Nat, s.heap.size ≤ q → sm_a α 40 s.heap.size q := fun q h => Or.inr h
  generalize hAe : sm_a α 40 s.heap.size = A at hD hA hE ⊢
  have hS : va_S A s.heap s.heap [] := va_S.rf
  have in_X11 : ∀ w ∈ wsX110, w ∈ wp_X12_doThings := wi_X12_doThings_X11
  have in_X12 : ∀ w ∈ wsX120, w ∈ wp_X12_doThings := wi_X12_doThings_X12
  have k_0 := hts (.fieldLink RX12 10 "SteadyMachineModel" "image" "LSteadyMachineModel$Image;") (by decide +kernel)
  have k_1 := hts (.fieldLink RX12 199 "SteadyMachineModel" "cells" "[I") (by decide +kernel)
  have k_2 := hts (.fieldLink RX12 192 "SteadyMachineModel" "begins" "[I") (by decide +kernel)
  have k_3 := hts (.fieldLink RX12 183 "SteadyMachineModel" "infos" "[I") (by decide +kernel)
  have k_4 := hts (.fieldLink RX12 259 "SteadyMachineModel" "flies" "Z") (by decide +kernel)
  have k_5 := hts (.fieldLink RX12 301 "SteadyMachineModel" "flying" "I") (by decide +kernel)
  have hl := lv_entry ([.ref (α.1 1), .int p1, .int p2]) (n := 7) (Nat.le_of_ble_eq_true rfl)
  rw [lg_entry_eq]
  generalize (lg_sl ([.ref (α.1 1), .int p1, .int p2]) ++ List.replicate (7 - (lg_sl ([.ref (α.1 1), .int p1, .int p2])).length) Slot.unset).toArray = ls at hl ⊢
  have hl : lv_has ls 7 [(0, .ref (α.1 1)), (1, .int p1), (2, .int p2)] := hl
  have B409 : ∀ (σ : sm_S) (x1 : Int32), mp_X12_doThings_409 K σ x1 → sm_J p l e (headSpec wp_X12_doThings { frames := 7, cells := 0, slots := 0, locals := 175 }).room s m ([.ref (α.1 1), .int p1, .int p2] : List Value).toArray below meth c (MQ below (va_Qi K (sm_B sm_wM D α) A) ([.ref (α.1 1), .int p1, .int p2] : List Value).toArray s 0 0 A) D A 7 (sm_wM σ α) 409 [(0, .ref (α.1 1)), (1, .int x1)] [] := by
    intro σ x1 hF H locs ls hP hS hl
    unfold mp_X12_doThings_409 at hF
    refine lv_aload_n hx hb dX12_doThings_409 rfl (lv_at hl 0 rfl) ?_
    refine lv_iload_n hx hb dX12_doThings_410 rfl (lv_at hl 1 rfl) ?_
    refine sm_vv (As := [.int x1]) (rest := []) hP hK hD hE hS hA ⟨hx, hb, hml, hown, hts⟩ hl.1 (c_X12_onward l D H.size t0 σ α x1 _ hF) (cwV 1 hts wg_X12_doThings_X12_onward_356 rfl rfl rfl (by decide +kernel) ⟨Nat.le_of_ble_eq_true rfl, Nat.le_of_ble_eq_true rfl⟩) (va_recv hK hP (ci := 12) (q0 := 1) rfl (sm_gX12 σ α)) rfl rfl (Nat.le_of_ble_eq_true rfl) dX12_doThings_411 ⟨Nat.zero_le _, Nat.zero_le _⟩ (fun σ1 H locs hF hP hS => ?_)
    refine lv_iconst (v := 1) hx hb dX12_doThings_414 (by decide) ?_
    exact W.zret (v := 1) hx hb hr sm_z1.1 (fun t ht hW => ⟨⟨1, σ1, rfl, hF, (by unfold sm_B; rw [ht]; exact hP)⟩, hS.F ht⟩) hS.2.2 dX12_doThings_415
  have B365 : ∀ (σ : sm_S) (y1 : Int32), mp_X12_doThings_365 K σ y1 → sm_J p l e (headSpec wp_X12_doThings { frames := 7, cells := 0, slots := 0, locals := 175 }).room s m ([.ref (α.1 1), .int p1, .int p2] : List Value).toArray below meth c (MQ below (va_Qi K (sm_B sm_wM D α) A) ([.ref (α.1 1), .int p1, .int p2] : List Value).toArray s 0 0 A) D A 7 (sm_wM σ α) 365 [] [.int y1, .ref (α.1 1)] := by
    intro σ y1 hF H locs ls hP hS hl
    unfold mp_X12_doThings_365 at hF
    refine sm_vv (As := [.int y1]) (rest := []) hP hK hD hE hS hA ⟨hx, hb, hml, hown, hts⟩ hl.1 (c_X12_give l D H.size t0 σ α y1 _ hF) (cwV 1 hts wg_X12_doThings_X12_give_384 rfl rfl rfl (by decide +kernel) ⟨Nat.le_of_ble_eq_true rfl, Nat.le_of_ble_eq_true rfl⟩) (va_recv hK hP (ci := 12) (q0 := 1) rfl (sm_gX12 σ α)) rfl rfl (Nat.le_of_ble_eq_true rfl) dX12_doThings_365 ⟨Nat.zero_le _, Nat.zero_le _⟩ (fun σ2 H locs hF hP hS => ?_)
    refine lv_iconst (v := 1) hx hb dX12_doThings_368 (by decide) ?_
    exact W.zret (v := 1) hx hb hr sm_z1.1 (fun t ht hW => ⟨⟨1, σ2, rfl, hF, (by unfold sm_B; rw [ht]; exact hP)⟩, hS.F ht⟩) hS.2.2 dX12_doThings_369
  have B352 : ∀ (σ : sm_S) (y0 : Int32), mp_X12_doThings_352 K σ y0 → sm_J p l e (headSpec wp_X12_doThings { frames := 7, cells := 0, slots := 0, locals := 175 }).room s m ([.ref (α.1 1), .int p1, .int p2] : List Value).toArray below meth c (MQ below (va_Qi K (sm_B sm_wM D α) A) ([.ref (α.1 1), .int p1, .int p2] : List Value).toArray s 0 0 A) D A 7 (sm_wM σ α) 352 [] [.int y0] := by
    intro σ y0 hF H locs ls hP hS hl
    unfold mp_X12_doThings_352 at hF
    obtain ⟨h3, hF⟩ := hF
    exact W.zret (v := y0) hx hb hr h3.1 (fun t ht hW => ⟨⟨y0, σ, rfl, hF, (by unfold sm_B; rw [ht]; exact hP)⟩, hS.F ht⟩) hS.2.2 dX12_doThings_352
  have B242 : ∀ (σ : sm_S) (x1 : Int32) (y1 : Int32), mp_X12_doThings_242 K σ x1 y1 → sm_J p l e (headSpec wp_X12_doThings { frames := 7, cells := 0, slots := 0, locals := 175 }).room s m ([.ref (α.1 1), .int p1, .int p2] : List Value).toArray below meth c (MQ below (va_Qi K (sm_B sm_wM D α) A) ([.ref (α.1 1), .int p1, .int p2] : List Value).toArray s 0 0 A) D A 7 (sm_wM σ α) 242 [(0, .ref (α.1 1)), (1, .int x1)] [.int y1, .ref (α.1 1)] := by
    intro σ x1 y1 hF H locs ls hP hS hl
    unfold mp_X12_doThings_242 at hF
    refine sm_vv (As := [.int y1]) (rest := []) hP hK hD hE hS hA ⟨hx, hb, hml, hown, hts⟩ hl.1 (c_X12_putInt l D H.size t0 σ α y1 _ hF) (cwV 1 hts wg_X12_doThings_X12_putInt_366 rfl rfl rfl (by decide +kernel) ⟨Nat.le_of_ble_eq_true rfl, Nat.le_of_ble_eq_true rfl⟩) (va_recv hK hP (ci := 12) (q0 := 1) rfl (sm_gX12 σ α)) rfl rfl (Nat.le_of_ble_eq_true rfl) dX12_doThings_242 ⟨Nat.zero_le _, Nat.zero_le _⟩ (fun σ4 H locs hF hP hS => ?_)
    refine lv_goto (tgt := 409) hx hb dX12_doThings_245 (by decide) ?_
    exact B409 σ4 x1 hF H locs ls hP hS (lv_sub hl [0, 1] rfl)
  have B35 : ∀ (σ : sm_S) (x1 : Int32) (x2 : Int32) (x3 : Int32) (y1 : Int32), mp_X12_doThings_35 K σ x1 x2 x3 y1 → sm_J p l e (headSpec wp_X12_doThings { frames := 7, cells := 0, slots := 0, locals := 175 }).room s m ([.ref (α.1 1), .int p1, .int p2] : List Value).toArray below meth c (MQ below (va_Qi K (sm_B sm_wM D α) A) ([.ref (α.1 1), .int p1, .int p2] : List Value).toArray s 0 0 A) D A 7 (sm_wM σ α) 35 [(0, .ref (α.1 1)), (1, .int x1), (2, .int x2), (3, .int x3)] [.int y1, .ref (α.1 3)] := by
    intro σ x1 x2 x3 y1 hF H locs ls hP hS hl
    unfold mp_X12_doThings_35 at hF
    obtain ⟨h5, hF⟩ := hF
    refine va_iald (n := (σ.2.2.1 3)) (f := (σ.2.2.2.1 3)) hx hb hK hP 3 1 (sm_aM3 σ α) (sm_yM3 α) h5 dX12_doThings_35 ?_
    refine lv_topi (fun v6 ev6 => ?_)
    replace hF := hF v6 ev6
    refine lv_istore (lv' := [(4, .int v6), (0, .ref (α.1 1)), (1, .int x1), (2, .int x2), (3, .int x3)]) hx hb dX12_doThings_36 hl (by decide) rfl (fun ls hl => ?_)
    refine lv_iload_n hx hb dX12_doThings_38 rfl (lv_at hl 3 rfl) ?_
    obtain ⟨gh7, hF⟩ := hF
    by_cases h7 : x2 = 26
    · refine lv_tableIn (tgt := 108) hx hb dX12_doThings_39 (by rw [h7]; decide) (by rw [h7]; decide) (by rw [h7]; rfl) (by decide) ?_
      clear hF
      have hF := gh7 h7
      clear gh7
      refine lv_aload_n hx hb dX12_doThings_108 rfl (lv_at hl 1 rfl) ?_
      refine lv_iconst (v := 1) hx hb dX12_doThings_109 (by decide) ?_
      refine lv_aload_n hx hb dX12_doThings_110 rfl (lv_at hl 1 rfl) ?_
      refine va_get (D := D) (ci := 12) (v := .ref (α.1 0)) (C := RX12) (T := TX12) (N := 42) hx hb hts in_X12 hown hK hP 1 (sm_gX12 σ α) rfl 0 (by decide) k_0 (fun _ h9 => h9) rfl dX12_doThings_111 ?_
      refine va_getN (D := D) (ci := 11) (v := .ref (α.1 6)) (C := RX11) (T := TX11) (N := 28) hx hb hts in_X11 hown hK hP 0 (sm_gX11 σ α) rfl 10 (by decide) (va_Nw.use rfl (hE.1 (.fieldLinkNest "SteadyMachineModel" 292 "SteadyMachineModel$Image" "fieldCounts" "[I" "SteadyMachineModel") (by decide +kernel))) (fun _ h9 => h9) rfl dX12_doThings_114 ?_
      refine lv_iload_n hx hb dX12_doThings_117 rfl (lv_at hl 4 rfl) ?_
      obtain ⟨h8, hF⟩ := hF
      refine va_iald (n := (σ.2.2.1 6)) (f := (σ.2.2.2.1 6)) hx hb hK hP 6 4 (sm_aM6 σ α) (sm_yM6 α) h8 dX12_doThings_118 ?_
      refine lv_iadd hx hb dX12_doThings_119 ?_
      refine sm_vi (As := [.int (1 + ((σ.2.2.2.1 6) x3.toNatClampNeg))]) (rest := []) hP hK hD hE hS hA ⟨hx, hb, hml, hown, hts⟩ hl.1 (c_X12_make l D H.size t0 σ α (1 + ((σ.2.2.2.1 6) x3.toNatClampNeg)) _ hF) (cwV 1 hts wg_X12_doThings_X12_make_274 rfl rfl rfl (by decide +kernel) ⟨Nat.le_of_ble_eq_true rfl, Nat.le_of_ble_eq_true rfl⟩) (va_recv hK hP (ci := 12) (q0 := 1) rfl (sm_gX12 σ α)) rfl rfl (Nat.le_of_ble_eq_true rfl) dX12_doThings_120 ⟨Nat.zero_le _, Nat.zero_le _⟩ (fun r10 σ9 H locs hF hP hS => ?_)
      refine lv_if_ne (tgt := 131) hx hb dX12_doThings_123 (by decide) (fun h11 => ?_) (fun h11 => ?_)
      · replace hF := hF.1 h11
        refine lv_aload_n hx hb dX12_doThings_131 rfl (lv_at hl 1 rfl) ?_
        refine lv_aload_n hx hb dX12_doThings_132 rfl (lv_at hl 1 rfl) ?_
        refine lv_iload_n hx hb dX12_doThings_133 rfl (lv_at hl 4 rfl) ?_
        refine sm_vi (As := [.int x3]) (rest := [.ref (α.1 1)]) hP hK hD hE hS hA ⟨hx, hb, hml, hown, hts⟩ hl.1 (c_X12_object l D H.size t0 σ9 α x3 _ hF) (cwV 1 hts wg_X12_doThings_X12_object_329 rfl rfl rfl (by decide +kernel) ⟨Nat.le_of_ble_eq_true rfl, Nat.le_of_ble_eq_true rfl⟩) (va_recv hK hP (ci := 12) (q0 := 1) rfl (sm_gX12 σ9 α)) rfl rfl (Nat.le_of_ble_eq_true rfl) dX12_doThings_134 ⟨Nat.zero_le _, Nat.zero_le _⟩ (fun r13 σ12 H locs hF hP hS => ?_)
        refine sm_vv (As := [.int r13]) (rest := []) hP hK hD hE hS hA ⟨hx, hb, hml, hown, hts⟩ hl.1 (c_X12_putThing l D H.size t0 σ12 α r13 _ hF) (cwV 1 hts wg_X12_doThings_X12_putThing_332 rfl rfl rfl (by decide +kernel) ⟨Nat.le_of_ble_eq_true rfl, Nat.le_of_ble_eq_true rfl⟩) (va_recv hK hP (ci := 12) (q0 := 1) rfl (sm_gX12 σ12 α)) rfl rfl (Nat.le_of_ble_eq_true rfl) dX12_doThings_137 ⟨Nat.zero_le _, Nat.zero_le _⟩ (fun σ14 H locs hF hP hS => ?_)
        refine lv_goto (tgt := 409) hx hb dX12_doThings_140 (by decide) ?_
        exact B409 σ14 x1 hF H locs ls hP hS (lv_sub hl [1, 2] rfl)
      · replace hF := hF.2 h11
        refine lv_aload_n hx hb dX12_doThings_126 rfl (lv_at hl 1 rfl) ?_
        refine sm_vi (As := []) (rest := []) hP hK hD hE hS hA ⟨hx, hb, hml, hown, hts⟩ hl.1 (c_X12_noRoom l D H.size t0 σ9 α _ hF) (cwV 0 hts wg_X12_doThings_X12_noRoom_326 rfl rfl rfl (by decide +kernel) ⟨Nat.le_of_ble_eq_true rfl, Nat.le_of_ble_eq_true rfl⟩) (va_recv hK hP (ci := 12) (q0 := 1) rfl (sm_gX12 σ9 α)) rfl rfl (Nat.le_of_ble_eq_true rfl) dX12_doThings_127 ⟨Nat.zero_le _, Nat.zero_le _⟩ (fun r16 σ15 H locs hF hP hS => ?_)
        obtain ⟨h17, hF⟩ := hF
        exact W.zret (v := r16) hx hb hr h17.1 (fun t ht hW => ⟨⟨r16, σ15, rfl, hF, (by unfold sm_B; rw [ht]; exact hP)⟩, hS.F ht⟩) hS.2.2 dX12_doThings_130
    clear gh7
    obtain ⟨gh18, hF⟩ := hF
    by_cases h18 : x2 = 27
    · refine lv_tableIn (tgt := 143) hx hb dX12_doThings_39 (by rw [h18]; decide) (by rw [h18]; decide) (by rw [h18]; rfl) (by decide) ?_
      clear hF
      have hF := gh18 h18
      clear gh18
      refine lv_aload_n hx hb dX12_doThings_143 rfl (lv_at hl 1 rfl) ?_
      refine lv_iconst (v := 0) hx hb dX12_doThings_144 (by decide) ?_
      refine sm_vi (As := [.int 0]) (rest := []) hP hK hD hE hS hA ⟨hx, hb, hml, hown, hts⟩ hl.1 (c_X12_value l D H.size t0 σ α 0 _ hF) (cwV 1 hts wg_X12_doThings_X12_value_347 rfl rfl rfl (by decide +kernel) ⟨Nat.le_of_ble_eq_true rfl, Nat.le_of_ble_eq_true rfl⟩) (va_recv hK hP (ci := 12) (q0 := 1) rfl (sm_gX12 σ α)) rfl rfl (Nat.le_of_ble_eq_true rfl) dX12_doThings_145 ⟨Nat.zero_le _, Nat.zero_le _⟩ (fun r20 σ19 H locs hF hP hS => ?_)
      refine lv_iconst (v := -1) hx hb dX12_doThings_148 (by decide) ?_
      refine lv_icmp_ne (tgt := 158) hx hb dX12_doThings_149 (by decide) (fun h21 => ?_) (fun h21 => ?_)
      · replace hF := hF.1 h21
        refine lv_aload_n hx hb dX12_doThings_158 rfl (lv_at hl 1 rfl) ?_
        refine lv_iload_n hx hb dX12_doThings_159 rfl (lv_at hl 4 rfl) ?_
        refine lv_iload hx hb dX12_doThings_160 (lv_at hl 0 rfl) ?_
        refine sm_vv (As := [.int x3, .int v6]) (rest := []) hP hK hD hE hS hA ⟨hx, hb, hml, hown, hts⟩ hl.1 (c_X12_getField l D H.size t0 σ19 α x3 v6 _ hF) (cwV 2 hts wg_X12_doThings_X12_getField_375 rfl rfl rfl (by decide +kernel) ⟨Nat.le_of_ble_eq_true rfl, Nat.le_of_ble_eq_true rfl⟩) (va_recv hK hP (ci := 12) (q0 := 1) rfl (sm_gX12 σ19 α)) rfl rfl (Nat.le_of_ble_eq_true rfl) dX12_doThings_162 ⟨Nat.zero_le _, Nat.zero_le _⟩ (fun σ22 H locs hF hP hS => ?_)
        refine lv_goto (tgt := 409) hx hb dX12_doThings_165 (by decide) ?_
        exact B409 σ22 x1 hF H locs ls hP hS (lv_sub hl [1, 2] rfl)
      · replace hF := hF.2 h21
        refine lv_aload_n hx hb dX12_doThings_152 rfl (lv_at hl 1 rfl) ?_
        refine lv_iconst (v := 0) hx hb dX12_doThings_153 (by decide) ?_
        refine sm_vi (As := [.int 0]) (rest := []) hP hK hD hE hS hA ⟨hx, hb, hml, hown, hts⟩ hl.1 (c_X12_fault l D H.size t0 σ19 α 0 _ hF) (cwV 1 hts wg_X12_doThings_X12_fault_350 rfl rfl rfl (by decide +kernel) ⟨Nat.le_of_ble_eq_true rfl, Nat.le_of_ble_eq_true rfl⟩) (va_recv hK hP (ci := 12) (q0 := 1) rfl (sm_gX12 σ19 α)) rfl rfl (Nat.le_of_ble_eq_true rfl) dX12_doThings_154 ⟨Nat.zero_le _, Nat.zero_le _⟩ (fun r24 σ23 H locs hF hP hS => ?_)
        obtain ⟨h25, hF⟩ := hF
        exact W.zret (v := r24) hx hb hr h25.1 (fun t ht hW => ⟨⟨r24, σ23, rfl, hF, (by unfold sm_B; rw [ht]; exact hP)⟩, hS.F ht⟩) hS.2.2 dX12_doThings_157
    clear gh18
    obtain ⟨gh26, hF⟩ := hF
    by_cases h26 : x2 = 28
    · refine lv_tableIn (tgt := 168) hx hb dX12_doThings_39 (by rw [h26]; decide) (by rw [h26]; decide) (by rw [h26]; rfl) (by decide) ?_
      clear hF
      have hF := gh26 h26
      clear gh26
      refine lv_aload_n hx hb dX12_doThings_168 rfl (lv_at hl 1 rfl) ?_
      refine lv_iconst (v := 1) hx hb dX12_doThings_169 (by decide) ?_
      refine sm_vi (As := [.int 1]) (rest := []) hP hK hD hE hS hA ⟨hx, hb, hml, hown, hts⟩ hl.1 (c_X12_value l D H.size t0 σ α 1 _ hF) (cwV 1 hts wg_X12_doThings_X12_value_347 rfl rfl rfl (by decide +kernel) ⟨Nat.le_of_ble_eq_true rfl, Nat.le_of_ble_eq_true rfl⟩) (va_recv hK hP (ci := 12) (q0 := 1) rfl (sm_gX12 σ α)) rfl rfl (Nat.le_of_ble_eq_true rfl) dX12_doThings_170 ⟨Nat.zero_le _, Nat.zero_le _⟩ (fun r28 σ27 H locs hF hP hS => ?_)
      refine lv_iconst (v := -1) hx hb dX12_doThings_173 (by decide) ?_
      refine lv_icmp_ne (tgt := 183) hx hb dX12_doThings_174 (by decide) (fun h29 => ?_) (fun h29 => ?_)
      · replace hF := hF.1 h29
        refine lv_aload_n hx hb dX12_doThings_183 rfl (lv_at hl 1 rfl) ?_
        refine va_get (D := D) (ci := 12) (v := .ref (α.1 31)) (C := RX12) (T := TX12) (N := 42) hx hb hts in_X12 hown hK hP 1 (sm_gX12 σ27 α) rfl 16 (by decide) k_1 (fun _ h9 => h9) rfl dX12_doThings_184 ?_
        refine lv_aload_n hx hb dX12_doThings_187 rfl (lv_at hl 1 rfl) ?_
        refine va_get (D := D) (ci := 12) (v := .ref (α.1 29)) (C := RX12) (T := TX12) (N := 42) hx hb hts in_X12 hown hK hP 1 (sm_gX12 σ27 α) rfl 12 (by decide) k_2 (fun _ h9 => h9) rfl dX12_doThings_188 ?_
        refine lv_aload_n hx hb dX12_doThings_191 rfl (lv_at hl 1 rfl) ?_
        refine lv_iconst (v := 1) hx hb dX12_doThings_192 (by decide) ?_
        refine sm_vi (As := [.int 1]) (rest := [.ref (α.1 29), .ref (α.1 31)]) hP hK hD hE hS hA ⟨hx, hb, hml, hown, hts⟩ hl.1 (c_X12_value l D H.size t0 σ27 α 1 _ hF) (cwV 1 hts wg_X12_doThings_X12_value_347 rfl rfl rfl (by decide +kernel) ⟨Nat.le_of_ble_eq_true rfl, Nat.le_of_ble_eq_true rfl⟩) (va_recv hK hP (ci := 12) (q0 := 1) rfl (sm_gX12 σ27 α)) rfl rfl (Nat.le_of_ble_eq_true rfl) dX12_doThings_193 ⟨Nat.zero_le _, Nat.zero_le _⟩ (fun r31 σ30 H locs hF hP hS => ?_)
        obtain ⟨h32, hF⟩ := hF
        refine va_iald (n := (σ30.2.2.1 29)) (f := (σ30.2.2.2.1 29)) hx hb hK hP 29 27 (sm_aM29 σ30 α) (sm_yM29 α) h32 dX12_doThings_196 ?_
        refine lv_iload hx hb dX12_doThings_197 (lv_at hl 0 rfl) ?_
        refine lv_iadd hx hb dX12_doThings_199 ?_
        refine lv_aload_n hx hb dX12_doThings_200 rfl (lv_at hl 1 rfl) ?_
        refine lv_iconst (v := 0) hx hb dX12_doThings_201 (by decide) ?_
        refine sm_vi (As := [.int 0]) (rest := [.int (((σ30.2.2.2.1 29) r31.toNatClampNeg) + v6), .ref (α.1 31)]) hP hK hD hE hS hA ⟨hx, hb, hml, hown, hts⟩ hl.1 (c_X12_value l D H.size t0 σ30 α 0 _ hF) (cwV 1 hts wg_X12_doThings_X12_value_347 rfl rfl rfl (by decide +kernel) ⟨Nat.le_of_ble_eq_true rfl, Nat.le_of_ble_eq_true rfl⟩) (va_recv hK hP (ci := 12) (q0 := 1) rfl (sm_gX12 σ30 α)) rfl rfl (Nat.le_of_ble_eq_true rfl) dX12_doThings_202 ⟨Nat.zero_le _, Nat.zero_le _⟩ (fun r34 σ33 H locs hF hP hS => ?_)
        obtain ⟨h35, hF⟩ := hF
        refine va_iast (n := (σ33.2.2.1 31)) (f := (σ33.2.2.2.1 31)) (x := r34) hx hb hK hP (hD.to (sm_wM_m _ _)) hS 31 29 (sm_aM31 σ33 α) (sm_yM31 α) h35 dX12_doThings_205 (fun H locs hP _ hS => ?_)
        rw [sm_rM31] at hP
        obtain ⟨σ36, eσ36⟩ : ∃ x : sm_S, x = sm_r σ33 31 (upd (σ33.2.2.2.1 31) (((σ30.2.2.2.1 29) r31.toNatClampNeg) + v6).toNatClampNeg r34) := ⟨_, rfl⟩
        replace hF := hF σ36 eσ36
        rw [← eσ36] at hP
        refine lv_aload_n hx hb dX12_doThings_206 rfl (lv_at hl 1 rfl) ?_
        refine lv_iconst (v := 2) hx hb dX12_doThings_207 (by decide) ?_
        refine sm_vv (As := [.int 2]) (rest := []) hP hK hD hE hS hA ⟨hx, hb, hml, hown, hts⟩ hl.1 (c_X12_drop l D H.size t0 σ36 α 2 _ hF) (cwV 1 hts wg_X12_doThings_X12_drop_359 rfl rfl rfl (by decide +kernel) ⟨Nat.le_of_ble_eq_true rfl, Nat.le_of_ble_eq_true rfl⟩) (va_recv hK hP (ci := 12) (q0 := 1) rfl (sm_gX12 σ36 α)) rfl rfl (Nat.le_of_ble_eq_true rfl) dX12_doThings_208 ⟨Nat.zero_le _, Nat.zero_le _⟩ (fun σ37 H locs hF hP hS => ?_)
        refine lv_goto (tgt := 409) hx hb dX12_doThings_211 (by decide) ?_
        exact B409 σ37 x1 hF H locs ls hP hS (lv_sub hl [1, 2] rfl)
      · replace hF := hF.2 h29
        refine lv_aload_n hx hb dX12_doThings_177 rfl (lv_at hl 1 rfl) ?_
        refine lv_iconst (v := 0) hx hb dX12_doThings_178 (by decide) ?_
        refine sm_vi (As := [.int 0]) (rest := []) hP hK hD hE hS hA ⟨hx, hb, hml, hown, hts⟩ hl.1 (c_X12_fault l D H.size t0 σ27 α 0 _ hF) (cwV 1 hts wg_X12_doThings_X12_fault_350 rfl rfl rfl (by decide +kernel) ⟨Nat.le_of_ble_eq_true rfl, Nat.le_of_ble_eq_true rfl⟩) (va_recv hK hP (ci := 12) (q0 := 1) rfl (sm_gX12 σ27 α)) rfl rfl (Nat.le_of_ble_eq_true rfl) dX12_doThings_179 ⟨Nat.zero_le _, Nat.zero_le _⟩ (fun r39 σ38 H locs hF hP hS => ?_)
        obtain ⟨h40, hF⟩ := hF
        exact W.zret (v := r39) hx hb hr h40.1 (fun t ht hW => ⟨⟨r39, σ38, rfl, hF, (by unfold sm_B; rw [ht]; exact hP)⟩, hS.F ht⟩) hS.2.2 dX12_doThings_182
    clear gh26
    obtain ⟨gh41, hF⟩ := hF
    by_cases h41 : x2 = 29
    · refine lv_tableIn (tgt := 214) hx hb dX12_doThings_39 (by rw [h41]; decide) (by rw [h41]; decide) (by rw [h41]; rfl) (by decide) ?_
      clear hF
      have hF := gh41 h41
      clear gh41
      refine lv_aload_n hx hb dX12_doThings_214 rfl (lv_at hl 1 rfl) ?_
      refine lv_aload_n hx hb dX12_doThings_215 rfl (lv_at hl 1 rfl) ?_
      refine lv_iconst (v := 0) hx hb dX12_doThings_216 (by decide) ?_
      refine sm_vi (As := [.int 0]) (rest := [.ref (α.1 1)]) hP hK hD hE hS hA ⟨hx, hb, hml, hown, hts⟩ hl.1 (c_X12_value l D H.size t0 σ α 0 _ hF) (cwV 1 hts wg_X12_doThings_X12_value_347 rfl rfl rfl (by decide +kernel) ⟨Nat.le_of_ble_eq_true rfl, Nat.le_of_ble_eq_true rfl⟩) (va_recv hK hP (ci := 12) (q0 := 1) rfl (sm_gX12 σ α)) rfl rfl (Nat.le_of_ble_eq_true rfl) dX12_doThings_217 ⟨Nat.zero_le _, Nat.zero_le _⟩ (fun r43 σ42 H locs hF hP hS => ?_)
      refine lv_iload_n hx hb dX12_doThings_220 rfl (lv_at hl 4 rfl) ?_
      refine sm_vi (As := [.int r43, .int x3]) (rest := []) hP hK hD hE hS hA ⟨hx, hb, hml, hown, hts⟩ hl.1 (c_X12_isOne l D H.size t0 σ42 α r43 x3 _ hF) (cwV 2 hts wg_X12_doThings_X12_isOne_378 rfl rfl rfl (by decide +kernel) ⟨Nat.le_of_ble_eq_true rfl, Nat.le_of_ble_eq_true rfl⟩) (va_recv hK hP (ci := 12) (q0 := 1) rfl (sm_gX12 σ42 α)) rfl rfl (Nat.le_of_ble_eq_true rfl) dX12_doThings_221 ⟨Nat.zero_le _, Nat.zero_le _⟩ (fun r45 σ44 H locs hF hP hS => ?_)
      refine lv_istore (lv' := [(5, .int r45), (4, .int v6), (0, .ref (α.1 1)), (1, .int x1), (2, .int x2), (3, .int x3)]) hx hb dX12_doThings_224 hl (by decide) rfl (fun ls hl => ?_)
      refine lv_aload_n hx hb dX12_doThings_226 rfl (lv_at hl 2 rfl) ?_
      refine lv_iconst (v := 1) hx hb dX12_doThings_227 (by decide) ?_
      refine sm_vv (As := [.int 1]) (rest := []) hP hK hD hE hS hA ⟨hx, hb, hml, hown, hts⟩ hl.1 (c_X12_drop l D H.size t0 σ44 α 1 _ hF) (cwV 1 hts wg_X12_doThings_X12_drop_359 rfl rfl rfl (by decide +kernel) ⟨Nat.le_of_ble_eq_true rfl, Nat.le_of_ble_eq_true rfl⟩) (va_recv hK hP (ci := 12) (q0 := 1) rfl (sm_gX12 σ44 α)) rfl rfl (Nat.le_of_ble_eq_true rfl) dX12_doThings_228 ⟨Nat.zero_le _, Nat.zero_le _⟩ (fun σ46 H locs hF hP hS => ?_)
      refine lv_aload_n hx hb dX12_doThings_231 rfl (lv_at hl 2 rfl) ?_
      refine lv_iload hx hb dX12_doThings_232 (lv_at hl 0 rfl) ?_
      refine lv_if_eq (tgt := 241) hx hb dX12_doThings_234 (by decide) (fun h47 => ?_) (fun h47 => ?_)
      · replace hF := hF.1 h47
        refine lv_iconst (v := 0) hx hb dX12_doThings_241 (by decide) ?_
        exact B242 σ46 x1 0 hF H locs ls hP hS (lv_sub hl [2, 3] rfl)
      · replace hF := hF.2 h47
        refine lv_iconst (v := 1) hx hb dX12_doThings_237 (by decide) ?_
        refine lv_goto (tgt := 242) hx hb dX12_doThings_238 (by decide) ?_
        exact B242 σ46 x1 1 hF H locs ls hP hS (lv_sub hl [2, 3] rfl)
    clear gh41
    obtain ⟨gh48, hF⟩ := hF
    by_cases h48 : x2 = 30
    · refine lv_tableIn (tgt := 248) hx hb dX12_doThings_39 (by rw [h48]; decide) (by rw [h48]; decide) (by rw [h48]; rfl) (by decide) ?_
      clear hF
      have hF := gh48 h48
      clear gh48
      refine lv_aload_n hx hb dX12_doThings_248 rfl (lv_at hl 1 rfl) ?_
      refine lv_iconst (v := 0) hx hb dX12_doThings_249 (by decide) ?_
      refine sm_vi (As := [.int 0]) (rest := []) hP hK hD hE hS hA ⟨hx, hb, hml, hown, hts⟩ hl.1 (c_X12_value l D H.size t0 σ α 0 _ hF) (cwV 1 hts wg_X12_doThings_X12_value_347 rfl rfl rfl (by decide +kernel) ⟨Nat.le_of_ble_eq_true rfl, Nat.le_of_ble_eq_true rfl⟩) (va_recv hK hP (ci := 12) (q0 := 1) rfl (sm_gX12 σ α)) rfl rfl (Nat.le_of_ble_eq_true rfl) dX12_doThings_250 ⟨Nat.zero_le _, Nat.zero_le _⟩ (fun r50 σ49 H locs hF hP hS => ?_)
      refine lv_iconst (v := -1) hx hb dX12_doThings_253 (by decide) ?_
      refine lv_icmp_eq (tgt := 409) hx hb dX12_doThings_254 (by decide) (fun h51 => ?_) (fun h51 => ?_)
      · replace hF := hF.1 h51
        exact B409 σ49 x1 hF H locs ls hP hS (lv_sub hl [1, 2] rfl)
      · replace hF := hF.2 h51
        refine lv_aload_n hx hb dX12_doThings_257 rfl (lv_at hl 1 rfl) ?_
        refine lv_aload_n hx hb dX12_doThings_258 rfl (lv_at hl 1 rfl) ?_
        refine lv_iconst (v := 0) hx hb dX12_doThings_259 (by decide) ?_
        refine sm_vi (As := [.int 0]) (rest := [.ref (α.1 1)]) hP hK hD hE hS hA ⟨hx, hb, hml, hown, hts⟩ hl.1 (c_X12_value l D H.size t0 σ49 α 0 _ hF) (cwV 1 hts wg_X12_doThings_X12_value_347 rfl rfl rfl (by decide +kernel) ⟨Nat.le_of_ble_eq_true rfl, Nat.le_of_ble_eq_true rfl⟩) (va_recv hK hP (ci := 12) (q0 := 1) rfl (sm_gX12 σ49 α)) rfl rfl (Nat.le_of_ble_eq_true rfl) dX12_doThings_260 ⟨Nat.zero_le _, Nat.zero_le _⟩ (fun r53 σ52 H locs hF hP hS => ?_)
        refine lv_iload_n hx hb dX12_doThings_263 rfl (lv_at hl 4 rfl) ?_
        refine sm_vi (As := [.int r53, .int x3]) (rest := []) hP hK hD hE hS hA ⟨hx, hb, hml, hown, hts⟩ hl.1 (c_X12_isOne l D H.size t0 σ52 α r53 x3 _ hF) (cwV 2 hts wg_X12_doThings_X12_isOne_378 rfl rfl rfl (by decide +kernel) ⟨Nat.le_of_ble_eq_true rfl, Nat.le_of_ble_eq_true rfl⟩) (va_recv hK hP (ci := 12) (q0 := 1) rfl (sm_gX12 σ52 α)) rfl rfl (Nat.le_of_ble_eq_true rfl) dX12_doThings_264 ⟨Nat.zero_le _, Nat.zero_le _⟩ (fun r55 σ54 H locs hF hP hS => ?_)
        refine lv_if_ne (tgt := 409) hx hb dX12_doThings_267 (by decide) (fun h56 => ?_) (fun h56 => ?_)
        · replace hF := hF.1 h56
          exact B409 σ54 x1 hF H locs ls hP hS (lv_sub hl [1, 2] rfl)
        · replace hF := hF.2 h56
          refine lv_aload_n hx hb dX12_doThings_270 rfl (lv_at hl 1 rfl) ?_
          refine lv_iconst (v := 3) hx hb dX12_doThings_271 (by decide) ?_
          refine sm_vi (As := [.int 3]) (rest := []) hP hK hD hE hS hA ⟨hx, hb, hml, hown, hts⟩ hl.1 (c_X12_fault l D H.size t0 σ54 α 3 _ hF) (cwV 1 hts wg_X12_doThings_X12_fault_350 rfl rfl rfl (by decide +kernel) ⟨Nat.le_of_ble_eq_true rfl, Nat.le_of_ble_eq_true rfl⟩) (va_recv hK hP (ci := 12) (q0 := 1) rfl (sm_gX12 σ54 α)) rfl rfl (Nat.le_of_ble_eq_true rfl) dX12_doThings_272 ⟨Nat.zero_le _, Nat.zero_le _⟩ (fun r58 σ57 H locs hF hP hS => ?_)
          obtain ⟨h59, hF⟩ := hF
          exact W.zret (v := r58) hx hb hr h59.1 (fun t ht hW => ⟨⟨r58, σ57, rfl, hF, (by unfold sm_B; rw [ht]; exact hP)⟩, hS.F ht⟩) hS.2.2 dX12_doThings_275
    clear gh48
    obtain ⟨gh60, hF⟩ := hF
    by_cases h60 : x2 = 31
    · refine lv_tableIn (tgt := 401) hx hb dX12_doThings_39 (by rw [h60]; decide) (by rw [h60]; decide) (by rw [h60]; rfl) (by decide) ?_
      clear hF
      have hF := gh60 h60
      clear gh60
      refine lv_aload_n hx hb dX12_doThings_401 rfl (lv_at hl 1 rfl) ?_
      refine lv_iload_n hx hb dX12_doThings_402 rfl (lv_at hl 2 rfl) ?_
      refine lv_iload_n hx hb dX12_doThings_403 rfl (lv_at hl 3 rfl) ?_
      refine lv_iload_n hx hb dX12_doThings_404 rfl (lv_at hl 4 rfl) ?_
      refine sm_vi (As := [.int x1, .int x2, .int x3]) (rest := []) hP hK hD hE hS hA ⟨hx, hb, hml, hown, hts⟩ hl.1 (c_X12_doRow l D H.size t0 σ α x1 x2 x3 _ hF) (cwV 3 hts wg_X12_doThings_X12_doRow_388 rfl rfl rfl (by decide +kernel) ⟨Nat.le_of_ble_eq_true rfl, Nat.le_of_ble_eq_true rfl⟩) (va_recv hK hP (ci := 12) (q0 := 1) rfl (sm_gX12 σ α)) rfl rfl (Nat.le_of_ble_eq_true rfl) dX12_doThings_405 ⟨Nat.zero_le _, Nat.zero_le _⟩ (fun r62 σ61 H locs hF hP hS => ?_)
      obtain ⟨h63, hF⟩ := hF
      exact W.zret (v := r62) hx hb hr h63.1 (fun t ht hW => ⟨⟨r62, σ61, rfl, hF, (by unfold sm_B; rw [ht]; exact hP)⟩, hS.F ht⟩) hS.2.2 dX12_doThings_408
    clear gh60
    obtain ⟨gh64, hF⟩ := hF
    by_cases h64 : x2 = 32
    · refine lv_tableIn (tgt := 401) hx hb dX12_doThings_39 (by rw [h64]; decide) (by rw [h64]; decide) (by rw [h64]; rfl) (by decide) ?_
      clear hF
      have hF := gh64 h64
      clear gh64
      refine lv_aload_n hx hb dX12_doThings_401 rfl (lv_at hl 1 rfl) ?_
      refine lv_iload_n hx hb dX12_doThings_402 rfl (lv_at hl 2 rfl) ?_
      refine lv_iload_n hx hb dX12_doThings_403 rfl (lv_at hl 3 rfl) ?_
      refine lv_iload_n hx hb dX12_doThings_404 rfl (lv_at hl 4 rfl) ?_
      refine sm_vi (As := [.int x1, .int x2, .int x3]) (rest := []) hP hK hD hE hS hA ⟨hx, hb, hml, hown, hts⟩ hl.1 (c_X12_doRow l D H.size t0 σ α x1 x2 x3 _ hF) (cwV 3 hts wg_X12_doThings_X12_doRow_388 rfl rfl rfl (by decide +kernel) ⟨Nat.le_of_ble_eq_true rfl, Nat.le_of_ble_eq_true rfl⟩) (va_recv hK hP (ci := 12) (q0 := 1) rfl (sm_gX12 σ α)) rfl rfl (Nat.le_of_ble_eq_true rfl) dX12_doThings_405 ⟨Nat.zero_le _, Nat.zero_le _⟩ (fun r66 σ65 H locs hF hP hS => ?_)
      obtain ⟨h67, hF⟩ := hF
      exact W.zret (v := r66) hx hb hr h67.1 (fun t ht hW => ⟨⟨r66, σ65, rfl, hF, (by unfold sm_B; rw [ht]; exact hP)⟩, hS.F ht⟩) hS.2.2 dX12_doThings_408
    clear gh64
    obtain ⟨gh68, hF⟩ := hF
    by_cases h68 : x2 = 33
    · refine lv_tableIn (tgt := 401) hx hb dX12_doThings_39 (by rw [h68]; decide) (by rw [h68]; decide) (by rw [h68]; rfl) (by decide) ?_
      clear hF
      have hF := gh68 h68
      clear gh68
      refine lv_aload_n hx hb dX12_doThings_401 rfl (lv_at hl 1 rfl) ?_
      refine lv_iload_n hx hb dX12_doThings_402 rfl (lv_at hl 2 rfl) ?_
      refine lv_iload_n hx hb dX12_doThings_403 rfl (lv_at hl 3 rfl) ?_
      refine lv_iload_n hx hb dX12_doThings_404 rfl (lv_at hl 4 rfl) ?_
      refine sm_vi (As := [.int x1, .int x2, .int x3]) (rest := []) hP hK hD hE hS hA ⟨hx, hb, hml, hown, hts⟩ hl.1 (c_X12_doRow l D H.size t0 σ α x1 x2 x3 _ hF) (cwV 3 hts wg_X12_doThings_X12_doRow_388 rfl rfl rfl (by decide +kernel) ⟨Nat.le_of_ble_eq_true rfl, Nat.le_of_ble_eq_true rfl⟩) (va_recv hK hP (ci := 12) (q0 := 1) rfl (sm_gX12 σ α)) rfl rfl (Nat.le_of_ble_eq_true rfl) dX12_doThings_405 ⟨Nat.zero_le _, Nat.zero_le _⟩ (fun r70 σ69 H locs hF hP hS => ?_)
      obtain ⟨h71, hF⟩ := hF
      exact W.zret (v := r70) hx hb hr h71.1 (fun t ht hW => ⟨⟨r70, σ69, rfl, hF, (by unfold sm_B; rw [ht]; exact hP)⟩, hS.F ht⟩) hS.2.2 dX12_doThings_408
    clear gh68
    obtain ⟨gh72, hF⟩ := hF
    by_cases h72 : x2 = 34
    · refine lv_tableIn (tgt := 401) hx hb dX12_doThings_39 (by rw [h72]; decide) (by rw [h72]; decide) (by rw [h72]; rfl) (by decide) ?_
      clear hF
      have hF := gh72 h72
      clear gh72
      refine lv_aload_n hx hb dX12_doThings_401 rfl (lv_at hl 1 rfl) ?_
      refine lv_iload_n hx hb dX12_doThings_402 rfl (lv_at hl 2 rfl) ?_
      refine lv_iload_n hx hb dX12_doThings_403 rfl (lv_at hl 3 rfl) ?_
      refine lv_iload_n hx hb dX12_doThings_404 rfl (lv_at hl 4 rfl) ?_
      refine sm_vi (As := [.int x1, .int x2, .int x3]) (rest := []) hP hK hD hE hS hA ⟨hx, hb, hml, hown, hts⟩ hl.1 (c_X12_doRow l D H.size t0 σ α x1 x2 x3 _ hF) (cwV 3 hts wg_X12_doThings_X12_doRow_388 rfl rfl rfl (by decide +kernel) ⟨Nat.le_of_ble_eq_true rfl, Nat.le_of_ble_eq_true rfl⟩) (va_recv hK hP (ci := 12) (q0 := 1) rfl (sm_gX12 σ α)) rfl rfl (Nat.le_of_ble_eq_true rfl) dX12_doThings_405 ⟨Nat.zero_le _, Nat.zero_le _⟩ (fun r74 σ73 H locs hF hP hS => ?_)
      obtain ⟨h75, hF⟩ := hF
      exact W.zret (v := r74) hx hb hr h75.1 (fun t ht hW => ⟨⟨r74, σ73, rfl, hF, (by unfold sm_B; rw [ht]; exact hP)⟩, hS.F ht⟩) hS.2.2 dX12_doThings_408
    clear gh72
    obtain ⟨gh76, hF⟩ := hF
    by_cases h76 : x2 = 35
    · refine lv_tableIn (tgt := 276) hx hb dX12_doThings_39 (by rw [h76]; decide) (by rw [h76]; decide) (by rw [h76]; rfl) (by decide) ?_
      clear hF
      have hF := gh76 h76
      clear gh76
      refine lv_aload_n hx hb dX12_doThings_276 rfl (lv_at hl 1 rfl) ?_
      refine lv_iload_n hx hb dX12_doThings_277 rfl (lv_at hl 4 rfl) ?_
      refine sm_vi (As := [.int x3]) (rest := []) hP hK hD hE hS hA ⟨hx, hb, hml, hown, hts⟩ hl.1 (c_X12_call l D H.size t0 σ α x3 _ hF) (cwV 1 hts wg_X12_doThings_X12_call_381 rfl rfl rfl (by decide +kernel) ⟨Nat.le_of_ble_eq_true rfl, Nat.le_of_ble_eq_true rfl⟩) (va_recv hK hP (ci := 12) (q0 := 1) rfl (sm_gX12 σ α)) rfl rfl (Nat.le_of_ble_eq_true rfl) dX12_doThings_278 ⟨Nat.zero_le _, Nat.zero_le _⟩ (fun r78 σ77 H locs hF hP hS => ?_)
      obtain ⟨h79, hF⟩ := hF
      exact W.zret (v := r78) hx hb hr h79.1 (fun t ht hW => ⟨⟨r78, σ77, rfl, hF, (by unfold sm_B; rw [ht]; exact hP)⟩, hS.F ht⟩) hS.2.2 dX12_doThings_281
    clear gh76
    obtain ⟨gh80, hF⟩ := hF
    by_cases h80 : x2 = 36
    · refine lv_tableIn (tgt := 282) hx hb dX12_doThings_39 (by rw [h80]; decide) (by rw [h80]; decide) (by rw [h80]; rfl) (by decide) ?_
      clear hF
      have hF := gh80 h80
      clear gh80
      refine lv_aload_n hx hb dX12_doThings_282 rfl (lv_at hl 1 rfl) ?_
      refine lv_aload_n hx hb dX12_doThings_283 rfl (lv_at hl 1 rfl) ?_
      refine va_get (D := D) (ci := 12) (v := .ref (α.1 0)) (C := RX12) (T := TX12) (N := 42) hx hb hts in_X12 hown hK hP 1 (sm_gX12 σ α) rfl 0 (by decide) k_0 (fun _ h9 => h9) rfl dX12_doThings_284 ?_
      refine va_getN (D := D) (ci := 11) (v := .ref (α.1 12)) (C := RX11) (T := TX11) (N := 28) hx hb hts in_X11 hown hK hP 0 (sm_gX11 σ α) rfl 17 (by decide) (va_Nw.use rfl (hE.1 (.fieldLinkNest "SteadyMachineModel" 68 "SteadyMachineModel$Image" "parameterCounts" "[I" "SteadyMachineModel") (by decide +kernel))) (fun _ h9 => h9) rfl dX12_doThings_287 ?_
      refine lv_aload_n hx hb dX12_doThings_290 rfl (lv_at hl 1 rfl) ?_
      refine va_get (D := D) (ci := 12) (v := .ref (α.1 0)) (C := RX12) (T := TX12) (N := 42) hx hb hts in_X12 hown hK hP 1 (sm_gX12 σ α) rfl 0 (by decide) k_0 (fun _ h9 => h9) rfl dX12_doThings_291 ?_
      refine va_getN (D := D) (ci := 11) (v := .ref (α.1 8)) (C := RX11) (T := TX11) (N := 28) hx hb hts in_X11 hown hK hP 0 (sm_gX11 σ α) rfl 12 (by decide) (va_Nw.use rfl (hE.1 (.fieldLinkNest "SteadyMachineModel" 108 "SteadyMachineModel$Image" "slots" "[I" "SteadyMachineModel") (by decide +kernel))) (fun _ h9 => h9) rfl dX12_doThings_294 ?_
      refine lv_bipush (v := 16) hx hb dX12_doThings_297 (by decide) ?_
      refine lv_iload_n hx hb dX12_doThings_299 rfl (lv_at hl 4 rfl) ?_
      refine lv_imul hx hb dX12_doThings_300 ?_
      refine lv_iload hx hb dX12_doThings_301 (lv_at hl 0 rfl) ?_
      refine lv_iadd hx hb dX12_doThings_303 ?_
      obtain ⟨h81, hF⟩ := hF
      refine va_iald (n := (σ.2.2.1 8)) (f := (σ.2.2.2.1 8)) hx hb hK hP 8 6 (sm_aM8 σ α) (sm_yM8 α) h81 dX12_doThings_304 ?_
      obtain ⟨h82, hF⟩ := hF
      refine va_iald (n := (σ.2.2.1 12)) (f := (σ.2.2.2.1 12)) hx hb hK hP 12 10 (sm_aM12 σ α) (sm_yM12 α) h82 dX12_doThings_305 ?_
      refine lv_iconst (v := 1) hx hb dX12_doThings_306 (by decide) ?_
      refine lv_isub hx hb dX12_doThings_307 ?_
      refine sm_vi (As := [.int (((σ.2.2.2.1 12) ((σ.2.2.2.1 8) ((16 * x3) + v6).toNatClampNeg).toNatClampNeg) - 1)]) (rest := []) hP hK hD hE hS hA ⟨hx, hb, hml, hown, hts⟩ hl.1 (c_X12_value l D H.size t0 σ α (((σ.2.2.2.1 12) ((σ.2.2.2.1 8) ((16 * x3) + v6).toNatClampNeg).toNatClampNeg) - 1) _ hF) (cwV 1 hts wg_X12_doThings_X12_value_347 rfl rfl rfl (by decide +kernel) ⟨Nat.le_of_ble_eq_true rfl, Nat.le_of_ble_eq_true rfl⟩) (va_recv hK hP (ci := 12) (q0 := 1) rfl (sm_gX12 σ α)) rfl rfl (Nat.le_of_ble_eq_true rfl) dX12_doThings_308 ⟨Nat.zero_le _, Nat.zero_le _⟩ (fun r84 σ83 H locs hF hP hS => ?_)
      refine lv_istore (lv' := [(6, .int r84), (4, .int v6), (0, .ref (α.1 1)), (1, .int x1), (2, .int x2), (3, .int x3)]) hx hb dX12_doThings_311 hl (by decide) rfl (fun ls hl => ?_)
      refine lv_iload hx hb dX12_doThings_313 (lv_at hl 0 rfl) ?_
      refine lv_iconst (v := -1) hx hb dX12_doThings_315 (by decide) ?_
      refine lv_icmp_ne (tgt := 327) hx hb dX12_doThings_316 (by decide) (fun h85 => ?_) (fun h85 => ?_)
      · replace hF := hF.1 h85
        refine lv_aload_n hx hb dX12_doThings_327 rfl (lv_at hl 2 rfl) ?_
        refine lv_aload_n hx hb dX12_doThings_328 rfl (lv_at hl 2 rfl) ?_
        refine va_get (D := D) (ci := 12) (v := .ref (α.1 0)) (C := RX12) (T := TX12) (N := 42) hx hb hts in_X12 hown hK hP 1 (sm_gX12 σ83 α) rfl 0 (by decide) k_0 (fun _ h9 => h9) rfl dX12_doThings_329 ?_
        refine va_getN (D := D) (ci := 11) (v := .ref (α.1 8)) (C := RX11) (T := TX11) (N := 28) hx hb hts in_X11 hown hK hP 0 (sm_gX11 σ83 α) rfl 12 (by decide) (va_Nw.use rfl (hE.1 (.fieldLinkNest "SteadyMachineModel" 108 "SteadyMachineModel$Image" "slots" "[I" "SteadyMachineModel") (by decide +kernel))) (fun _ h9 => h9) rfl dX12_doThings_332 ?_
        refine lv_bipush (v := 16) hx hb dX12_doThings_335 (by decide) ?_
        refine lv_aload_n hx hb dX12_doThings_337 rfl (lv_at hl 2 rfl) ?_
        refine va_get (D := D) (ci := 12) (v := .ref (α.1 26)) (C := RX12) (T := TX12) (N := 42) hx hb hts in_X12 hown hK hP 1 (sm_gX12 σ83 α) rfl 9 (by decide) k_3 (fun _ h9 => h9) rfl dX12_doThings_338 ?_
        refine lv_iload hx hb dX12_doThings_341 (lv_at hl 0 rfl) ?_
        obtain ⟨h86, hF⟩ := hF
        refine va_iald (n := (σ83.2.2.1 26)) (f := (σ83.2.2.2.1 26)) hx hb hK hP 26 24 (sm_aM26 σ83 α) (sm_yM26 α) h86 dX12_doThings_343 ?_
        refine lv_imul hx hb dX12_doThings_344 ?_
        refine lv_iload hx hb dX12_doThings_345 (lv_at hl 1 rfl) ?_
        refine lv_iadd hx hb dX12_doThings_347 ?_
        obtain ⟨h87, hF⟩ := hF
        refine va_iald (n := (σ83.2.2.1 8)) (f := (σ83.2.2.2.1 8)) hx hb hK hP 8 6 (sm_aM8 σ83 α) (sm_yM8 α) h87 dX12_doThings_348 ?_
        refine sm_vi (As := [.int ((σ83.2.2.2.1 8) ((16 * ((σ83.2.2.2.1 26) r84.toNatClampNeg)) + v6).toNatClampNeg)]) (rest := []) hP hK hD hE hS hA ⟨hx, hb, hml, hown, hts⟩ hl.1 (c_X12_call l D H.size t0 σ83 α ((σ83.2.2.2.1 8) ((16 * ((σ83.2.2.2.1 26) r84.toNatClampNeg)) + v6).toNatClampNeg) _ hF) (cwV 1 hts wg_X12_doThings_X12_call_381 rfl rfl rfl (by decide +kernel) ⟨Nat.le_of_ble_eq_true rfl, Nat.le_of_ble_eq_true rfl⟩) (va_recv hK hP (ci := 12) (q0 := 1) rfl (sm_gX12 σ83 α)) rfl rfl (Nat.le_of_ble_eq_true rfl) dX12_doThings_349 ⟨Nat.zero_le _, Nat.zero_le _⟩ (fun r89 σ88 H locs hF hP hS => ?_)
        exact B352 σ88 r89 hF H locs ls hP hS (lv_sub hl [] rfl)
      · replace hF := hF.2 h85
        refine lv_aload_n hx hb dX12_doThings_319 rfl (lv_at hl 2 rfl) ?_
        refine lv_iconst (v := 0) hx hb dX12_doThings_320 (by decide) ?_
        refine sm_vi (As := [.int 0]) (rest := []) hP hK hD hE hS hA ⟨hx, hb, hml, hown, hts⟩ hl.1 (c_X12_fault l D H.size t0 σ83 α 0 _ hF) (cwV 1 hts wg_X12_doThings_X12_fault_350 rfl rfl rfl (by decide +kernel) ⟨Nat.le_of_ble_eq_true rfl, Nat.le_of_ble_eq_true rfl⟩) (va_recv hK hP (ci := 12) (q0 := 1) rfl (sm_gX12 σ83 α)) rfl rfl (Nat.le_of_ble_eq_true rfl) dX12_doThings_321 ⟨Nat.zero_le _, Nat.zero_le _⟩ (fun r91 σ90 H locs hF hP hS => ?_)
        refine lv_goto (tgt := 352) hx hb dX12_doThings_324 (by decide) ?_
        exact B352 σ90 r91 hF H locs ls hP hS (lv_sub hl [] rfl)
    clear gh80
    obtain ⟨gh92, hF⟩ := hF
    by_cases h92 : x2 = 37
    · refine lv_tableIn (tgt := 353) hx hb dX12_doThings_39 (by rw [h92]; decide) (by rw [h92]; decide) (by rw [h92]; rfl) (by decide) ?_
      clear hF
      have hF := gh92 h92
      clear gh92
      refine lv_aload_n hx hb dX12_doThings_353 rfl (lv_at hl 1 rfl) ?_
      refine lv_iload_n hx hb dX12_doThings_354 rfl (lv_at hl 3 rfl) ?_
      refine lv_bipush (v := 38) hx hb dX12_doThings_355 (by decide) ?_
      refine lv_icmp_ne (tgt := 364) hx hb dX12_doThings_357 (by decide) (fun h93 => ?_) (fun h93 => ?_)
      · replace hF := hF.1 h93
        refine lv_iconst (v := 0) hx hb dX12_doThings_364 (by decide) ?_
        exact B365 σ 0 hF H locs ls hP hS (lv_sub hl [] rfl)
      · replace hF := hF.2 h93
        refine lv_iconst (v := 1) hx hb dX12_doThings_360 (by decide) ?_
        refine lv_goto (tgt := 365) hx hb dX12_doThings_361 (by decide) ?_
        exact B365 σ 1 hF H locs ls hP hS (lv_sub hl [] rfl)
    clear gh92
    obtain ⟨gh94, hF⟩ := hF
    by_cases h94 : x2 = 38
    · refine lv_tableIn (tgt := 353) hx hb dX12_doThings_39 (by rw [h94]; decide) (by rw [h94]; decide) (by rw [h94]; rfl) (by decide) ?_
      clear hF
      have hF := gh94 h94
      clear gh94
      refine lv_aload_n hx hb dX12_doThings_353 rfl (lv_at hl 1 rfl) ?_
      refine lv_iload_n hx hb dX12_doThings_354 rfl (lv_at hl 3 rfl) ?_
      refine lv_bipush (v := 38) hx hb dX12_doThings_355 (by decide) ?_
      refine lv_icmp_ne (tgt := 364) hx hb dX12_doThings_357 (by decide) (fun h95 => ?_) (fun h95 => ?_)
      · replace hF := hF.1 h95
        refine lv_iconst (v := 0) hx hb dX12_doThings_364 (by decide) ?_
        exact B365 σ 0 hF H locs ls hP hS (lv_sub hl [] rfl)
      · replace hF := hF.2 h95
        refine lv_iconst (v := 1) hx hb dX12_doThings_360 (by decide) ?_
        refine lv_goto (tgt := 365) hx hb dX12_doThings_361 (by decide) ?_
        exact B365 σ 1 hF H locs ls hP hS (lv_sub hl [] rfl)
    clear gh94
    obtain ⟨gh96, hF⟩ := hF
    by_cases h96 : x2 = 39
    · refine lv_tableIn (tgt := 370) hx hb dX12_doThings_39 (by rw [h96]; decide) (by rw [h96]; decide) (by rw [h96]; rfl) (by decide) ?_
      clear hF
      have hF := gh96 h96
      clear gh96
      refine lv_aload_n hx hb dX12_doThings_370 rfl (lv_at hl 1 rfl) ?_
      refine lv_iconst (v := 0) hx hb dX12_doThings_371 (by decide) ?_
      refine sm_vi (As := [.int 0]) (rest := []) hP hK hD hE hS hA ⟨hx, hb, hml, hown, hts⟩ hl.1 (c_X12_value l D H.size t0 σ α 0 _ hF) (cwV 1 hts wg_X12_doThings_X12_value_347 rfl rfl rfl (by decide +kernel) ⟨Nat.le_of_ble_eq_true rfl, Nat.le_of_ble_eq_true rfl⟩) (va_recv hK hP (ci := 12) (q0 := 1) rfl (sm_gX12 σ α)) rfl rfl (Nat.le_of_ble_eq_true rfl) dX12_doThings_372 ⟨Nat.zero_le _, Nat.zero_le _⟩ (fun r98 σ97 H locs hF hP hS => ?_)
      refine lv_iconst (v := -1) hx hb dX12_doThings_375 (by decide) ?_
      refine lv_icmp_ne (tgt := 385) hx hb dX12_doThings_376 (by decide) (fun h99 => ?_) (fun h99 => ?_)
      · replace hF := hF.1 h99
        refine lv_aload_n hx hb dX12_doThings_385 rfl (lv_at hl 1 rfl) ?_
        refine lv_iconst (v := 1) hx hb dX12_doThings_386 (by decide) ?_
        refine va_put (D := D) (ci := 12) (v := .int 1) (ty := .boolean) (C := RX12) (T := TX12) (N := 42) hx hb hts in_X12 tyX12 tyX12_ok nmX12 hown hK hP (hD.to (sm_wM_m _ _)) hS 1 (sm_gX12 σ97 α) rfl 24 (by decide) k_4 (fun _ h9 => h9) rfl (by decide +kernel) sm_z1.1 sm_z1.2 (Nat.le_of_ble_eq_true rfl) dX12_doThings_387 (fun H locs hP _ hS => ?_)
        rw [sm_iM15] at hP
        obtain ⟨σ100, eσ100⟩ : ∃ x : sm_S, x = sm_i σ97 15 1 := ⟨_, rfl⟩
        replace hF := hF σ100 eσ100
        rw [← eσ100] at hP
        refine lv_aload_n hx hb dX12_doThings_390 rfl (lv_at hl 1 rfl) ?_
        refine lv_aload_n hx hb dX12_doThings_391 rfl (lv_at hl 1 rfl) ?_
        refine lv_iconst (v := 0) hx hb dX12_doThings_392 (by decide) ?_
        refine sm_vi (As := [.int 0]) (rest := [.ref (α.1 1)]) hP hK hD hE hS hA ⟨hx, hb, hml, hown, hts⟩ hl.1 (c_X12_value l D H.size t0 σ100 α 0 _ hF) (cwV 1 hts wg_X12_doThings_X12_value_347 rfl rfl rfl (by decide +kernel) ⟨Nat.le_of_ble_eq_true rfl, Nat.le_of_ble_eq_true rfl⟩) (va_recv hK hP (ci := 12) (q0 := 1) rfl (sm_gX12 σ100 α)) rfl rfl (Nat.le_of_ble_eq_true rfl) dX12_doThings_393 ⟨Nat.zero_le _, Nat.zero_le _⟩ (fun r102 σ101 H locs hF hP hS => ?_)
        refine va_put (D := D) (ci := 12) (v := .int r102) (ty := .int) (C := RX12) (T := TX12) (N := 42) hx hb hts in_X12 tyX12 tyX12_ok nmX12 hown hK hP (hD.to (sm_wM_m _ _)) hS 1 (sm_gX12 σ101 α) rfl 25 (by decide) k_5 (fun _ h9 => h9) rfl (by decide +kernel) rfl rfl (Nat.le_of_ble_eq_true rfl) dX12_doThings_396 (fun H locs hP _ hS => ?_)
        rw [sm_iM16] at hP
        obtain ⟨σ103, eσ103⟩ : ∃ x : sm_S, x = sm_i σ101 16 r102 := ⟨_, rfl⟩
        replace hF := hF σ103 eσ103
        rw [← eσ103] at hP
        refine lv_iconst (v := 1) hx hb dX12_doThings_399 (by decide) ?_
        exact W.zret (v := 1) hx hb hr sm_z1.1 (fun t ht hW => ⟨⟨1, σ103, rfl, hF, (by unfold sm_B; rw [ht]; exact hP)⟩, hS.F ht⟩) hS.2.2 dX12_doThings_400
      · replace hF := hF.2 h99
        refine lv_aload_n hx hb dX12_doThings_379 rfl (lv_at hl 1 rfl) ?_
        refine lv_iconst (v := 0) hx hb dX12_doThings_380 (by decide) ?_
        refine sm_vi (As := [.int 0]) (rest := []) hP hK hD hE hS hA ⟨hx, hb, hml, hown, hts⟩ hl.1 (c_X12_fault l D H.size t0 σ97 α 0 _ hF) (cwV 1 hts wg_X12_doThings_X12_fault_350 rfl rfl rfl (by decide +kernel) ⟨Nat.le_of_ble_eq_true rfl, Nat.le_of_ble_eq_true rfl⟩) (va_recv hK hP (ci := 12) (q0 := 1) rfl (sm_gX12 σ97 α)) rfl rfl (Nat.le_of_ble_eq_true rfl) dX12_doThings_381 ⟨Nat.zero_le _, Nat.zero_le _⟩ (fun r105 σ104 H locs hF hP hS => ?_)
        obtain ⟨h106, hF⟩ := hF
        exact W.zret (v := r105) hx hb hr h106.1 (fun t ht hW => ⟨⟨r105, σ104, rfl, hF, (by unfold sm_B; rw [ht]; exact hP)⟩, hS.F ht⟩) hS.2.2 dX12_doThings_384
    clear gh96
    refine lv_tableOut (tgt := 401) hx hb dX12_doThings_39 (by have q0 := lv_neT h7 (show Int32.toInt 26 = 26 by decide); have q1 := lv_neT h18 (show Int32.toInt 27 = 27 by decide); have q2 := lv_neT h26 (show Int32.toInt 28 = 28 by decide); have q3 := lv_neT h41 (show Int32.toInt 29 = 29 by decide); have q4 := lv_neT h48 (show Int32.toInt 30 = 30 by decide); have q5 := lv_neT h60 (show Int32.toInt 31 = 31 by decide); have q6 := lv_neT h64 (show Int32.toInt 32 = 32 by decide); have q7 := lv_neT h68 (show Int32.toInt 33 = 33 by decide); have q8 := lv_neT h72 (show Int32.toInt 34 = 34 by decide); have q9 := lv_neT h76 (show Int32.toInt 35 = 35 by decide); have q10 := lv_neT h80 (show Int32.toInt 36 = 36 by decide); have q11 := lv_neT h92 (show Int32.toInt 37 = 37 by decide); have q12 := lv_neT h94 (show Int32.toInt 38 = 38 by decide); have q13 := lv_neT h96 (show Int32.toInt 39 = 39 by decide); omega) (by decide) ?_
    replace hF := hF h7 h18 h26 h41 h48 h60 h64 h68 h72 h76 h80 h92 h94 h96
    refine lv_aload_n hx hb dX12_doThings_401 rfl (lv_at hl 1 rfl) ?_
    refine lv_iload_n hx hb dX12_doThings_402 rfl (lv_at hl 2 rfl) ?_
    refine lv_iload_n hx hb dX12_doThings_403 rfl (lv_at hl 3 rfl) ?_
    refine lv_iload_n hx hb dX12_doThings_404 rfl (lv_at hl 4 rfl) ?_
    refine sm_vi (As := [.int x1, .int x2, .int x3]) (rest := []) hP hK hD hE hS hA ⟨hx, hb, hml, hown, hts⟩ hl.1 (c_X12_doRow l D H.size t0 σ α x1 x2 x3 _ hF) (cwV 3 hts wg_X12_doThings_X12_doRow_388 rfl rfl rfl (by decide +kernel) ⟨Nat.le_of_ble_eq_true rfl, Nat.le_of_ble_eq_true rfl⟩) (va_recv hK hP (ci := 12) (q0 := 1) rfl (sm_gX12 σ α)) rfl rfl (Nat.le_of_ble_eq_true rfl) dX12_doThings_405 ⟨Nat.zero_le _, Nat.zero_le _⟩ (fun r108 σ107 H locs hF hP hS => ?_)
    obtain ⟨h109, hF⟩ := hF
    exact W.zret (v := r108) hx hb hr h109.1 (fun t ht hW => ⟨⟨r108, σ107, rfl, hF, (by unfold sm_B; rw [ht]; exact hP)⟩, hS.F ht⟩) hS.2.2 dX12_doThings_408
  unfold mp_X12_doThings at hF
  revert hP hS
  generalize hLo : ([] : List Loc) = locs
  suffices h9 : ∀ (H : Heap) (locs : List Loc), va_P D vwCl (sm_wM σ α) H → va_S A s.heap H locs → W p l e (headSpec wp_X12_doThings { frames := 7, cells := 0, slots := 0, locals := 175 }).room s m ([.ref (α.1 1), .int p1, .int p2] : List Value).toArray below meth c H locs 0 0 (MQ below (va_Qi K (sm_B sm_wM D α) A) ([.ref (α.1 1), .int p1, .int p2] : List Value).toArray s 0 0 A) (F0 m 0 ls []) from fun hP hS => h9 s.heap locs hP hS
  intro H locs hP hS
  refine lv_aload_n hx hb dX12_doThings_0 rfl (lv_at hl 0 rfl) ?_
  refine va_get (D := D) (ci := 12) (v := .ref (α.1 0)) (C := RX12) (T := TX12) (N := 42) hx hb hts in_X12 hown hK hP 1 (sm_gX12 σ α) rfl 0 (by decide) k_0 (fun _ h9 => h9) rfl dX12_doThings_1 ?_
  refine va_getN (D := D) (ci := 11) (v := .ref (α.1 3)) (C := RX11) (T := TX11) (N := 28) hx hb hts in_X11 hown hK hP 0 (sm_gX11 σ α) rfl 2 (by decide) (va_Nw.use rfl (hE.1 (.fieldLinkNest "SteadyMachineModel" 111 "SteadyMachineModel$Image" "image" "[I" "SteadyMachineModel") (by decide +kernel))) (fun _ h9 => h9) rfl dX12_doThings_4 ?_
  refine lv_iload_n hx hb dX12_doThings_7 rfl (lv_at hl 1 rfl) ?_
  refine lv_iconst (v := 1) hx hb dX12_doThings_8 (by decide) ?_
  refine lv_iadd hx hb dX12_doThings_9 ?_
  obtain ⟨h110, hF⟩ := hF
  refine va_iald (n := (σ.2.2.1 3)) (f := (σ.2.2.2.1 3)) hx hb hK hP 3 1 (sm_aM3 σ α) (sm_yM3 α) h110 dX12_doThings_10 ?_
  refine lv_topi (fun v111 ev111 => ?_)
  replace hF := hF v111 ev111
  refine lv_istore_n (lv' := [(3, .int v111), (0, .ref (α.1 1)), (1, .int p1), (2, .int p2)]) hx hb dX12_doThings_11 rfl hl (by decide) rfl (fun ls hl => ?_)
  refine lv_aload_n hx hb dX12_doThings_12 rfl (lv_at hl 1 rfl) ?_
  refine va_get (D := D) (ci := 12) (v := .ref (α.1 0)) (C := RX12) (T := TX12) (N := 42) hx hb hts in_X12 hown hK hP 1 (sm_gX12 σ α) rfl 0 (by decide) k_0 (fun _ h9 => h9) rfl dX12_doThings_13 ?_
  refine va_getN (D := D) (ci := 11) (v := .ref (α.1 3)) (C := RX11) (T := TX11) (N := 28) hx hb hts in_X11 hown hK hP 0 (sm_gX11 σ α) rfl 2 (by decide) (va_Nw.use rfl (hE.1 (.fieldLinkNest "SteadyMachineModel" 111 "SteadyMachineModel$Image" "image" "[I" "SteadyMachineModel") (by decide +kernel))) (fun _ h9 => h9) rfl dX12_doThings_16 ?_
  refine lv_iload_n hx hb dX12_doThings_19 rfl (lv_at hl 2 rfl) ?_
  refine lv_iconst (v := 2) hx hb dX12_doThings_20 (by decide) ?_
  refine lv_iadd hx hb dX12_doThings_21 ?_
  refine lv_sipush (v := 8000) hx hb dX12_doThings_22 (by decide) ?_
  refine lv_icmp_ge (tgt := 34) hx hb dX12_doThings_25 (by decide) (fun h112 => ?_) (fun h112 => ?_)
  · replace hF := hF.1 h112
    refine lv_iload_n hx hb dX12_doThings_34 rfl (lv_at hl 2 rfl) ?_
    exact B35 σ p1 p2 v111 p1 hF H locs ls hP hS (lv_sub hl [1, 2, 3, 0] rfl)
  · replace hF := hF.2 h112
    refine lv_iload_n hx hb dX12_doThings_28 rfl (lv_at hl 2 rfl) ?_
    refine lv_iconst (v := 2) hx hb dX12_doThings_29 (by decide) ?_
    refine lv_iadd hx hb dX12_doThings_30 ?_
    refine lv_goto (tgt := 35) hx hb dX12_doThings_31 (by decide) ?_
    exact B35 σ p1 p2 v111 (p1 + 2) hF H locs ls hP hS (lv_sub hl [1, 2, 3, 0] rfl)
theorem dX12_reckon_0 : decode cX12_reckon 0 = .ok (.iload_n 0, 1) := by decide +kernel
theorem dX12_reckon_1 : decode cX12_reckon 1 = .ok (.tableswitch 101 7 16 #[55, 59, 63, 67, 71, 75, 79, 83, 87, 94], 55) := by decide +kernel
theorem dX12_reckon_56 : decode cX12_reckon 56 = .ok (.iload_n 1, 1) := by decide +kernel
theorem dX12_reckon_57 : decode cX12_reckon 57 = .ok (.iload_n 2, 1) := by decide +kernel
theorem dX12_reckon_58 : decode cX12_reckon 58 = .ok (.iadd, 1) := by decide +kernel
theorem dX12_reckon_59 : decode cX12_reckon 59 = .ok (.ireturn, 1) := by decide +kernel
theorem dX12_reckon_60 : decode cX12_reckon 60 = .ok (.iload_n 1, 1) := by decide +kernel
theorem dX12_reckon_61 : decode cX12_reckon 61 = .ok (.iload_n 2, 1) := by decide +kernel
theorem dX12_reckon_62 : decode cX12_reckon 62 = .ok (.isub, 1) := by decide +kernel
theorem dX12_reckon_63 : decode cX12_reckon 63 = .ok (.ireturn, 1) := by decide +kernel
theorem dX12_reckon_64 : decode cX12_reckon 64 = .ok (.iload_n 1, 1) := by decide +kernel
theorem dX12_reckon_65 : decode cX12_reckon 65 = .ok (.iload_n 2, 1) := by decide +kernel
theorem dX12_reckon_66 : decode cX12_reckon 66 = .ok (.imul, 1) := by decide +kernel
theorem dX12_reckon_67 : decode cX12_reckon 67 = .ok (.ireturn, 1) := by decide +kernel
theorem dX12_reckon_68 : decode cX12_reckon 68 = .ok (.iload_n 1, 1) := by decide +kernel
theorem dX12_reckon_69 : decode cX12_reckon 69 = .ok (.iload_n 2, 1) := by decide +kernel
theorem dX12_reckon_70 : decode cX12_reckon 70 = .ok (.idiv, 1) := by decide +kernel
theorem dX12_reckon_71 : decode cX12_reckon 71 = .ok (.ireturn, 1) := by decide +kernel
theorem dX12_reckon_72 : decode cX12_reckon 72 = .ok (.iload_n 1, 1) := by decide +kernel
theorem dX12_reckon_73 : decode cX12_reckon 73 = .ok (.iload_n 2, 1) := by decide +kernel
theorem dX12_reckon_74 : decode cX12_reckon 74 = .ok (.irem, 1) := by decide +kernel
theorem dX12_reckon_75 : decode cX12_reckon 75 = .ok (.ireturn, 1) := by decide +kernel
theorem dX12_reckon_76 : decode cX12_reckon 76 = .ok (.iload_n 1, 1) := by decide +kernel
theorem dX12_reckon_77 : decode cX12_reckon 77 = .ok (.iload_n 2, 1) := by decide +kernel
theorem dX12_reckon_78 : decode cX12_reckon 78 = .ok (.iand, 1) := by decide +kernel
theorem dX12_reckon_79 : decode cX12_reckon 79 = .ok (.ireturn, 1) := by decide +kernel
theorem dX12_reckon_80 : decode cX12_reckon 80 = .ok (.iload_n 1, 1) := by decide +kernel
theorem dX12_reckon_81 : decode cX12_reckon 81 = .ok (.iload_n 2, 1) := by decide +kernel
theorem dX12_reckon_82 : decode cX12_reckon 82 = .ok (.ior, 1) := by decide +kernel
theorem dX12_reckon_83 : decode cX12_reckon 83 = .ok (.ireturn, 1) := by decide +kernel
theorem dX12_reckon_84 : decode cX12_reckon 84 = .ok (.iload_n 1, 1) := by decide +kernel
theorem dX12_reckon_85 : decode cX12_reckon 85 = .ok (.iload_n 2, 1) := by decide +kernel
theorem dX12_reckon_86 : decode cX12_reckon 86 = .ok (.ixor, 1) := by decide +kernel
theorem dX12_reckon_87 : decode cX12_reckon 87 = .ok (.ireturn, 1) := by decide +kernel
theorem dX12_reckon_88 : decode cX12_reckon 88 = .ok (.iload_n 1, 1) := by decide +kernel
theorem dX12_reckon_89 : decode cX12_reckon 89 = .ok (.iload_n 2, 1) := by decide +kernel
theorem dX12_reckon_90 : decode cX12_reckon 90 = .ok (.bipush 31, 2) := by decide +kernel
theorem dX12_reckon_92 : decode cX12_reckon 92 = .ok (.iand, 1) := by decide +kernel
theorem dX12_reckon_93 : decode cX12_reckon 93 = .ok (.ishl, 1) := by decide +kernel
theorem dX12_reckon_94 : decode cX12_reckon 94 = .ok (.ireturn, 1) := by decide +kernel
theorem dX12_reckon_95 : decode cX12_reckon 95 = .ok (.iload_n 1, 1) := by decide +kernel
theorem dX12_reckon_96 : decode cX12_reckon 96 = .ok (.iload_n 2, 1) := by decide +kernel
theorem dX12_reckon_97 : decode cX12_reckon 97 = .ok (.bipush 31, 2) := by decide +kernel
theorem dX12_reckon_99 : decode cX12_reckon 99 = .ok (.iand, 1) := by decide +kernel
theorem dX12_reckon_100 : decode cX12_reckon 100 = .ok (.ishr, 1) := by decide +kernel
theorem dX12_reckon_101 : decode cX12_reckon 101 = .ok (.ireturn, 1) := by decide +kernel
theorem dX12_reckon_102 : decode cX12_reckon 102 = .ok (.iload_n 1, 1) := by decide +kernel
theorem dX12_reckon_103 : decode cX12_reckon 103 = .ok (.iload_n 2, 1) := by decide +kernel
theorem dX12_reckon_104 : decode cX12_reckon 104 = .ok (.bipush 31, 2) := by decide +kernel
theorem dX12_reckon_106 : decode cX12_reckon 106 = .ok (.iand, 1) := by decide +kernel
theorem dX12_reckon_107 : decode cX12_reckon 107 = .ok (.iushr, 1) := by decide +kernel
theorem dX12_reckon_108 : decode cX12_reckon 108 = .ok (.ireturn, 1) := by decide +kernel
def wp_X12_reckon : List Cond := .code yX12_reckon cX12_reckon 3 (some .int) :: []
theorem wq_X12_reckon : wp_X12_reckon.all goodWord = true := wa_c rfl (by decide +kernel)
theorem wt_X12_reckon : GoodIn lw_tbl wp_X12_reckon := wm_c (List.mem_of_getElem? (i := 1773) (by decide +kernel)) rfl (goodIn_r _ [] (by decide +kernel) (by decide +kernel))
set_option maxHeartbeats 4000000 in
set_option maxRecDepth 100000 in
theorem c_X12_reckon (l : Launch) (D : va_G) (sz t0 : Nat) (σ : sm_S) (α : sm_A) (p1 : Int32) (p2 : Int32) (p3 : Int32) (K : Int32 → sm_S → Prop) (hF : mp_X12_reckon σ p1 p2 p3 K) : Met l yX12_reckon wp_X12_reckon { frames := 0, cells := 0, slots := 0, locals := 0 } (sm_P sm_wM sm_tM 40 D sz t0 σ α [.int p1, .int p2, .int p3]) (va_Qi K (sm_B sm_wM D α) (sm_a α 40 sz)) 0 0 (sm_a α 40 sz) := by
  refine Met.ofW (cc := cX12_reckon) (maxL := 3) (ret := (some .int)) (by decide) rfl ?_
  intro p e s m args below meth c s₁ B hml hv
  obtain ⟨rfl, hsz, hP, hK, hD0, hE⟩ := hv
  have hx := B.exec
  have hb := B.bytes
  have hr := B.returns
  have hts := atoms_spec (ws := wp_X12_reckon) B.pre
  have hown : s.vm.findClass RX12 = some m.cls := findClass_of_methodNamed B.named
  have hlocks := B.notSynchronized
  subst hsz
  have hD : sm_D (sm_a α 40 s.heap.size) α 40 := hD0.own
  have hA : ∀ q : Nat, s.heap.size ≤ q → sm_a α 40 s.heap.size q := fun q h => Or.inr h
  generalize hAe : sm_a α 40 s.heap.size = A at hD hA hE ⊢
  have hS : va_S A s.heap s.heap [] := va_S.rf
  have hl := lv_entry ([.int p1, .int p2, .int p3]) (n := 3) (Nat.le_of_ble_eq_true rfl)
  rw [lg_entry_eq]
  generalize (lg_sl ([.int p1, .int p2, .int p3]) ++ List.replicate (3 - (lg_sl ([.int p1, .int p2, .int p3])).length) Slot.unset).toArray = ls at hl ⊢
  have hl : lv_has ls 3 [(0, .int p1), (1, .int p2), (2, .int p3)] := hl
  unfold mp_X12_reckon at hF
  revert hP hS
  generalize hLo : ([] : List Loc) = locs
  suffices h9 : ∀ (H : Heap) (locs : List Loc), va_P D vwCl (sm_wM σ α) H → va_S A s.heap H locs → W p l e (headSpec wp_X12_reckon { frames := 0, cells := 0, slots := 0, locals := 0 }).room s m ([.int p1, .int p2, .int p3] : List Value).toArray below meth c H locs 0 0 (MQ below (va_Qi K (sm_B sm_wM D α) A) ([.int p1, .int p2, .int p3] : List Value).toArray s 0 0 A) (F0 m 0 ls []) from fun hP hS => h9 s.heap locs hP hS
  intro H locs hP hS
  refine lv_iload_n hx hb dX12_reckon_0 rfl (lv_at hl 0 rfl) ?_
  obtain ⟨gh1, hF⟩ := hF
  by_cases h1 : p1 = 7
  · refine lv_tableIn (tgt := 56) hx hb dX12_reckon_1 (by rw [h1]; decide) (by rw [h1]; decide) (by rw [h1]; rfl) (by decide) ?_
    clear hF
    have hF := gh1 h1
    clear gh1
    refine lv_iload_n hx hb dX12_reckon_56 rfl (lv_at hl 1 rfl) ?_
    refine lv_iload_n hx hb dX12_reckon_57 rfl (lv_at hl 2 rfl) ?_
    refine lv_iadd hx hb dX12_reckon_58 ?_
    exact W.iret (v := (p2 + p3)) hx hb hr (fun t ht hW => ⟨⟨(p2 + p3), σ, rfl, hF, (by unfold sm_B; rw [ht]; exact hP)⟩, hS.F ht⟩) hS.2.2 dX12_reckon_59
  clear gh1
  obtain ⟨gh2, hF⟩ := hF
  by_cases h2 : p1 = 8
  · refine lv_tableIn (tgt := 60) hx hb dX12_reckon_1 (by rw [h2]; decide) (by rw [h2]; decide) (by rw [h2]; rfl) (by decide) ?_
    clear hF
    have hF := gh2 h2
    clear gh2
    refine lv_iload_n hx hb dX12_reckon_60 rfl (lv_at hl 1 rfl) ?_
    refine lv_iload_n hx hb dX12_reckon_61 rfl (lv_at hl 2 rfl) ?_
    refine lv_isub hx hb dX12_reckon_62 ?_
    exact W.iret (v := (p2 - p3)) hx hb hr (fun t ht hW => ⟨⟨(p2 - p3), σ, rfl, hF, (by unfold sm_B; rw [ht]; exact hP)⟩, hS.F ht⟩) hS.2.2 dX12_reckon_63
  clear gh2
  obtain ⟨gh3, hF⟩ := hF
  by_cases h3 : p1 = 9
  · refine lv_tableIn (tgt := 64) hx hb dX12_reckon_1 (by rw [h3]; decide) (by rw [h3]; decide) (by rw [h3]; rfl) (by decide) ?_
    clear hF
    have hF := gh3 h3
    clear gh3
    refine lv_iload_n hx hb dX12_reckon_64 rfl (lv_at hl 1 rfl) ?_
    refine lv_iload_n hx hb dX12_reckon_65 rfl (lv_at hl 2 rfl) ?_
    refine lv_imul hx hb dX12_reckon_66 ?_
    exact W.iret (v := (p2 * p3)) hx hb hr (fun t ht hW => ⟨⟨(p2 * p3), σ, rfl, hF, (by unfold sm_B; rw [ht]; exact hP)⟩, hS.F ht⟩) hS.2.2 dX12_reckon_67
  clear gh3
  obtain ⟨gh4, hF⟩ := hF
  by_cases h4 : p1 = 10
  · refine lv_tableIn (tgt := 68) hx hb dX12_reckon_1 (by rw [h4]; decide) (by rw [h4]; decide) (by rw [h4]; rfl) (by decide) ?_
    clear hF
    have hF := gh4 h4
    clear gh4
    refine lv_iload_n hx hb dX12_reckon_68 rfl (lv_at hl 1 rfl) ?_
    refine lv_iload_n hx hb dX12_reckon_69 rfl (lv_at hl 2 rfl) ?_
    obtain ⟨h5, hF⟩ := hF
    refine lv_idiv hx hb dX12_reckon_70 h5 ?_
    exact W.iret (v := (p2 / p3)) hx hb hr (fun t ht hW => ⟨⟨(p2 / p3), σ, rfl, hF, (by unfold sm_B; rw [ht]; exact hP)⟩, hS.F ht⟩) hS.2.2 dX12_reckon_71
  clear gh4
  obtain ⟨gh6, hF⟩ := hF
  by_cases h6 : p1 = 11
  · refine lv_tableIn (tgt := 72) hx hb dX12_reckon_1 (by rw [h6]; decide) (by rw [h6]; decide) (by rw [h6]; rfl) (by decide) ?_
    clear hF
    have hF := gh6 h6
    clear gh6
    refine lv_iload_n hx hb dX12_reckon_72 rfl (lv_at hl 1 rfl) ?_
    refine lv_iload_n hx hb dX12_reckon_73 rfl (lv_at hl 2 rfl) ?_
    obtain ⟨h7, hF⟩ := hF
    refine lv_irem hx hb dX12_reckon_74 h7 ?_
    exact W.iret (v := (p2 - p2 / p3 * p3)) hx hb hr (fun t ht hW => ⟨⟨(p2 - p2 / p3 * p3), σ, rfl, hF, (by unfold sm_B; rw [ht]; exact hP)⟩, hS.F ht⟩) hS.2.2 dX12_reckon_75
  clear gh6
  obtain ⟨gh8, hF⟩ := hF
  by_cases h8 : p1 = 12
  · refine lv_tableIn (tgt := 76) hx hb dX12_reckon_1 (by rw [h8]; decide) (by rw [h8]; decide) (by rw [h8]; rfl) (by decide) ?_
    clear hF
    have hF := gh8 h8
    clear gh8
    refine lv_iload_n hx hb dX12_reckon_76 rfl (lv_at hl 1 rfl) ?_
    refine lv_iload_n hx hb dX12_reckon_77 rfl (lv_at hl 2 rfl) ?_
    refine lv_iand hx hb dX12_reckon_78 ?_
    exact W.iret (v := (p2 &&& p3)) hx hb hr (fun t ht hW => ⟨⟨(p2 &&& p3), σ, rfl, hF, (by unfold sm_B; rw [ht]; exact hP)⟩, hS.F ht⟩) hS.2.2 dX12_reckon_79
  clear gh8
  obtain ⟨gh9, hF⟩ := hF
  by_cases h9 : p1 = 13
  · refine lv_tableIn (tgt := 80) hx hb dX12_reckon_1 (by rw [h9]; decide) (by rw [h9]; decide) (by rw [h9]; rfl) (by decide) ?_
    clear hF
    have hF := gh9 h9
    clear gh9
    refine lv_iload_n hx hb dX12_reckon_80 rfl (lv_at hl 1 rfl) ?_
    refine lv_iload_n hx hb dX12_reckon_81 rfl (lv_at hl 2 rfl) ?_
    refine lv_ior hx hb dX12_reckon_82 ?_
    exact W.iret (v := (p2 ||| p3)) hx hb hr (fun t ht hW => ⟨⟨(p2 ||| p3), σ, rfl, hF, (by unfold sm_B; rw [ht]; exact hP)⟩, hS.F ht⟩) hS.2.2 dX12_reckon_83
  clear gh9
  obtain ⟨gh10, hF⟩ := hF
  by_cases h10 : p1 = 14
  · refine lv_tableIn (tgt := 84) hx hb dX12_reckon_1 (by rw [h10]; decide) (by rw [h10]; decide) (by rw [h10]; rfl) (by decide) ?_
    clear hF
    have hF := gh10 h10
    clear gh10
    refine lv_iload_n hx hb dX12_reckon_84 rfl (lv_at hl 1 rfl) ?_
    refine lv_iload_n hx hb dX12_reckon_85 rfl (lv_at hl 2 rfl) ?_
    refine lv_ixor hx hb dX12_reckon_86 ?_
    exact W.iret (v := (p2 ^^^ p3)) hx hb hr (fun t ht hW => ⟨⟨(p2 ^^^ p3), σ, rfl, hF, (by unfold sm_B; rw [ht]; exact hP)⟩, hS.F ht⟩) hS.2.2 dX12_reckon_87
  clear gh10
  obtain ⟨gh11, hF⟩ := hF
  by_cases h11 : p1 = 15
  · refine lv_tableIn (tgt := 88) hx hb dX12_reckon_1 (by rw [h11]; decide) (by rw [h11]; decide) (by rw [h11]; rfl) (by decide) ?_
    clear hF
    have hF := gh11 h11
    clear gh11
    refine lv_iload_n hx hb dX12_reckon_88 rfl (lv_at hl 1 rfl) ?_
    refine lv_iload_n hx hb dX12_reckon_89 rfl (lv_at hl 2 rfl) ?_
    refine lv_bipush (v := 31) hx hb dX12_reckon_90 (by decide) ?_
    refine lv_iand hx hb dX12_reckon_92 ?_
    refine lv_ishl hx hb dX12_reckon_93 ?_
    exact W.iret (v := (p2 <<< ((p3 &&& 31) &&& 31))) hx hb hr (fun t ht hW => ⟨⟨(p2 <<< ((p3 &&& 31) &&& 31)), σ, rfl, hF, (by unfold sm_B; rw [ht]; exact hP)⟩, hS.F ht⟩) hS.2.2 dX12_reckon_94
  clear gh11
  obtain ⟨gh12, hF⟩ := hF
  by_cases h12 : p1 = 16
  · refine lv_tableIn (tgt := 95) hx hb dX12_reckon_1 (by rw [h12]; decide) (by rw [h12]; decide) (by rw [h12]; rfl) (by decide) ?_
    clear hF
    have hF := gh12 h12
    clear gh12
    refine lv_iload_n hx hb dX12_reckon_95 rfl (lv_at hl 1 rfl) ?_
    refine lv_iload_n hx hb dX12_reckon_96 rfl (lv_at hl 2 rfl) ?_
    refine lv_bipush (v := 31) hx hb dX12_reckon_97 (by decide) ?_
    refine lv_iand hx hb dX12_reckon_99 ?_
    refine lv_ishr hx hb dX12_reckon_100 ?_
    exact W.iret (v := (p2 >>> ((p3 &&& 31) &&& 31))) hx hb hr (fun t ht hW => ⟨⟨(p2 >>> ((p3 &&& 31) &&& 31)), σ, rfl, hF, (by unfold sm_B; rw [ht]; exact hP)⟩, hS.F ht⟩) hS.2.2 dX12_reckon_101
  clear gh12
  refine lv_tableOut (tgt := 102) hx hb dX12_reckon_1 (by have q0 := lv_neT h1 (show Int32.toInt 7 = 7 by decide); have q1 := lv_neT h2 (show Int32.toInt 8 = 8 by decide); have q2 := lv_neT h3 (show Int32.toInt 9 = 9 by decide); have q3 := lv_neT h4 (show Int32.toInt 10 = 10 by decide); have q4 := lv_neT h6 (show Int32.toInt 11 = 11 by decide); have q5 := lv_neT h8 (show Int32.toInt 12 = 12 by decide); have q6 := lv_neT h9 (show Int32.toInt 13 = 13 by decide); have q7 := lv_neT h10 (show Int32.toInt 14 = 14 by decide); have q8 := lv_neT h11 (show Int32.toInt 15 = 15 by decide); have q9 := lv_neT h12 (show Int32.toInt 16 = 16 by decide); omega) (by decide) ?_
  replace hF := hF h1 h2 h3 h4 h6 h8 h9 h10 h11 h12
  refine lv_iload_n hx hb dX12_reckon_102 rfl (lv_at hl 1 rfl) ?_
  refine lv_iload_n hx hb dX12_reckon_103 rfl (lv_at hl 2 rfl) ?_
  refine lv_bipush (v := 31) hx hb dX12_reckon_104 (by decide) ?_
  refine lv_iand hx hb dX12_reckon_106 ?_
  refine lv_iushr hx hb dX12_reckon_107 rfl ?_
  exact W.iret (v := (p2.toUInt32 >>> ((p3 &&& 31).toUInt32 &&& Int32.toUInt32 31)).toInt32) hx hb hr (fun t ht hW => ⟨⟨(p2.toUInt32 >>> ((p3 &&& 31).toUInt32 &&& Int32.toUInt32 31)).toInt32, σ, rfl, hF, (by unfold sm_B; rw [ht]; exact hP)⟩, hS.F ht⟩) hS.2.2 dX12_reckon_108
theorem dX12_doValues_0 : decode cX12_doValues 0 = .ok (.iload_n 2, 1) := by decide +kernel
theorem dX12_doValues_1 : decode cX12_doValues 1 = .ok (.bipush 7, 2) := by decide +kernel
theorem dX12_doValues_3 : decode cX12_doValues 3 = .ok (.if_icmp .lt 39, 3) := by decide +kernel
theorem dX12_doValues_6 : decode cX12_doValues 6 = .ok (.iload_n 2, 1) := by decide +kernel
theorem dX12_doValues_7 : decode cX12_doValues 7 = .ok (.bipush 17, 2) := by decide +kernel
theorem dX12_doValues_9 : decode cX12_doValues 9 = .ok (.if_icmp .gt 33, 3) := by decide +kernel
theorem dX12_doValues_12 : decode cX12_doValues 12 = .ok (.aload_n 0, 1) := by decide +kernel
theorem dX12_doValues_13 : decode cX12_doValues 13 = .ok (.iconst 0, 1) := by decide +kernel
theorem dX12_doValues_14 : decode cX12_doValues 14 = .ok (.invokevirtual 347, 3) := by decide +kernel
theorem dX12_doValues_17 : decode cX12_doValues 17 = .ok (.istore_n 3, 1) := by decide +kernel
theorem dX12_doValues_18 : decode cX12_doValues 18 = .ok (.aload_n 0, 1) := by decide +kernel
theorem dX12_doValues_19 : decode cX12_doValues 19 = .ok (.iconst 1, 1) := by decide +kernel
theorem dX12_doValues_20 : decode cX12_doValues 20 = .ok (.invokevirtual 347, 3) := by decide +kernel
theorem dX12_doValues_23 : decode cX12_doValues 23 = .ok (.istore 4, 2) := by decide +kernel
theorem dX12_doValues_25 : decode cX12_doValues 25 = .ok (.aload_n 0, 1) := by decide +kernel
theorem dX12_doValues_26 : decode cX12_doValues 26 = .ok (.iconst 2, 1) := by decide +kernel
theorem dX12_doValues_27 : decode cX12_doValues 27 = .ok (.invokevirtual 359, 3) := by decide +kernel
theorem dX12_doValues_30 : decode cX12_doValues 30 = .ok (.aload_n 0, 1) := by decide +kernel
theorem dX12_doValues_31 : decode cX12_doValues 31 = .ok (.iload_n 2, 1) := by decide +kernel
theorem dX12_doValues_32 : decode cX12_doValues 32 = .ok (.iload 4, 2) := by decide +kernel
theorem dX12_doValues_34 : decode cX12_doValues 34 = .ok (.iload_n 3, 1) := by decide +kernel
theorem dX12_doValues_35 : decode cX12_doValues 35 = .ok (.invokestatic 362, 3) := by decide +kernel
theorem dX12_doValues_38 : decode cX12_doValues 38 = .ok (.invokevirtual 366, 3) := by decide +kernel
theorem dX12_doValues_41 : decode cX12_doValues 41 = .ok (.return_, 1) := by decide +kernel
theorem dX12_doValues_42 : decode cX12_doValues 42 = .ok (.bipush 12, 2) := by decide +kernel
theorem dX12_doValues_44 : decode cX12_doValues 44 = .ok (.aload_n 0, 1) := by decide +kernel
theorem dX12_doValues_45 : decode cX12_doValues 45 = .ok (.getfield 256, 3) := by decide +kernel
theorem dX12_doValues_48 : decode cX12_doValues 48 = .ok (.iconst 1, 1) := by decide +kernel
theorem dX12_doValues_49 : decode cX12_doValues 49 = .ok (.isub, 1) := by decide +kernel
theorem dX12_doValues_50 : decode cX12_doValues 50 = .ok (.imul, 1) := by decide +kernel
theorem dX12_doValues_51 : decode cX12_doValues 51 = .ok (.istore_n 3, 1) := by decide +kernel
theorem dX12_doValues_52 : decode cX12_doValues 52 = .ok (.aload_n 0, 1) := by decide +kernel
theorem dX12_doValues_53 : decode cX12_doValues 53 = .ok (.getfield 10, 3) := by decide +kernel
theorem dX12_doValues_56 : decode cX12_doValues 56 = .ok (.getfield 111, 3) := by decide +kernel
theorem dX12_doValues_59 : decode cX12_doValues 59 = .ok (.iload_n 1, 1) := by decide +kernel
theorem dX12_doValues_60 : decode cX12_doValues 60 = .ok (.iconst 1, 1) := by decide +kernel
theorem dX12_doValues_61 : decode cX12_doValues 61 = .ok (.iadd, 1) := by decide +kernel
theorem dX12_doValues_62 : decode cX12_doValues 62 = .ok (.iaload, 1) := by decide +kernel
theorem dX12_doValues_63 : decode cX12_doValues 63 = .ok (.istore 4, 2) := by decide +kernel
theorem dX12_doValues_65 : decode cX12_doValues 65 = .ok (.iload_n 2, 1) := by decide +kernel
theorem dX12_doValues_66 : decode cX12_doValues 66 = .ok (.lookupswitch 354 #[(0, 82), (1, 113), (2, 121), (3, 152), (4, 173), (5, 181), (6, 213), (18, 273), (40, 292)], 82) := by decide +kernel
theorem dX12_doValues_148 : decode cX12_doValues 148 = .ok (.aload_n 0, 1) := by decide +kernel
theorem dX12_doValues_149 : decode cX12_doValues 149 = .ok (.aload_n 0, 1) := by decide +kernel
theorem dX12_doValues_150 : decode cX12_doValues 150 = .ok (.getfield 10, 3) := by decide +kernel
theorem dX12_doValues_153 : decode cX12_doValues 153 = .ok (.iload_n 1, 1) := by decide +kernel
theorem dX12_doValues_154 : decode cX12_doValues 154 = .ok (.iconst 1, 1) := by decide +kernel
theorem dX12_doValues_155 : decode cX12_doValues 155 = .ok (.iadd, 1) := by decide +kernel
theorem dX12_doValues_156 : decode cX12_doValues 156 = .ok (.invokevirtual 113, 3) := by decide +kernel
theorem dX12_doValues_159 : decode cX12_doValues 159 = .ok (.bipush 16, 2) := by decide +kernel
theorem dX12_doValues_161 : decode cX12_doValues 161 = .ok (.ishl, 1) := by decide +kernel
theorem dX12_doValues_162 : decode cX12_doValues 162 = .ok (.aload_n 0, 1) := by decide +kernel
theorem dX12_doValues_163 : decode cX12_doValues 163 = .ok (.getfield 10, 3) := by decide +kernel
theorem dX12_doValues_166 : decode cX12_doValues 166 = .ok (.iload_n 1, 1) := by decide +kernel
theorem dX12_doValues_167 : decode cX12_doValues 167 = .ok (.iconst 3, 1) := by decide +kernel
theorem dX12_doValues_168 : decode cX12_doValues 168 = .ok (.iadd, 1) := by decide +kernel
theorem dX12_doValues_169 : decode cX12_doValues 169 = .ok (.invokevirtual 113, 3) := by decide +kernel
theorem dX12_doValues_172 : decode cX12_doValues 172 = .ok (.ior, 1) := by decide +kernel
theorem dX12_doValues_173 : decode cX12_doValues 173 = .ok (.invokevirtual 366, 3) := by decide +kernel
theorem dX12_doValues_176 : decode cX12_doValues 176 = .ok (.goto 293, 3) := by decide +kernel
theorem dX12_doValues_179 : decode cX12_doValues 179 = .ok (.aload_n 0, 1) := by decide +kernel
theorem dX12_doValues_180 : decode cX12_doValues 180 = .ok (.iconst (-1), 1) := by decide +kernel
theorem dX12_doValues_181 : decode cX12_doValues 181 = .ok (.invokevirtual 332, 3) := by decide +kernel
theorem dX12_doValues_184 : decode cX12_doValues 184 = .ok (.goto 285, 3) := by decide +kernel
theorem dX12_doValues_187 : decode cX12_doValues 187 = .ok (.aload_n 0, 1) := by decide +kernel
theorem dX12_doValues_188 : decode cX12_doValues 188 = .ok (.getfield 211, 3) := by decide +kernel
theorem dX12_doValues_191 : decode cX12_doValues 191 = .ok (.aload_n 0, 1) := by decide +kernel
theorem dX12_doValues_192 : decode cX12_doValues 192 = .ok (.getfield 256, 3) := by decide +kernel
theorem dX12_doValues_195 : decode cX12_doValues 195 = .ok (.iconst 1, 1) := by decide +kernel
theorem dX12_doValues_196 : decode cX12_doValues 196 = .ok (.isub, 1) := by decide +kernel
theorem dX12_doValues_197 : decode cX12_doValues 197 = .ok (.dup2, 1) := by decide +kernel
theorem dX12_doValues_198 : decode cX12_doValues 198 = .ok (.iaload, 1) := by decide +kernel
theorem dX12_doValues_199 : decode cX12_doValues 199 = .ok (.iconst 1, 1) := by decide +kernel
theorem dX12_doValues_200 : decode cX12_doValues 200 = .ok (.iadd, 1) := by decide +kernel
theorem dX12_doValues_201 : decode cX12_doValues 201 = .ok (.iastore, 1) := by decide +kernel
theorem dX12_doValues_202 : decode cX12_doValues 202 = .ok (.aload_n 0, 1) := by decide +kernel
theorem dX12_doValues_203 : decode cX12_doValues 203 = .ok (.iload_n 3, 1) := by decide +kernel
theorem dX12_doValues_204 : decode cX12_doValues 204 = .ok (.iload 4, 2) := by decide +kernel
theorem dX12_doValues_206 : decode cX12_doValues 206 = .ok (.iadd, 1) := by decide +kernel
theorem dX12_doValues_207 : decode cX12_doValues 207 = .ok (.aload_n 0, 1) := by decide +kernel
theorem dX12_doValues_208 : decode cX12_doValues 208 = .ok (.iconst 0, 1) := by decide +kernel
theorem dX12_doValues_209 : decode cX12_doValues 209 = .ok (.invokevirtual 320, 3) := by decide +kernel
theorem dX12_doValues_212 : decode cX12_doValues 212 = .ok (.invokevirtual 369, 3) := by decide +kernel
theorem dX12_doValues_215 : decode cX12_doValues 215 = .ok (.goto 254, 3) := by decide +kernel
theorem dX12_doValues_218 : decode cX12_doValues 218 = .ok (.aload_n 0, 1) := by decide +kernel
theorem dX12_doValues_219 : decode cX12_doValues 219 = .ok (.aload_n 0, 1) := by decide +kernel
theorem dX12_doValues_220 : decode cX12_doValues 220 = .ok (.iconst 0, 1) := by decide +kernel
theorem dX12_doValues_221 : decode cX12_doValues 221 = .ok (.invokevirtual 320, 3) := by decide +kernel
theorem dX12_doValues_224 : decode cX12_doValues 224 = .ok (.iload_n 3, 1) := by decide +kernel
theorem dX12_doValues_225 : decode cX12_doValues 225 = .ok (.iload 4, 2) := by decide +kernel
theorem dX12_doValues_227 : decode cX12_doValues 227 = .ok (.iadd, 1) := by decide +kernel
theorem dX12_doValues_228 : decode cX12_doValues 228 = .ok (.invokevirtual 369, 3) := by decide +kernel
theorem dX12_doValues_231 : decode cX12_doValues 231 = .ok (.aload_n 0, 1) := by decide +kernel
theorem dX12_doValues_232 : decode cX12_doValues 232 = .ok (.iconst 1, 1) := by decide +kernel
theorem dX12_doValues_233 : decode cX12_doValues 233 = .ok (.invokevirtual 359, 3) := by decide +kernel
theorem dX12_doValues_236 : decode cX12_doValues 236 = .ok (.goto 233, 3) := by decide +kernel
theorem dX12_doValues_239 : decode cX12_doValues 239 = .ok (.aload_n 0, 1) := by decide +kernel
theorem dX12_doValues_240 : decode cX12_doValues 240 = .ok (.iconst 1, 1) := by decide +kernel
theorem dX12_doValues_241 : decode cX12_doValues 241 = .ok (.invokevirtual 359, 3) := by decide +kernel
theorem dX12_doValues_244 : decode cX12_doValues 244 = .ok (.goto 225, 3) := by decide +kernel
theorem dX12_doValues_247 : decode cX12_doValues 247 = .ok (.aload_n 0, 1) := by decide +kernel
theorem dX12_doValues_248 : decode cX12_doValues 248 = .ok (.getfield 211, 3) := by decide +kernel
theorem dX12_doValues_251 : decode cX12_doValues 251 = .ok (.aload_n 0, 1) := by decide +kernel
theorem dX12_doValues_252 : decode cX12_doValues 252 = .ok (.getfield 256, 3) := by decide +kernel
theorem dX12_doValues_255 : decode cX12_doValues 255 = .ok (.iconst 1, 1) := by decide +kernel
theorem dX12_doValues_256 : decode cX12_doValues 256 = .ok (.isub, 1) := by decide +kernel
theorem dX12_doValues_257 : decode cX12_doValues 257 = .ok (.dup2, 1) := by decide +kernel
theorem dX12_doValues_258 : decode cX12_doValues 258 = .ok (.iaload, 1) := by decide +kernel
theorem dX12_doValues_259 : decode cX12_doValues 259 = .ok (.iconst 1, 1) := by decide +kernel
theorem dX12_doValues_260 : decode cX12_doValues 260 = .ok (.iadd, 1) := by decide +kernel
theorem dX12_doValues_261 : decode cX12_doValues 261 = .ok (.iastore, 1) := by decide +kernel
theorem dX12_doValues_262 : decode cX12_doValues 262 = .ok (.aload_n 0, 1) := by decide +kernel
theorem dX12_doValues_263 : decode cX12_doValues 263 = .ok (.aload_n 0, 1) := by decide +kernel
theorem dX12_doValues_264 : decode cX12_doValues 264 = .ok (.iconst 1, 1) := by decide +kernel
theorem dX12_doValues_265 : decode cX12_doValues 265 = .ok (.invokevirtual 320, 3) := by decide +kernel
theorem dX12_doValues_268 : decode cX12_doValues 268 = .ok (.aload_n 0, 1) := by decide +kernel
theorem dX12_doValues_269 : decode cX12_doValues 269 = .ok (.iconst 0, 1) := by decide +kernel
theorem dX12_doValues_270 : decode cX12_doValues 270 = .ok (.invokevirtual 320, 3) := by decide +kernel
theorem dX12_doValues_273 : decode cX12_doValues 273 = .ok (.invokevirtual 369, 3) := by decide +kernel
theorem dX12_doValues_276 : decode cX12_doValues 276 = .ok (.goto 193, 3) := by decide +kernel
theorem dX12_doValues_279 : decode cX12_doValues 279 = .ok (.aload_n 0, 1) := by decide +kernel
theorem dX12_doValues_280 : decode cX12_doValues 280 = .ok (.iconst 0, 1) := by decide +kernel
theorem dX12_doValues_281 : decode cX12_doValues 281 = .ok (.invokevirtual 347, 3) := by decide +kernel
theorem dX12_doValues_284 : decode cX12_doValues 284 = .ok (.istore 5, 2) := by decide +kernel
theorem dX12_doValues_286 : decode cX12_doValues 286 = .ok (.aload_n 0, 1) := by decide +kernel
theorem dX12_doValues_287 : decode cX12_doValues 287 = .ok (.getfield 218, 3) := by decide +kernel
theorem dX12_doValues_290 : decode cX12_doValues 290 = .ok (.aload_n 0, 1) := by decide +kernel
theorem dX12_doValues_291 : decode cX12_doValues 291 = .ok (.iconst 0, 1) := by decide +kernel
theorem dX12_doValues_292 : decode cX12_doValues 292 = .ok (.invokevirtual 320, 3) := by decide +kernel
theorem dX12_doValues_295 : decode cX12_doValues 295 = .ok (.baload, 1) := by decide +kernel
theorem dX12_doValues_296 : decode cX12_doValues 296 = .ok (.istore 6, 2) := by decide +kernel
theorem dX12_doValues_298 : decode cX12_doValues 298 = .ok (.aload_n 0, 1) := by decide +kernel
theorem dX12_doValues_299 : decode cX12_doValues 299 = .ok (.aload_n 0, 1) := by decide +kernel
theorem dX12_doValues_300 : decode cX12_doValues 300 = .ok (.iconst 1, 1) := by decide +kernel
theorem dX12_doValues_301 : decode cX12_doValues 301 = .ok (.invokevirtual 320, 3) := by decide +kernel
theorem dX12_doValues_304 : decode cX12_doValues 304 = .ok (.aload_n 0, 1) := by decide +kernel
theorem dX12_doValues_305 : decode cX12_doValues 305 = .ok (.iconst 0, 1) := by decide +kernel
theorem dX12_doValues_306 : decode cX12_doValues 306 = .ok (.invokevirtual 320, 3) := by decide +kernel
theorem dX12_doValues_309 : decode cX12_doValues 309 = .ok (.invokevirtual 369, 3) := by decide +kernel
theorem dX12_doValues_312 : decode cX12_doValues 312 = .ok (.aload_n 0, 1) := by decide +kernel
theorem dX12_doValues_313 : decode cX12_doValues 313 = .ok (.getfield 215, 3) := by decide +kernel
theorem dX12_doValues_316 : decode cX12_doValues 316 = .ok (.aload_n 0, 1) := by decide +kernel
theorem dX12_doValues_317 : decode cX12_doValues 317 = .ok (.iconst 1, 1) := by decide +kernel
theorem dX12_doValues_318 : decode cX12_doValues 318 = .ok (.invokevirtual 320, 3) := by decide +kernel
theorem dX12_doValues_321 : decode cX12_doValues 321 = .ok (.iload 5, 2) := by decide +kernel
theorem dX12_doValues_323 : decode cX12_doValues 323 = .ok (.iastore, 1) := by decide +kernel
theorem dX12_doValues_324 : decode cX12_doValues 324 = .ok (.aload_n 0, 1) := by decide +kernel
theorem dX12_doValues_325 : decode cX12_doValues 325 = .ok (.getfield 218, 3) := by decide +kernel
theorem dX12_doValues_328 : decode cX12_doValues 328 = .ok (.aload_n 0, 1) := by decide +kernel
theorem dX12_doValues_329 : decode cX12_doValues 329 = .ok (.iconst 1, 1) := by decide +kernel
theorem dX12_doValues_330 : decode cX12_doValues 330 = .ok (.invokevirtual 320, 3) := by decide +kernel
theorem dX12_doValues_333 : decode cX12_doValues 333 = .ok (.iload 6, 2) := by decide +kernel
theorem dX12_doValues_335 : decode cX12_doValues 335 = .ok (.bastore, 1) := by decide +kernel
theorem dX12_doValues_336 : decode cX12_doValues 336 = .ok (.goto 133, 3) := by decide +kernel
theorem dX12_doValues_339 : decode cX12_doValues 339 = .ok (.aload_n 0, 1) := by decide +kernel
theorem dX12_doValues_340 : decode cX12_doValues 340 = .ok (.getfield 215, 3) := by decide +kernel
theorem dX12_doValues_343 : decode cX12_doValues 343 = .ok (.aload_n 0, 1) := by decide +kernel
theorem dX12_doValues_344 : decode cX12_doValues 344 = .ok (.iconst 0, 1) := by decide +kernel
theorem dX12_doValues_345 : decode cX12_doValues 345 = .ok (.invokevirtual 320, 3) := by decide +kernel
theorem dX12_doValues_348 : decode cX12_doValues 348 = .ok (.aload_n 0, 1) := by decide +kernel
theorem dX12_doValues_349 : decode cX12_doValues 349 = .ok (.iconst 0, 1) := by decide +kernel
theorem dX12_doValues_350 : decode cX12_doValues 350 = .ok (.invokevirtual 347, 3) := by decide +kernel
theorem dX12_doValues_353 : decode cX12_doValues 353 = .ok (.ineg, 1) := by decide +kernel
theorem dX12_doValues_354 : decode cX12_doValues 354 = .ok (.iastore, 1) := by decide +kernel
theorem dX12_doValues_355 : decode cX12_doValues 355 = .ok (.goto 114, 3) := by decide +kernel
theorem dX12_doValues_358 : decode cX12_doValues 358 = .ok (.aload_n 0, 1) := by decide +kernel
theorem dX12_doValues_359 : decode cX12_doValues 359 = .ok (.getfield 265, 3) := by decide +kernel
theorem dX12_doValues_362 : decode cX12_doValues 362 = .ok (.aload_n 0, 1) := by decide +kernel
theorem dX12_doValues_363 : decode cX12_doValues 363 = .ok (.getfield 227, 3) := by decide +kernel
theorem dX12_doValues_366 : decode cX12_doValues 366 = .ok (.if_icmp .ge 7, 3) := by decide +kernel
theorem dX12_doValues_369 : decode cX12_doValues 369 = .ok (.iconst 1, 1) := by decide +kernel
theorem dX12_doValues_370 : decode cX12_doValues 370 = .ok (.goto 4, 3) := by decide +kernel
theorem dX12_doValues_373 : decode cX12_doValues 373 = .ok (.iconst 0, 1) := by decide +kernel
theorem dX12_doValues_374 : decode cX12_doValues 374 = .ok (.istore 7, 2) := by decide +kernel
theorem dX12_doValues_376 : decode cX12_doValues 376 = .ok (.aload_n 0, 1) := by decide +kernel
theorem dX12_doValues_377 : decode cX12_doValues 377 = .ok (.iload 7, 2) := by decide +kernel
theorem dX12_doValues_379 : decode cX12_doValues 379 = .ok (.ifCond .eq 15, 3) := by decide +kernel
theorem dX12_doValues_382 : decode cX12_doValues 382 = .ok (.aload_n 0, 1) := by decide +kernel
theorem dX12_doValues_383 : decode cX12_doValues 383 = .ok (.getfield 221, 3) := by decide +kernel
theorem dX12_doValues_386 : decode cX12_doValues 386 = .ok (.aload_n 0, 1) := by decide +kernel
theorem dX12_doValues_387 : decode cX12_doValues 387 = .ok (.getfield 265, 3) := by decide +kernel
theorem dX12_doValues_390 : decode cX12_doValues 390 = .ok (.iaload, 1) := by decide +kernel
theorem dX12_doValues_391 : decode cX12_doValues 391 = .ok (.goto 4, 3) := by decide +kernel
theorem dX12_doValues_394 : decode cX12_doValues 394 = .ok (.iconst 0, 1) := by decide +kernel
theorem dX12_doValues_395 : decode cX12_doValues 395 = .ok (.invokevirtual 366, 3) := by decide +kernel
theorem dX12_doValues_398 : decode cX12_doValues 398 = .ok (.aload_n 0, 1) := by decide +kernel
theorem dX12_doValues_399 : decode cX12_doValues 399 = .ok (.dup, 1) := by decide +kernel
theorem dX12_doValues_400 : decode cX12_doValues 400 = .ok (.getfield 265, 3) := by decide +kernel
theorem dX12_doValues_403 : decode cX12_doValues 403 = .ok (.iload 7, 2) := by decide +kernel
theorem dX12_doValues_405 : decode cX12_doValues 405 = .ok (.ifCond .eq 7, 3) := by decide +kernel
theorem dX12_doValues_408 : decode cX12_doValues 408 = .ok (.iconst 1, 1) := by decide +kernel
theorem dX12_doValues_409 : decode cX12_doValues 409 = .ok (.goto 4, 3) := by decide +kernel
theorem dX12_doValues_412 : decode cX12_doValues 412 = .ok (.iconst 0, 1) := by decide +kernel
theorem dX12_doValues_413 : decode cX12_doValues 413 = .ok (.iadd, 1) := by decide +kernel
theorem dX12_doValues_414 : decode cX12_doValues 414 = .ok (.putfield 265, 3) := by decide +kernel
theorem dX12_doValues_417 : decode cX12_doValues 417 = .ok (.goto 52, 3) := by decide +kernel
theorem dX12_doValues_420 : decode cX12_doValues 420 = .ok (.aload_n 0, 1) := by decide +kernel
theorem dX12_doValues_421 : decode cX12_doValues 421 = .ok (.getfield 268, 3) := by decide +kernel
theorem dX12_doValues_424 : decode cX12_doValues 424 = .ok (.sipush 1000, 3) := by decide +kernel
theorem dX12_doValues_427 : decode cX12_doValues 427 = .ok (.if_icmp .ge 27, 3) := by decide +kernel
theorem dX12_doValues_430 : decode cX12_doValues 430 = .ok (.aload_n 0, 1) := by decide +kernel
theorem dX12_doValues_431 : decode cX12_doValues 431 = .ok (.getfield 224, 3) := by decide +kernel
theorem dX12_doValues_434 : decode cX12_doValues 434 = .ok (.aload_n 0, 1) := by decide +kernel
theorem dX12_doValues_435 : decode cX12_doValues 435 = .ok (.getfield 268, 3) := by decide +kernel
theorem dX12_doValues_438 : decode cX12_doValues 438 = .ok (.aload_n 0, 1) := by decide +kernel
theorem dX12_doValues_439 : decode cX12_doValues 439 = .ok (.iconst 0, 1) := by decide +kernel
theorem dX12_doValues_440 : decode cX12_doValues 440 = .ok (.invokevirtual 347, 3) := by decide +kernel
theorem dX12_doValues_443 : decode cX12_doValues 443 = .ok (.iastore, 1) := by decide +kernel
theorem dX12_doValues_444 : decode cX12_doValues 444 = .ok (.aload_n 0, 1) := by decide +kernel
theorem dX12_doValues_445 : decode cX12_doValues 445 = .ok (.dup, 1) := by decide +kernel
theorem dX12_doValues_446 : decode cX12_doValues 446 = .ok (.getfield 268, 3) := by decide +kernel
theorem dX12_doValues_449 : decode cX12_doValues 449 = .ok (.iconst 1, 1) := by decide +kernel
theorem dX12_doValues_450 : decode cX12_doValues 450 = .ok (.iadd, 1) := by decide +kernel
theorem dX12_doValues_451 : decode cX12_doValues 451 = .ok (.putfield 268, 3) := by decide +kernel
theorem dX12_doValues_454 : decode cX12_doValues 454 = .ok (.aload_n 0, 1) := by decide +kernel
theorem dX12_doValues_455 : decode cX12_doValues 455 = .ok (.dup, 1) := by decide +kernel
theorem dX12_doValues_456 : decode cX12_doValues 456 = .ok (.getfield 271, 3) := by decide +kernel
theorem dX12_doValues_459 : decode cX12_doValues 459 = .ok (.lconst 1, 1) := by decide +kernel
theorem dX12_doValues_460 : decode cX12_doValues 460 = .ok (.ladd, 1) := by decide +kernel
theorem dX12_doValues_461 : decode cX12_doValues 461 = .ok (.putfield 271, 3) := by decide +kernel
theorem dX12_doValues_464 : decode cX12_doValues 464 = .ok (.aload_n 0, 1) := by decide +kernel
theorem dX12_doValues_465 : decode cX12_doValues 465 = .ok (.iconst 1, 1) := by decide +kernel
theorem dX12_doValues_466 : decode cX12_doValues 466 = .ok (.invokevirtual 359, 3) := by decide +kernel
theorem dX12_doValues_469 : decode cX12_doValues 469 = .ok (.return_, 1) := by decide +kernel
def wp_X12_doValues : List Cond := .code yX12_doValues cX12_doValues 8 none :: (((((((((([.fieldLink RX12 271 "SteadyMachineModel" "allOutputs" "J", .fieldLink RX12 265 "SteadyMachineModel" "taken" "I", .fieldLink RX12 221 "SteadyMachineModel" "input" "[I", .fieldLink RX12 256 "SteadyMachineModel" "frames" "I", .fieldLink RX12 10 "SteadyMachineModel" "image" "LSteadyMachineModel$Image;", .initialized RX11, .instanceMethod yX11_two, .selects RX11 yX11_two yX11_two, .fieldLink RX12 211 "SteadyMachineModel" "highOf" "[I", .fieldLink RX12 218 "SteadyMachineModel" "isThing" "[Z", .fieldLink RX12 215 "SteadyMachineModel" "valueAt" "[I", .fieldLink RX12 227 "SteadyMachineModel" "inputs" "I", .fieldLink RX12 268 "SteadyMachineModel" "outputs" "I", .fieldLink RX12 224 "SteadyMachineModel" "output" "[I"] ++ (wsV RX12 359 RX12 yX12_drop wp_X12_drop)) ++ (wsV RX12 366 RX12 yX12_putInt wp_X12_putInt)) ++ wp_X11_two) ++ (wsV RX12 332 RX12 yX12_putThing wp_X12_putThing)) ++ (wsV RX12 320 RX12 yX12_under wp_X12_under)) ++ (wsV RX12 369 RX12 yX12_copy wp_X12_copy)) ++ (wsV RX12 347 RX12 yX12_value wp_X12_value)) ++ (va_wsS RX12 362 yX12_reckon wp_X12_reckon)) ++ wsX110) ++ wsX120)
theorem wq_X12_doValues : wp_X12_doValues.all goodWord = true := wa_c rfl (wa_a (wa_a (wa_a (wa_a (wa_a (wa_a (wa_a (wa_a (wa_a (wa_a (by decide +kernel) (wa_V wq_X12_drop)) (wa_V wq_X12_putInt)) wq_X11_two) (wa_V wq_X12_putThing)) (wa_V wq_X12_under)) (wa_V wq_X12_copy)) (wa_V wq_X12_value)) (wa_S wq_X12_reckon)) uq_X11) uq_X12)
set_option maxRecDepth 200000 in
theorem wt_X12_doValues : GoodIn lw_tbl wp_X12_doValues := wm_c (List.mem_of_getElem? (i := 1770) rfl) rfl (wm_a (wm_a (wm_a (wm_a (wm_a (wm_a (wm_a (wm_a (wm_a (wm_a (goodIn_r _ [1522, 1518, 1520, 1508, 1490, 148, 1246, 77, 1511, 1513, 1512, 1519, 1521, 1523] (by decide +kernel) (by decide +kernel)) (wm_a (goodIn_r _ [1697, 1699, 117, 147] (by decide +kernel) (by decide +kernel)) wt_X12_drop)) (wm_a (goodIn_r _ [1733, 1735, 126, 147] (by decide +kernel) (by decide +kernel)) wt_X12_putInt)) wt_X11_two) (wm_a (goodIn_r _ [1674, 1676, 112, 147] (by decide +kernel) (by decide +kernel)) wt_X12_putThing)) (wm_a (goodIn_r _ [1678, 1680, 113, 147] (by decide +kernel) (by decide +kernel)) wt_X12_under)) (wm_a (goodIn_r _ [1745, 1747, 129, 147] (by decide +kernel) (by decide +kernel)) wt_X12_copy)) (wm_a (goodIn_r _ [1690, 1692, 116, 147] (by decide +kernel) (by decide +kernel)) wt_X12_value)) (wm_a (goodIn_r _ [1771, 1772, 147] (by decide +kernel) (by decide +kernel)) wt_X12_reckon)) ut_X11) ut_X12)
theorem wg_X12_doValues_X12_drop_359 : GoodIn wp_X12_doValues (wsV RX12 359 RX12 yX12_drop wp_X12_drop) := goodIn_sub (fun w h => List.mem_cons_of_mem _ (List.mem_append_left _ (List.mem_append_left _ (List.mem_append_left _ (List.mem_append_left _ (List.mem_append_left _ (List.mem_append_left _ (List.mem_append_left _ (List.mem_append_left _ (List.mem_append_left _ (List.mem_append_right _ h))))))))))) (wa_V wq_X12_drop)
theorem wg_X12_doValues_X12_putInt_366 : GoodIn wp_X12_doValues (wsV RX12 366 RX12 yX12_putInt wp_X12_putInt) := goodIn_sub (fun w h => List.mem_cons_of_mem _ (List.mem_append_left _ (List.mem_append_left _ (List.mem_append_left _ (List.mem_append_left _ (List.mem_append_left _ (List.mem_append_left _ (List.mem_append_left _ (List.mem_append_left _ (List.mem_append_right _ h)))))))))) (wa_V wq_X12_putInt)
theorem wg_X12_doValues_X11_two_113 : GoodIn wp_X12_doValues wp_X11_two := goodIn_sub (fun w h => List.mem_cons_of_mem _ (List.mem_append_left _ (List.mem_append_left _ (List.mem_append_left _ (List.mem_append_left _ (List.mem_append_left _ (List.mem_append_left _ (List.mem_append_left _ (List.mem_append_right _ h))))))))) wq_X11_two
theorem wg_X12_doValues_X12_putThing_332 : GoodIn wp_X12_doValues (wsV RX12 332 RX12 yX12_putThing wp_X12_putThing) := goodIn_sub (fun w h => List.mem_cons_of_mem _ (List.mem_append_left _ (List.mem_append_left _ (List.mem_append_left _ (List.mem_append_left _ (List.mem_append_left _ (List.mem_append_left _ (List.mem_append_right _ h)))))))) (wa_V wq_X12_putThing)
theorem wg_X12_doValues_X12_under_320 : GoodIn wp_X12_doValues (wsV RX12 320 RX12 yX12_under wp_X12_under) := goodIn_sub (fun w h => List.mem_cons_of_mem _ (List.mem_append_left _ (List.mem_append_left _ (List.mem_append_left _ (List.mem_append_left _ (List.mem_append_left _ (List.mem_append_right _ h))))))) (wa_V wq_X12_under)
theorem wg_X12_doValues_X12_copy_369 : GoodIn wp_X12_doValues (wsV RX12 369 RX12 yX12_copy wp_X12_copy) := goodIn_sub (fun w h => List.mem_cons_of_mem _ (List.mem_append_left _ (List.mem_append_left _ (List.mem_append_left _ (List.mem_append_left _ (List.mem_append_right _ h)))))) (wa_V wq_X12_copy)
theorem wg_X12_doValues_X12_value_347 : GoodIn wp_X12_doValues (wsV RX12 347 RX12 yX12_value wp_X12_value) := goodIn_sub (fun w h => List.mem_cons_of_mem _ (List.mem_append_left _ (List.mem_append_left _ (List.mem_append_left _ (List.mem_append_right _ h))))) (wa_V wq_X12_value)
theorem wg_X12_doValues_X12_reckon_362 : GoodIn wp_X12_doValues (va_wsS RX12 362 yX12_reckon wp_X12_reckon) := goodIn_sub (fun w h => List.mem_cons_of_mem _ (List.mem_append_left _ (List.mem_append_left _ (List.mem_append_right _ h)))) (wa_S wq_X12_reckon)
theorem wi_X12_doValues_X11 : ∀ w ∈ wsX110, w ∈ wp_X12_doValues := fun w h => List.mem_cons_of_mem _ (List.mem_append_left _ (List.mem_append_right _ h))
theorem wi_X12_doValues_X12 : ∀ w ∈ wsX120, w ∈ wp_X12_doValues := fun w h => List.mem_cons_of_mem _ (List.mem_append_right _ h)
set_option maxHeartbeats 4000000 in
set_option maxRecDepth 100000 in
theorem c_X12_doValues (l : Launch) (D : va_G) (sz t0 : Nat) (σ : sm_S) (α : sm_A) (p1 : Int32) (p2 : Int32) (K : sm_S → Prop) (hF : mp_X12_doValues σ p1 p2 K) : Met l yX12_doValues wp_X12_doValues { frames := 3, cells := 0, slots := 0, locals := 62 } (sm_P sm_wM sm_tM 40 D sz t0 σ α [.ref (α.1 1), .int p1, .int p2]) (va_Qv K (sm_B sm_wM D α) (sm_a α 40 sz)) 0 0 (sm_a α 40 sz) := by
  refine Met.ofW (cc := cX12_doValues) (maxL := 8) (ret := none) (by decide) rfl ?_
  intro p e s m args below meth c s₁ B hml hv
  obtain ⟨rfl, hsz, hP, hK, hD0, hE⟩ := hv
  have hx := B.exec
  have hb := B.bytes
  have hr := B.returns
  have hts := atoms_spec (ws := wp_X12_doValues) B.pre
  have hown : s.vm.findClass RX12 = some m.cls := findClass_of_methodNamed B.named
  have hlocks := B.notSynchronized
  subst hsz
  have hD : sm_D (sm_a α 40 s.heap.size) α 40 := hD0.own
  have hA : ∀ q : Nat, s.heap.size ≤ q → sm_a α 40 s.heap.size q := fun q h => Or.inr h
  generalize hAe : sm_a α 40 s.heap.size = A at hD hA hE ⊢
  have hS : va_S A s.heap s.heap [] := va_S.rf
  have in_X11 : ∀ w ∈ wsX110, w ∈ wp_X12_doValues := wi_X12_doValues_X11
  have in_X12 : ∀ w ∈ wsX120, w ∈ wp_X12_doValues := wi_X12_doValues_X12
  have k_0 := hts (.fieldLink RX12 271 "SteadyMachineModel" "allOutputs" "J") (by decide +kernel)
  have k_1 := hts (.fieldLink RX12 265 "SteadyMachineModel" "taken" "I") (by decide +kernel)
  have k_2 := hts (.fieldLink RX12 221 "SteadyMachineModel" "input" "[I") (by decide +kernel)
  have k_3 := hts (.fieldLink RX12 256 "SteadyMachineModel" "frames" "I") (by decide +kernel)
  have k_4 := hts (.fieldLink RX12 10 "SteadyMachineModel" "image" "LSteadyMachineModel$Image;") (by decide +kernel)
  have k_5 := hts (.initialized RX11) (by decide +kernel)
  have k_6 := hts (.instanceMethod yX11_two) (by decide +kernel)
  have k_7 := hts (.selects RX11 yX11_two yX11_two) (by decide +kernel)
  have k_8 := hts (.fieldLink RX12 211 "SteadyMachineModel" "highOf" "[I") (by decide +kernel)
  have k_9 := hts (.fieldLink RX12 218 "SteadyMachineModel" "isThing" "[Z") (by decide +kernel)
  have k_10 := hts (.fieldLink RX12 215 "SteadyMachineModel" "valueAt" "[I") (by decide +kernel)
  have k_11 := hts (.fieldLink RX12 227 "SteadyMachineModel" "inputs" "I") (by decide +kernel)
  have k_12 := hts (.fieldLink RX12 268 "SteadyMachineModel" "outputs" "I") (by decide +kernel)
  have k_13 := hts (.fieldLink RX12 224 "SteadyMachineModel" "output" "[I") (by decide +kernel)
  have hl := lv_entry ([.ref (α.1 1), .int p1, .int p2]) (n := 8) (Nat.le_of_ble_eq_true rfl)
  rw [lg_entry_eq]
  generalize (lg_sl ([.ref (α.1 1), .int p1, .int p2]) ++ List.replicate (8 - (lg_sl ([.ref (α.1 1), .int p1, .int p2])).length) Slot.unset).toArray = ls at hl ⊢
  have hl : lv_has ls 8 [(0, .ref (α.1 1)), (1, .int p1), (2, .int p2)] := hl
  have B469 : ∀ (σ : sm_S), mp_X12_doValues_469 K σ → sm_J p l e (headSpec wp_X12_doValues { frames := 3, cells := 0, slots := 0, locals := 62 }).room s m ([.ref (α.1 1), .int p1, .int p2] : List Value).toArray below meth c (MQ below (va_Qv K (sm_B sm_wM D α) A) ([.ref (α.1 1), .int p1, .int p2] : List Value).toArray s 0 0 A) D A 8 (sm_wM σ α) 469 [] [] := by
    intro σ hF H locs ls hP hS hl
    unfold mp_X12_doValues_469 at hF
    exact W.vret hx hb hr (fun t ht hW => ⟨⟨σ, rfl, hF, (by unfold sm_B; rw [ht]; exact hP)⟩, hS.F ht⟩) hS.2.2 dX12_doValues_469
  have B454 : ∀ (σ : sm_S), mp_X12_doValues_454 K σ → sm_J p l e (headSpec wp_X12_doValues { frames := 3, cells := 0, slots := 0, locals := 62 }).room s m ([.ref (α.1 1), .int p1, .int p2] : List Value).toArray below meth c (MQ below (va_Qv K (sm_B sm_wM D α) A) ([.ref (α.1 1), .int p1, .int p2] : List Value).toArray s 0 0 A) D A 8 (sm_wM σ α) 454 [(0, .ref (α.1 1))] [] := by
    intro σ hF H locs ls hP hS hl
    unfold mp_X12_doValues_454 at hF
    refine lv_aload_n hx hb dX12_doValues_454 rfl (lv_at hl 0 rfl) ?_
    refine lv_dup hx hb dX12_doValues_455 rfl ?_
    refine va_get (D := D) (ci := 12) (v := .long (σ.2.1 1)) (C := RX12) (T := TX12) (N := 42) hx hb hts in_X12 hown hK hP 1 (sm_gX12 σ α) rfl 32 (by decide) k_0 (fun _ h9 => h9) rfl dX12_doValues_456 ?_
    refine lv_lconst (v := 1) hx hb dX12_doValues_459 (by decide) ?_
    refine lv_ladd hx hb dX12_doValues_460 ?_
    refine va_put (D := D) (ci := 12) (v := .long ((σ.2.1 1) + 1)) (ty := .long) (C := RX12) (T := TX12) (N := 42) hx hb hts in_X12 tyX12 tyX12_ok nmX12 hown hK hP (hD.to (sm_wM_m _ _)) hS 1 (sm_gX12 σ α) rfl 32 (by decide) k_0 (fun _ h9 => h9) rfl (by decide +kernel) rfl rfl (Nat.le_of_ble_eq_true rfl) dX12_doValues_461 (fun H locs hP _ hS => ?_)
    rw [sm_jM1] at hP
    obtain ⟨σ1, eσ1⟩ : ∃ x : sm_S, x = sm_j σ 1 ((σ.2.1 1) + 1) := ⟨_, rfl⟩
    replace hF := hF σ1 eσ1
    rw [← eσ1] at hP
    refine lv_aload_n hx hb dX12_doValues_464 rfl (lv_at hl 0 rfl) ?_
    refine lv_iconst (v := 1) hx hb dX12_doValues_465 (by decide) ?_
    refine sm_vv (As := [.int 1]) (rest := []) hP hK hD hE hS hA ⟨hx, hb, hml, hown, hts⟩ hl.1 (c_X12_drop l D H.size t0 σ1 α 1 _ hF) (cwV 1 hts wg_X12_doValues_X12_drop_359 rfl rfl rfl (by decide +kernel) ⟨Nat.le_of_ble_eq_true rfl, Nat.le_of_ble_eq_true rfl⟩) (va_recv hK hP (ci := 12) (q0 := 1) rfl (sm_gX12 σ1 α)) rfl rfl (Nat.le_of_ble_eq_true rfl) dX12_doValues_466 ⟨Nat.zero_le _, Nat.zero_le _⟩ (fun σ2 H locs hF hP hS => ?_)
    exact B469 σ2 hF H locs ls hP hS (lv_sub hl [] rfl)
  have B413 : ∀ (σ : sm_S) (y1 : Int32) (y2 : Int32), mp_X12_doValues_413 K σ y1 y2 → sm_J p l e (headSpec wp_X12_doValues { frames := 3, cells := 0, slots := 0, locals := 62 }).room s m ([.ref (α.1 1), .int p1, .int p2] : List Value).toArray below meth c (MQ below (va_Qv K (sm_B sm_wM D α) A) ([.ref (α.1 1), .int p1, .int p2] : List Value).toArray s 0 0 A) D A 8 (sm_wM σ α) 413 [] [.int y2, .int y1, .ref (α.1 1)] := by
    intro σ y1 y2 hF H locs ls hP hS hl
    unfold mp_X12_doValues_413 at hF
    refine lv_iadd hx hb dX12_doValues_413 ?_
    refine va_put (D := D) (ci := 12) (v := .int (y1 + y2)) (ty := .int) (C := RX12) (T := TX12) (N := 42) hx hb hts in_X12 tyX12 tyX12_ok nmX12 hown hK hP (hD.to (sm_wM_m _ _)) hS 1 (sm_gX12 σ α) rfl 28 (by decide) k_1 (fun _ h9 => h9) rfl (by decide +kernel) rfl rfl (Nat.le_of_ble_eq_true rfl) dX12_doValues_414 (fun H locs hP _ hS => ?_)
    rw [sm_iM18] at hP
    obtain ⟨σ3, eσ3⟩ : ∃ x : sm_S, x = sm_i σ 18 (y1 + y2) := ⟨_, rfl⟩
    replace hF := hF σ3 eσ3
    rw [← eσ3] at hP
    refine lv_goto (tgt := 469) hx hb dX12_doValues_417 (by decide) ?_
    exact B469 σ3 hF H locs ls hP hS (lv_sub hl [] rfl)
  have B395 : ∀ (σ : sm_S) (x7 : Int32) (y1 : Int32), mp_X12_doValues_395 K σ x7 y1 → sm_J p l e (headSpec wp_X12_doValues { frames := 3, cells := 0, slots := 0, locals := 62 }).room s m ([.ref (α.1 1), .int p1, .int p2] : List Value).toArray below meth c (MQ below (va_Qv K (sm_B sm_wM D α) A) ([.ref (α.1 1), .int p1, .int p2] : List Value).toArray s 0 0 A) D A 8 (sm_wM σ α) 395 [(0, .ref (α.1 1)), (7, .int x7)] [.int y1, .ref (α.1 1)] := by
    intro σ x7 y1 hF H locs ls hP hS hl
    unfold mp_X12_doValues_395 at hF
    refine sm_vv (As := [.int y1]) (rest := []) hP hK hD hE hS hA ⟨hx, hb, hml, hown, hts⟩ hl.1 (c_X12_putInt l D H.size t0 σ α y1 _ hF) (cwV 1 hts wg_X12_doValues_X12_putInt_366 rfl rfl rfl (by decide +kernel) ⟨Nat.le_of_ble_eq_true rfl, Nat.le_of_ble_eq_true rfl⟩) (va_recv hK hP (ci := 12) (q0 := 1) rfl (sm_gX12 σ α)) rfl rfl (Nat.le_of_ble_eq_true rfl) dX12_doValues_395 ⟨Nat.zero_le _, Nat.zero_le _⟩ (fun σ4 H locs hF hP hS => ?_)
    refine lv_aload_n hx hb dX12_doValues_398 rfl (lv_at hl 0 rfl) ?_
    refine lv_dup hx hb dX12_doValues_399 rfl ?_
    refine va_get (D := D) (ci := 12) (v := .int (σ4.1 18)) (C := RX12) (T := TX12) (N := 42) hx hb hts in_X12 hown hK hP 1 (sm_gX12 σ4 α) rfl 28 (by decide) k_1 (fun _ h9 => h9) rfl dX12_doValues_400 ?_
    refine lv_iload hx hb dX12_doValues_403 (lv_at hl 1 rfl) ?_
    refine lv_if_eq (tgt := 412) hx hb dX12_doValues_405 (by decide) (fun h5 => ?_) (fun h5 => ?_)
    · replace hF := hF.1 h5
      refine lv_iconst (v := 0) hx hb dX12_doValues_412 (by decide) ?_
      exact B413 σ4 (σ4.1 18) 0 hF H locs ls hP hS (lv_sub hl [] rfl)
    · replace hF := hF.2 h5
      refine lv_iconst (v := 1) hx hb dX12_doValues_408 (by decide) ?_
      refine lv_goto (tgt := 413) hx hb dX12_doValues_409 (by decide) ?_
      exact B413 σ4 (σ4.1 18) 1 hF H locs ls hP hS (lv_sub hl [] rfl)
  have B374 : ∀ (σ : sm_S) (y0 : Int32), mp_X12_doValues_374 K σ y0 → sm_J p l e (headSpec wp_X12_doValues { frames := 3, cells := 0, slots := 0, locals := 62 }).room s m ([.ref (α.1 1), .int p1, .int p2] : List Value).toArray below meth c (MQ below (va_Qv K (sm_B sm_wM D α) A) ([.ref (α.1 1), .int p1, .int p2] : List Value).toArray s 0 0 A) D A 8 (sm_wM σ α) 374 [(0, .ref (α.1 1))] [.int y0] := by
    intro σ y0 hF H locs ls hP hS hl
    unfold mp_X12_doValues_374 at hF
    refine lv_istore (lv' := [(7, .int y0), (0, .ref (α.1 1))]) hx hb dX12_doValues_374 hl (by decide) rfl (fun ls hl => ?_)
    refine lv_aload_n hx hb dX12_doValues_376 rfl (lv_at hl 1 rfl) ?_
    refine lv_iload hx hb dX12_doValues_377 (lv_at hl 0 rfl) ?_
    refine lv_if_eq (tgt := 394) hx hb dX12_doValues_379 (by decide) (fun h6 => ?_) (fun h6 => ?_)
    · replace hF := hF.1 h6
      refine lv_iconst (v := 0) hx hb dX12_doValues_394 (by decide) ?_
      exact B395 σ y0 0 hF H locs ls hP hS (lv_sub hl [1, 0] rfl)
    · replace hF := hF.2 h6
      refine lv_aload_n hx hb dX12_doValues_382 rfl (lv_at hl 1 rfl) ?_
      refine va_get (D := D) (ci := 12) (v := .ref (α.1 38)) (C := RX12) (T := TX12) (N := 42) hx hb hts in_X12 hown hK hP 1 (sm_gX12 σ α) rfl 30 (by decide) k_2 (fun _ h9 => h9) rfl dX12_doValues_383 ?_
      refine lv_aload_n hx hb dX12_doValues_386 rfl (lv_at hl 1 rfl) ?_
      refine va_get (D := D) (ci := 12) (v := .int (σ.1 18)) (C := RX12) (T := TX12) (N := 42) hx hb hts in_X12 hown hK hP 1 (sm_gX12 σ α) rfl 28 (by decide) k_1 (fun _ h9 => h9) rfl dX12_doValues_387 ?_
      obtain ⟨h7, hF⟩ := hF
      refine va_iald (n := (σ.2.2.1 38)) (f := (σ.2.2.2.1 38)) hx hb hK hP 38 36 (sm_aM38 σ α) (sm_yM38 α) h7 dX12_doValues_390 ?_
      refine lv_goto (tgt := 395) hx hb dX12_doValues_391 (by decide) ?_
      exact B395 σ y0 ((σ.2.2.2.1 38) (σ.1 18).toNatClampNeg) hF H locs ls hP hS (lv_sub hl [1, 0] rfl)
  have B42 : ∀ (σ : sm_S) (x1 : Int32) (x2 : Int32), mp_X12_doValues_42 K σ x1 x2 → sm_J p l e (headSpec wp_X12_doValues { frames := 3, cells := 0, slots := 0, locals := 62 }).room s m ([.ref (α.1 1), .int p1, .int p2] : List Value).toArray below meth c (MQ below (va_Qv K (sm_B sm_wM D α) A) ([.ref (α.1 1), .int p1, .int p2] : List Value).toArray s 0 0 A) D A 8 (sm_wM σ α) 42 [(0, .ref (α.1 1)), (1, .int x1), (2, .int x2)] [] := by
    intro σ x1 x2 hF H locs ls hP hS hl
    unfold mp_X12_doValues_42 at hF
    refine lv_bipush (v := 12) hx hb dX12_doValues_42 (by decide) ?_
    refine lv_aload_n hx hb dX12_doValues_44 rfl (lv_at hl 0 rfl) ?_
    refine va_get (D := D) (ci := 12) (v := .int (σ.1 14)) (C := RX12) (T := TX12) (N := 42) hx hb hts in_X12 hown hK hP 1 (sm_gX12 σ α) rfl 18 (by decide) k_3 (fun _ h9 => h9) rfl dX12_doValues_45 ?_
    refine lv_iconst (v := 1) hx hb dX12_doValues_48 (by decide) ?_
    refine lv_isub hx hb dX12_doValues_49 ?_
    refine lv_imul hx hb dX12_doValues_50 ?_
    refine lv_topi (fun v8 ev8 => ?_)
    replace hF := hF v8 ev8
    refine lv_istore_n (lv' := [(3, .int v8), (0, .ref (α.1 1)), (1, .int x1), (2, .int x2)]) hx hb dX12_doValues_51 rfl hl (by decide) rfl (fun ls hl => ?_)
    refine lv_aload_n hx hb dX12_doValues_52 rfl (lv_at hl 1 rfl) ?_
    refine va_get (D := D) (ci := 12) (v := .ref (α.1 0)) (C := RX12) (T := TX12) (N := 42) hx hb hts in_X12 hown hK hP 1 (sm_gX12 σ α) rfl 0 (by decide) k_4 (fun _ h9 => h9) rfl dX12_doValues_53 ?_
    refine va_getN (D := D) (ci := 11) (v := .ref (α.1 3)) (C := RX11) (T := TX11) (N := 28) hx hb hts in_X11 hown hK hP 0 (sm_gX11 σ α) rfl 2 (by decide) (va_Nw.use rfl (hE.1 (.fieldLinkNest "SteadyMachineModel" 111 "SteadyMachineModel$Image" "image" "[I" "SteadyMachineModel") (by decide +kernel))) (fun _ h9 => h9) rfl dX12_doValues_56 ?_
    refine lv_iload_n hx hb dX12_doValues_59 rfl (lv_at hl 2 rfl) ?_
    refine lv_iconst (v := 1) hx hb dX12_doValues_60 (by decide) ?_
    refine lv_iadd hx hb dX12_doValues_61 ?_
    obtain ⟨h9, hF⟩ := hF
    refine va_iald (n := (σ.2.2.1 3)) (f := (σ.2.2.2.1 3)) hx hb hK hP 3 1 (sm_aM3 σ α) (sm_yM3 α) h9 dX12_doValues_62 ?_
    refine lv_topi (fun v10 ev10 => ?_)
    replace hF := hF v10 ev10
    refine lv_istore (lv' := [(4, .int v10), (3, .int v8), (0, .ref (α.1 1)), (1, .int x1), (2, .int x2)]) hx hb dX12_doValues_63 hl (by decide) rfl (fun ls hl => ?_)
    refine lv_iload_n hx hb dX12_doValues_65 rfl (lv_at hl 4 rfl) ?_
    by_cases h11 : x2 = 0
    · refine lv_lookup (off := 82) (tgt := 148) hx hb dX12_doValues_66 (by decide) (by rw [h11]; try decide) (by decide) ?_
      replace hF := hF.1 h11
      refine lv_aload_n hx hb dX12_doValues_148 rfl (lv_at hl 2 rfl) ?_
      refine lv_aload_n hx hb dX12_doValues_149 rfl (lv_at hl 2 rfl) ?_
      refine va_get (D := D) (ci := 12) (v := .ref (α.1 0)) (C := RX12) (T := TX12) (N := 42) hx hb hts in_X12 hown hK hP 1 (sm_gX12 σ α) rfl 0 (by decide) k_4 (fun _ h9 => h9) rfl dX12_doValues_150 ?_
      refine lv_iload_n hx hb dX12_doValues_153 rfl (lv_at hl 3 rfl) ?_
      refine lv_iconst (v := 1) hx hb dX12_doValues_154 (by decide) ?_
      refine lv_iadd hx hb dX12_doValues_155 ?_
      refine sm_nvi (As := [.int (x1 + 1)]) (rest := [.ref (α.1 1)]) hP hK hD hE hS hA ⟨hx, hb, hml, hown, hts⟩ hl.1 (c_X11_two l D H.size t0 σ α (x1 + 1) _ hF) ⟨va_cnB 1 hts wg_X12_doValues_X11_two_113 rfl rfl rfl (hE.1 (.methodLinkNest "SteadyMachineModel" 113 ⟨"SteadyMachineModel$Image", "two", "(I)I"⟩ "SteadyMachineModel") (by decide +kernel)) k_5 (by decide +kernel) ⟨Nat.le_of_ble_eq_true rfl, Nat.le_of_ble_eq_true rfl⟩, k_6, k_7⟩ (va_recv hK hP (ci := 11) (q0 := 0) rfl (sm_gX11 σ α)) rfl rfl (Nat.le_of_ble_eq_true rfl) dX12_doValues_156 ⟨Nat.zero_le _, Nat.zero_le _⟩ (fun r13 σ12 H locs hF hP hS => ?_)
      refine lv_bipush (v := 16) hx hb dX12_doValues_159 (by decide) ?_
      refine lv_ishl hx hb dX12_doValues_161 ?_
      refine lv_aload_n hx hb dX12_doValues_162 rfl (lv_at hl 2 rfl) ?_
      refine va_get (D := D) (ci := 12) (v := .ref (α.1 0)) (C := RX12) (T := TX12) (N := 42) hx hb hts in_X12 hown hK hP 1 (sm_gX12 σ12 α) rfl 0 (by decide) k_4 (fun _ h9 => h9) rfl dX12_doValues_163 ?_
      refine lv_iload_n hx hb dX12_doValues_166 rfl (lv_at hl 3 rfl) ?_
      refine lv_iconst (v := 3) hx hb dX12_doValues_167 (by decide) ?_
      refine lv_iadd hx hb dX12_doValues_168 ?_
      refine sm_nvi (As := [.int (x1 + 3)]) (rest := [.int (r13 <<< (16 &&& 31)), .ref (α.1 1)]) hP hK hD hE hS hA ⟨hx, hb, hml, hown, hts⟩ hl.1 (c_X11_two l D H.size t0 σ12 α (x1 + 3) _ hF) ⟨va_cnB 1 hts wg_X12_doValues_X11_two_113 rfl rfl rfl (hE.1 (.methodLinkNest "SteadyMachineModel" 113 ⟨"SteadyMachineModel$Image", "two", "(I)I"⟩ "SteadyMachineModel") (by decide +kernel)) k_5 (by decide +kernel) ⟨Nat.le_of_ble_eq_true rfl, Nat.le_of_ble_eq_true rfl⟩, k_6, k_7⟩ (va_recv hK hP (ci := 11) (q0 := 0) rfl (sm_gX11 σ12 α)) rfl rfl (Nat.le_of_ble_eq_true rfl) dX12_doValues_169 ⟨Nat.zero_le _, Nat.zero_le _⟩ (fun r15 σ14 H locs hF hP hS => ?_)
      refine lv_ior hx hb dX12_doValues_172 ?_
      refine sm_vv (As := [.int ((r13 <<< (16 &&& 31)) ||| r15)]) (rest := []) hP hK hD hE hS hA ⟨hx, hb, hml, hown, hts⟩ hl.1 (c_X12_putInt l D H.size t0 σ14 α ((r13 <<< (16 &&& 31)) ||| r15) _ hF) (cwV 1 hts wg_X12_doValues_X12_putInt_366 rfl rfl rfl (by decide +kernel) ⟨Nat.le_of_ble_eq_true rfl, Nat.le_of_ble_eq_true rfl⟩) (va_recv hK hP (ci := 12) (q0 := 1) rfl (sm_gX12 σ14 α)) rfl rfl (Nat.le_of_ble_eq_true rfl) dX12_doValues_173 ⟨Nat.zero_le _, Nat.zero_le _⟩ (fun σ16 H locs hF hP hS => ?_)
      refine lv_goto (tgt := 469) hx hb dX12_doValues_176 (by decide) ?_
      exact B469 σ16 hF H locs ls hP hS (lv_sub hl [] rfl)
    by_cases h17 : x2 = 1
    · refine lv_lookup (off := 113) (tgt := 179) hx hb dX12_doValues_66 (by decide) (by rw [h17]; try decide) (by decide) ?_
      replace hF := hF.2.1 h17
      refine lv_aload_n hx hb dX12_doValues_179 rfl (lv_at hl 2 rfl) ?_
      refine lv_iconst (v := -1) hx hb dX12_doValues_180 (by decide) ?_
      refine sm_vv (As := [.int (-1)]) (rest := []) hP hK hD hE hS hA ⟨hx, hb, hml, hown, hts⟩ hl.1 (c_X12_putThing l D H.size t0 σ α (-1) _ hF) (cwV 1 hts wg_X12_doValues_X12_putThing_332 rfl rfl rfl (by decide +kernel) ⟨Nat.le_of_ble_eq_true rfl, Nat.le_of_ble_eq_true rfl⟩) (va_recv hK hP (ci := 12) (q0 := 1) rfl (sm_gX12 σ α)) rfl rfl (Nat.le_of_ble_eq_true rfl) dX12_doValues_181 ⟨Nat.zero_le _, Nat.zero_le _⟩ (fun σ18 H locs hF hP hS => ?_)
      refine lv_goto (tgt := 469) hx hb dX12_doValues_184 (by decide) ?_
      exact B469 σ18 hF H locs ls hP hS (lv_sub hl [] rfl)
    by_cases h19 : x2 = 2
    · refine lv_lookup (off := 121) (tgt := 187) hx hb dX12_doValues_66 (by decide) (by rw [h19]; try decide) (by decide) ?_
      replace hF := hF.2.2.1 h19
      refine lv_aload_n hx hb dX12_doValues_187 rfl (lv_at hl 2 rfl) ?_
      refine va_get (D := D) (ci := 12) (v := .ref (α.1 35)) (C := RX12) (T := TX12) (N := 42) hx hb hts in_X12 hown hK hP 1 (sm_gX12 σ α) rfl 21 (by decide) k_8 (fun _ h9 => h9) rfl dX12_doValues_188 ?_
      refine lv_aload_n hx hb dX12_doValues_191 rfl (lv_at hl 2 rfl) ?_
      refine va_get (D := D) (ci := 12) (v := .int (σ.1 14)) (C := RX12) (T := TX12) (N := 42) hx hb hts in_X12 hown hK hP 1 (sm_gX12 σ α) rfl 18 (by decide) k_3 (fun _ h9 => h9) rfl dX12_doValues_192 ?_
      refine lv_iconst (v := 1) hx hb dX12_doValues_195 (by decide) ?_
      refine lv_isub hx hb dX12_doValues_196 ?_
      refine lv_dup2_11 hx hb dX12_doValues_197 rfl rfl ?_
      obtain ⟨h20, hF⟩ := hF
      refine va_iald (n := (σ.2.2.1 35)) (f := (σ.2.2.2.1 35)) hx hb hK hP 35 33 (sm_aM35 σ α) (sm_yM35 α) h20 dX12_doValues_198 ?_
      refine lv_iconst (v := 1) hx hb dX12_doValues_199 (by decide) ?_
      refine lv_iadd hx hb dX12_doValues_200 ?_
      obtain ⟨h21, hF⟩ := hF
      refine va_iast (n := (σ.2.2.1 35)) (f := (σ.2.2.2.1 35)) (x := (((σ.2.2.2.1 35) ((σ.1 14) - 1).toNatClampNeg) + 1)) hx hb hK hP (hD.to (sm_wM_m _ _)) hS 35 33 (sm_aM35 σ α) (sm_yM35 α) h21 dX12_doValues_201 (fun H locs hP _ hS => ?_)
      rw [sm_rM35] at hP
      obtain ⟨σ22, eσ22⟩ : ∃ x : sm_S, x = sm_r σ 35 (upd (σ.2.2.2.1 35) ((σ.1 14) - 1).toNatClampNeg (((σ.2.2.2.1 35) ((σ.1 14) - 1).toNatClampNeg) + 1)) := ⟨_, rfl⟩
      replace hF := hF σ22 eσ22
      rw [← eσ22] at hP
      refine lv_aload_n hx hb dX12_doValues_202 rfl (lv_at hl 2 rfl) ?_
      refine lv_iload_n hx hb dX12_doValues_203 rfl (lv_at hl 1 rfl) ?_
      refine lv_iload hx hb dX12_doValues_204 (lv_at hl 0 rfl) ?_
      refine lv_iadd hx hb dX12_doValues_206 ?_
      refine lv_aload_n hx hb dX12_doValues_207 rfl (lv_at hl 2 rfl) ?_
      refine lv_iconst (v := 0) hx hb dX12_doValues_208 (by decide) ?_
      refine sm_vi (As := [.int 0]) (rest := [.int (v8 + v10), .ref (α.1 1)]) hP hK hD hE hS hA ⟨hx, hb, hml, hown, hts⟩ hl.1 (c_X12_under l D H.size t0 σ22 α 0 _ hF) (cwV 1 hts wg_X12_doValues_X12_under_320 rfl rfl rfl (by decide +kernel) ⟨Nat.le_of_ble_eq_true rfl, Nat.le_of_ble_eq_true rfl⟩) (va_recv hK hP (ci := 12) (q0 := 1) rfl (sm_gX12 σ22 α)) rfl rfl (Nat.le_of_ble_eq_true rfl) dX12_doValues_209 ⟨Nat.zero_le _, Nat.zero_le _⟩ (fun r24 σ23 H locs hF hP hS => ?_)
      refine sm_vv (As := [.int (v8 + v10), .int r24]) (rest := []) hP hK hD hE hS hA ⟨hx, hb, hml, hown, hts⟩ hl.1 (c_X12_copy l D H.size t0 σ23 α (v8 + v10) r24 _ hF) (cwV 2 hts wg_X12_doValues_X12_copy_369 rfl rfl rfl (by decide +kernel) ⟨Nat.le_of_ble_eq_true rfl, Nat.le_of_ble_eq_true rfl⟩) (va_recv hK hP (ci := 12) (q0 := 1) rfl (sm_gX12 σ23 α)) rfl rfl (Nat.le_of_ble_eq_true rfl) dX12_doValues_212 ⟨Nat.zero_le _, Nat.zero_le _⟩ (fun σ25 H locs hF hP hS => ?_)
      refine lv_goto (tgt := 469) hx hb dX12_doValues_215 (by decide) ?_
      exact B469 σ25 hF H locs ls hP hS (lv_sub hl [] rfl)
    by_cases h26 : x2 = 3
    · refine lv_lookup (off := 152) (tgt := 218) hx hb dX12_doValues_66 (by decide) (by rw [h26]; try decide) (by decide) ?_
      replace hF := hF.2.2.2.1 h26
      refine lv_aload_n hx hb dX12_doValues_218 rfl (lv_at hl 2 rfl) ?_
      refine lv_aload_n hx hb dX12_doValues_219 rfl (lv_at hl 2 rfl) ?_
      refine lv_iconst (v := 0) hx hb dX12_doValues_220 (by decide) ?_
      refine sm_vi (As := [.int 0]) (rest := [.ref (α.1 1)]) hP hK hD hE hS hA ⟨hx, hb, hml, hown, hts⟩ hl.1 (c_X12_under l D H.size t0 σ α 0 _ hF) (cwV 1 hts wg_X12_doValues_X12_under_320 rfl rfl rfl (by decide +kernel) ⟨Nat.le_of_ble_eq_true rfl, Nat.le_of_ble_eq_true rfl⟩) (va_recv hK hP (ci := 12) (q0 := 1) rfl (sm_gX12 σ α)) rfl rfl (Nat.le_of_ble_eq_true rfl) dX12_doValues_221 ⟨Nat.zero_le _, Nat.zero_le _⟩ (fun r28 σ27 H locs hF hP hS => ?_)
      refine lv_iload_n hx hb dX12_doValues_224 rfl (lv_at hl 1 rfl) ?_
      refine lv_iload hx hb dX12_doValues_225 (lv_at hl 0 rfl) ?_
      refine lv_iadd hx hb dX12_doValues_227 ?_
      refine sm_vv (As := [.int r28, .int (v8 + v10)]) (rest := []) hP hK hD hE hS hA ⟨hx, hb, hml, hown, hts⟩ hl.1 (c_X12_copy l D H.size t0 σ27 α r28 (v8 + v10) _ hF) (cwV 2 hts wg_X12_doValues_X12_copy_369 rfl rfl rfl (by decide +kernel) ⟨Nat.le_of_ble_eq_true rfl, Nat.le_of_ble_eq_true rfl⟩) (va_recv hK hP (ci := 12) (q0 := 1) rfl (sm_gX12 σ27 α)) rfl rfl (Nat.le_of_ble_eq_true rfl) dX12_doValues_228 ⟨Nat.zero_le _, Nat.zero_le _⟩ (fun σ29 H locs hF hP hS => ?_)
      refine lv_aload_n hx hb dX12_doValues_231 rfl (lv_at hl 2 rfl) ?_
      refine lv_iconst (v := 1) hx hb dX12_doValues_232 (by decide) ?_
      refine sm_vv (As := [.int 1]) (rest := []) hP hK hD hE hS hA ⟨hx, hb, hml, hown, hts⟩ hl.1 (c_X12_drop l D H.size t0 σ29 α 1 _ hF) (cwV 1 hts wg_X12_doValues_X12_drop_359 rfl rfl rfl (by decide +kernel) ⟨Nat.le_of_ble_eq_true rfl, Nat.le_of_ble_eq_true rfl⟩) (va_recv hK hP (ci := 12) (q0 := 1) rfl (sm_gX12 σ29 α)) rfl rfl (Nat.le_of_ble_eq_true rfl) dX12_doValues_233 ⟨Nat.zero_le _, Nat.zero_le _⟩ (fun σ30 H locs hF hP hS => ?_)
      refine lv_goto (tgt := 469) hx hb dX12_doValues_236 (by decide) ?_
      exact B469 σ30 hF H locs ls hP hS (lv_sub hl [] rfl)
    by_cases h31 : x2 = 4
    · refine lv_lookup (off := 173) (tgt := 239) hx hb dX12_doValues_66 (by decide) (by rw [h31]; try decide) (by decide) ?_
      replace hF := hF.2.2.2.2.1 h31
      refine lv_aload_n hx hb dX12_doValues_239 rfl (lv_at hl 2 rfl) ?_
      refine lv_iconst (v := 1) hx hb dX12_doValues_240 (by decide) ?_
      refine sm_vv (As := [.int 1]) (rest := []) hP hK hD hE hS hA ⟨hx, hb, hml, hown, hts⟩ hl.1 (c_X12_drop l D H.size t0 σ α 1 _ hF) (cwV 1 hts wg_X12_doValues_X12_drop_359 rfl rfl rfl (by decide +kernel) ⟨Nat.le_of_ble_eq_true rfl, Nat.le_of_ble_eq_true rfl⟩) (va_recv hK hP (ci := 12) (q0 := 1) rfl (sm_gX12 σ α)) rfl rfl (Nat.le_of_ble_eq_true rfl) dX12_doValues_241 ⟨Nat.zero_le _, Nat.zero_le _⟩ (fun σ32 H locs hF hP hS => ?_)
      refine lv_goto (tgt := 469) hx hb dX12_doValues_244 (by decide) ?_
      exact B469 σ32 hF H locs ls hP hS (lv_sub hl [] rfl)
    by_cases h33 : x2 = 5
    · refine lv_lookup (off := 181) (tgt := 247) hx hb dX12_doValues_66 (by decide) (by rw [h33]; try decide) (by decide) ?_
      replace hF := hF.2.2.2.2.2.1 h33
      refine lv_aload_n hx hb dX12_doValues_247 rfl (lv_at hl 2 rfl) ?_
      refine va_get (D := D) (ci := 12) (v := .ref (α.1 35)) (C := RX12) (T := TX12) (N := 42) hx hb hts in_X12 hown hK hP 1 (sm_gX12 σ α) rfl 21 (by decide) k_8 (fun _ h9 => h9) rfl dX12_doValues_248 ?_
      refine lv_aload_n hx hb dX12_doValues_251 rfl (lv_at hl 2 rfl) ?_
      refine va_get (D := D) (ci := 12) (v := .int (σ.1 14)) (C := RX12) (T := TX12) (N := 42) hx hb hts in_X12 hown hK hP 1 (sm_gX12 σ α) rfl 18 (by decide) k_3 (fun _ h9 => h9) rfl dX12_doValues_252 ?_
      refine lv_iconst (v := 1) hx hb dX12_doValues_255 (by decide) ?_
      refine lv_isub hx hb dX12_doValues_256 ?_
      refine lv_dup2_11 hx hb dX12_doValues_257 rfl rfl ?_
      obtain ⟨h34, hF⟩ := hF
      refine va_iald (n := (σ.2.2.1 35)) (f := (σ.2.2.2.1 35)) hx hb hK hP 35 33 (sm_aM35 σ α) (sm_yM35 α) h34 dX12_doValues_258 ?_
      refine lv_iconst (v := 1) hx hb dX12_doValues_259 (by decide) ?_
      refine lv_iadd hx hb dX12_doValues_260 ?_
      obtain ⟨h35, hF⟩ := hF
      refine va_iast (n := (σ.2.2.1 35)) (f := (σ.2.2.2.1 35)) (x := (((σ.2.2.2.1 35) ((σ.1 14) - 1).toNatClampNeg) + 1)) hx hb hK hP (hD.to (sm_wM_m _ _)) hS 35 33 (sm_aM35 σ α) (sm_yM35 α) h35 dX12_doValues_261 (fun H locs hP _ hS => ?_)
      rw [sm_rM35] at hP
      obtain ⟨σ36, eσ36⟩ : ∃ x : sm_S, x = sm_r σ 35 (upd (σ.2.2.2.1 35) ((σ.1 14) - 1).toNatClampNeg (((σ.2.2.2.1 35) ((σ.1 14) - 1).toNatClampNeg) + 1)) := ⟨_, rfl⟩
      replace hF := hF σ36 eσ36
      rw [← eσ36] at hP
      refine lv_aload_n hx hb dX12_doValues_262 rfl (lv_at hl 2 rfl) ?_
      refine lv_aload_n hx hb dX12_doValues_263 rfl (lv_at hl 2 rfl) ?_
      refine lv_iconst (v := 1) hx hb dX12_doValues_264 (by decide) ?_
      refine sm_vi (As := [.int 1]) (rest := [.ref (α.1 1)]) hP hK hD hE hS hA ⟨hx, hb, hml, hown, hts⟩ hl.1 (c_X12_under l D H.size t0 σ36 α 1 _ hF) (cwV 1 hts wg_X12_doValues_X12_under_320 rfl rfl rfl (by decide +kernel) ⟨Nat.le_of_ble_eq_true rfl, Nat.le_of_ble_eq_true rfl⟩) (va_recv hK hP (ci := 12) (q0 := 1) rfl (sm_gX12 σ36 α)) rfl rfl (Nat.le_of_ble_eq_true rfl) dX12_doValues_265 ⟨Nat.zero_le _, Nat.zero_le _⟩ (fun r38 σ37 H locs hF hP hS => ?_)
      refine lv_aload_n hx hb dX12_doValues_268 rfl (lv_at hl 2 rfl) ?_
      refine lv_iconst (v := 0) hx hb dX12_doValues_269 (by decide) ?_
      refine sm_vi (As := [.int 0]) (rest := [.int r38, .ref (α.1 1)]) hP hK hD hE hS hA ⟨hx, hb, hml, hown, hts⟩ hl.1 (c_X12_under l D H.size t0 σ37 α 0 _ hF) (cwV 1 hts wg_X12_doValues_X12_under_320 rfl rfl rfl (by decide +kernel) ⟨Nat.le_of_ble_eq_true rfl, Nat.le_of_ble_eq_true rfl⟩) (va_recv hK hP (ci := 12) (q0 := 1) rfl (sm_gX12 σ37 α)) rfl rfl (Nat.le_of_ble_eq_true rfl) dX12_doValues_270 ⟨Nat.zero_le _, Nat.zero_le _⟩ (fun r40 σ39 H locs hF hP hS => ?_)
      refine sm_vv (As := [.int r38, .int r40]) (rest := []) hP hK hD hE hS hA ⟨hx, hb, hml, hown, hts⟩ hl.1 (c_X12_copy l D H.size t0 σ39 α r38 r40 _ hF) (cwV 2 hts wg_X12_doValues_X12_copy_369 rfl rfl rfl (by decide +kernel) ⟨Nat.le_of_ble_eq_true rfl, Nat.le_of_ble_eq_true rfl⟩) (va_recv hK hP (ci := 12) (q0 := 1) rfl (sm_gX12 σ39 α)) rfl rfl (Nat.le_of_ble_eq_true rfl) dX12_doValues_273 ⟨Nat.zero_le _, Nat.zero_le _⟩ (fun σ41 H locs hF hP hS => ?_)
      refine lv_goto (tgt := 469) hx hb dX12_doValues_276 (by decide) ?_
      exact B469 σ41 hF H locs ls hP hS (lv_sub hl [] rfl)
    by_cases h42 : x2 = 6
    · refine lv_lookup (off := 213) (tgt := 279) hx hb dX12_doValues_66 (by decide) (by rw [h42]; try decide) (by decide) ?_
      replace hF := hF.2.2.2.2.2.2.1 h42
      refine lv_aload_n hx hb dX12_doValues_279 rfl (lv_at hl 2 rfl) ?_
      refine lv_iconst (v := 0) hx hb dX12_doValues_280 (by decide) ?_
      refine sm_vi (As := [.int 0]) (rest := []) hP hK hD hE hS hA ⟨hx, hb, hml, hown, hts⟩ hl.1 (c_X12_value l D H.size t0 σ α 0 _ hF) (cwV 1 hts wg_X12_doValues_X12_value_347 rfl rfl rfl (by decide +kernel) ⟨Nat.le_of_ble_eq_true rfl, Nat.le_of_ble_eq_true rfl⟩) (va_recv hK hP (ci := 12) (q0 := 1) rfl (sm_gX12 σ α)) rfl rfl (Nat.le_of_ble_eq_true rfl) dX12_doValues_281 ⟨Nat.zero_le _, Nat.zero_le _⟩ (fun r44 σ43 H locs hF hP hS => ?_)
      refine lv_istore (lv' := [(5, .int r44), (4, .int v10), (3, .int v8), (0, .ref (α.1 1)), (1, .int x1), (2, .int x2)]) hx hb dX12_doValues_284 hl (by decide) rfl (fun ls hl => ?_)
      refine lv_aload_n hx hb dX12_doValues_286 rfl (lv_at hl 3 rfl) ?_
      refine va_get (D := D) (ci := 12) (v := .ref (α.1 37)) (C := RX12) (T := TX12) (N := 42) hx hb hts in_X12 hown hK hP 1 (sm_gX12 σ43 α) rfl 23 (by decide) k_9 (fun _ h9 => h9) rfl dX12_doValues_287 ?_
      refine lv_aload_n hx hb dX12_doValues_290 rfl (lv_at hl 3 rfl) ?_
      refine lv_iconst (v := 0) hx hb dX12_doValues_291 (by decide) ?_
      refine sm_vi (As := [.int 0]) (rest := [.ref (α.1 37)]) hP hK hD hE hS hA ⟨hx, hb, hml, hown, hts⟩ hl.1 (c_X12_under l D H.size t0 σ43 α 0 _ hF) (cwV 1 hts wg_X12_doValues_X12_under_320 rfl rfl rfl (by decide +kernel) ⟨Nat.le_of_ble_eq_true rfl, Nat.le_of_ble_eq_true rfl⟩) (va_recv hK hP (ci := 12) (q0 := 1) rfl (sm_gX12 σ43 α)) rfl rfl (Nat.le_of_ble_eq_true rfl) dX12_doValues_292 ⟨Nat.zero_le _, Nat.zero_le _⟩ (fun r46 σ45 H locs hF hP hS => ?_)
      obtain ⟨h47, hF⟩ := hF
      refine va_zald (n := (σ45.2.2.1 37)) (f := (σ45.2.2.2.1 37)) hx hb hK hP 37 35 (sm_aM37 σ45 α) (sm_yM37 α) h47 dX12_doValues_295 ?_
      refine lv_topi (fun v48 ev48 => ?_)
      replace hF := hF v48 ev48
      refine lv_istore (lv' := [(6, .int v48), (5, .int r44), (4, .int v10), (3, .int v8), (0, .ref (α.1 1)), (1, .int x1), (2, .int x2)]) hx hb dX12_doValues_296 hl (by decide) rfl (fun ls hl => ?_)
      refine lv_aload_n hx hb dX12_doValues_298 rfl (lv_at hl 4 rfl) ?_
      refine lv_aload_n hx hb dX12_doValues_299 rfl (lv_at hl 4 rfl) ?_
      refine lv_iconst (v := 1) hx hb dX12_doValues_300 (by decide) ?_
      refine sm_vi (As := [.int 1]) (rest := [.ref (α.1 1)]) hP hK hD hE hS hA ⟨hx, hb, hml, hown, hts⟩ hl.1 (c_X12_under l D H.size t0 σ45 α 1 _ hF) (cwV 1 hts wg_X12_doValues_X12_under_320 rfl rfl rfl (by decide +kernel) ⟨Nat.le_of_ble_eq_true rfl, Nat.le_of_ble_eq_true rfl⟩) (va_recv hK hP (ci := 12) (q0 := 1) rfl (sm_gX12 σ45 α)) rfl rfl (Nat.le_of_ble_eq_true rfl) dX12_doValues_301 ⟨Nat.zero_le _, Nat.zero_le _⟩ (fun r50 σ49 H locs hF hP hS => ?_)
      refine lv_aload_n hx hb dX12_doValues_304 rfl (lv_at hl 4 rfl) ?_
      refine lv_iconst (v := 0) hx hb dX12_doValues_305 (by decide) ?_
      refine sm_vi (As := [.int 0]) (rest := [.int r50, .ref (α.1 1)]) hP hK hD hE hS hA ⟨hx, hb, hml, hown, hts⟩ hl.1 (c_X12_under l D H.size t0 σ49 α 0 _ hF) (cwV 1 hts wg_X12_doValues_X12_under_320 rfl rfl rfl (by decide +kernel) ⟨Nat.le_of_ble_eq_true rfl, Nat.le_of_ble_eq_true rfl⟩) (va_recv hK hP (ci := 12) (q0 := 1) rfl (sm_gX12 σ49 α)) rfl rfl (Nat.le_of_ble_eq_true rfl) dX12_doValues_306 ⟨Nat.zero_le _, Nat.zero_le _⟩ (fun r52 σ51 H locs hF hP hS => ?_)
      refine sm_vv (As := [.int r50, .int r52]) (rest := []) hP hK hD hE hS hA ⟨hx, hb, hml, hown, hts⟩ hl.1 (c_X12_copy l D H.size t0 σ51 α r50 r52 _ hF) (cwV 2 hts wg_X12_doValues_X12_copy_369 rfl rfl rfl (by decide +kernel) ⟨Nat.le_of_ble_eq_true rfl, Nat.le_of_ble_eq_true rfl⟩) (va_recv hK hP (ci := 12) (q0 := 1) rfl (sm_gX12 σ51 α)) rfl rfl (Nat.le_of_ble_eq_true rfl) dX12_doValues_309 ⟨Nat.zero_le _, Nat.zero_le _⟩ (fun σ53 H locs hF hP hS => ?_)
      refine lv_aload_n hx hb dX12_doValues_312 rfl (lv_at hl 4 rfl) ?_
      refine va_get (D := D) (ci := 12) (v := .ref (α.1 36)) (C := RX12) (T := TX12) (N := 42) hx hb hts in_X12 hown hK hP 1 (sm_gX12 σ53 α) rfl 22 (by decide) k_10 (fun _ h9 => h9) rfl dX12_doValues_313 ?_
      refine lv_aload_n hx hb dX12_doValues_316 rfl (lv_at hl 4 rfl) ?_
      refine lv_iconst (v := 1) hx hb dX12_doValues_317 (by decide) ?_
      refine sm_vi (As := [.int 1]) (rest := [.ref (α.1 36)]) hP hK hD hE hS hA ⟨hx, hb, hml, hown, hts⟩ hl.1 (c_X12_under l D H.size t0 σ53 α 1 _ hF) (cwV 1 hts wg_X12_doValues_X12_under_320 rfl rfl rfl (by decide +kernel) ⟨Nat.le_of_ble_eq_true rfl, Nat.le_of_ble_eq_true rfl⟩) (va_recv hK hP (ci := 12) (q0 := 1) rfl (sm_gX12 σ53 α)) rfl rfl (Nat.le_of_ble_eq_true rfl) dX12_doValues_318 ⟨Nat.zero_le _, Nat.zero_le _⟩ (fun r55 σ54 H locs hF hP hS => ?_)
      refine lv_iload hx hb dX12_doValues_321 (lv_at hl 1 rfl) ?_
      obtain ⟨h56, hF⟩ := hF
      refine va_iast (n := (σ54.2.2.1 36)) (f := (σ54.2.2.2.1 36)) (x := r44) hx hb hK hP (hD.to (sm_wM_m _ _)) hS 36 34 (sm_aM36 σ54 α) (sm_yM36 α) h56 dX12_doValues_323 (fun H locs hP _ hS => ?_)
      rw [sm_rM36] at hP
      obtain ⟨σ57, eσ57⟩ : ∃ x : sm_S, x = sm_r σ54 36 (upd (σ54.2.2.2.1 36) r55.toNatClampNeg r44) := ⟨_, rfl⟩
      replace hF := hF σ57 eσ57
      rw [← eσ57] at hP
      refine lv_aload_n hx hb dX12_doValues_324 rfl (lv_at hl 4 rfl) ?_
      refine va_get (D := D) (ci := 12) (v := .ref (α.1 37)) (C := RX12) (T := TX12) (N := 42) hx hb hts in_X12 hown hK hP 1 (sm_gX12 σ57 α) rfl 23 (by decide) k_9 (fun _ h9 => h9) rfl dX12_doValues_325 ?_
      refine lv_aload_n hx hb dX12_doValues_328 rfl (lv_at hl 4 rfl) ?_
      refine lv_iconst (v := 1) hx hb dX12_doValues_329 (by decide) ?_
      refine sm_vi (As := [.int 1]) (rest := [.ref (α.1 37)]) hP hK hD hE hS hA ⟨hx, hb, hml, hown, hts⟩ hl.1 (c_X12_under l D H.size t0 σ57 α 1 _ hF) (cwV 1 hts wg_X12_doValues_X12_under_320 rfl rfl rfl (by decide +kernel) ⟨Nat.le_of_ble_eq_true rfl, Nat.le_of_ble_eq_true rfl⟩) (va_recv hK hP (ci := 12) (q0 := 1) rfl (sm_gX12 σ57 α)) rfl rfl (Nat.le_of_ble_eq_true rfl) dX12_doValues_330 ⟨Nat.zero_le _, Nat.zero_le _⟩ (fun r59 σ58 H locs hF hP hS => ?_)
      refine lv_iload hx hb dX12_doValues_333 (lv_at hl 0 rfl) ?_
      obtain ⟨h60, hF⟩ := hF
      refine va_zast (n := (σ58.2.2.1 37)) (f := (σ58.2.2.2.1 37)) (x := v48) hx hb hK hP (hD.to (sm_wM_m _ _)) hS 37 35 (sm_aM37 σ58 α) (sm_yM37 α) h60 dX12_doValues_335 (fun H locs hP _ hS => ?_)
      rw [sm_rM37] at hP
      obtain ⟨σ61, eσ61⟩ : ∃ x : sm_S, x = sm_r σ58 37 (upd (σ58.2.2.2.1 37) r59.toNatClampNeg (vp_nar .boolean v48)) := ⟨_, rfl⟩
      replace hF := hF σ61 eσ61
      rw [← eσ61] at hP
      refine lv_goto (tgt := 469) hx hb dX12_doValues_336 (by decide) ?_
      exact B469 σ61 hF H locs ls hP hS (lv_sub hl [] rfl)
    by_cases h62 : x2 = 18
    · refine lv_lookup (off := 273) (tgt := 339) hx hb dX12_doValues_66 (by decide) (by rw [h62]; try decide) (by decide) ?_
      replace hF := hF.2.2.2.2.2.2.2.1 h62
      refine lv_aload_n hx hb dX12_doValues_339 rfl (lv_at hl 2 rfl) ?_
      refine va_get (D := D) (ci := 12) (v := .ref (α.1 36)) (C := RX12) (T := TX12) (N := 42) hx hb hts in_X12 hown hK hP 1 (sm_gX12 σ α) rfl 22 (by decide) k_10 (fun _ h9 => h9) rfl dX12_doValues_340 ?_
      refine lv_aload_n hx hb dX12_doValues_343 rfl (lv_at hl 2 rfl) ?_
      refine lv_iconst (v := 0) hx hb dX12_doValues_344 (by decide) ?_
      refine sm_vi (As := [.int 0]) (rest := [.ref (α.1 36)]) hP hK hD hE hS hA ⟨hx, hb, hml, hown, hts⟩ hl.1 (c_X12_under l D H.size t0 σ α 0 _ hF) (cwV 1 hts wg_X12_doValues_X12_under_320 rfl rfl rfl (by decide +kernel) ⟨Nat.le_of_ble_eq_true rfl, Nat.le_of_ble_eq_true rfl⟩) (va_recv hK hP (ci := 12) (q0 := 1) rfl (sm_gX12 σ α)) rfl rfl (Nat.le_of_ble_eq_true rfl) dX12_doValues_345 ⟨Nat.zero_le _, Nat.zero_le _⟩ (fun r64 σ63 H locs hF hP hS => ?_)
      refine lv_aload_n hx hb dX12_doValues_348 rfl (lv_at hl 2 rfl) ?_
      refine lv_iconst (v := 0) hx hb dX12_doValues_349 (by decide) ?_
      refine sm_vi (As := [.int 0]) (rest := [.int r64, .ref (α.1 36)]) hP hK hD hE hS hA ⟨hx, hb, hml, hown, hts⟩ hl.1 (c_X12_value l D H.size t0 σ63 α 0 _ hF) (cwV 1 hts wg_X12_doValues_X12_value_347 rfl rfl rfl (by decide +kernel) ⟨Nat.le_of_ble_eq_true rfl, Nat.le_of_ble_eq_true rfl⟩) (va_recv hK hP (ci := 12) (q0 := 1) rfl (sm_gX12 σ63 α)) rfl rfl (Nat.le_of_ble_eq_true rfl) dX12_doValues_350 ⟨Nat.zero_le _, Nat.zero_le _⟩ (fun r66 σ65 H locs hF hP hS => ?_)
      refine lv_ineg hx hb dX12_doValues_353 ?_
      obtain ⟨h67, hF⟩ := hF
      refine va_iast (n := (σ65.2.2.1 36)) (f := (σ65.2.2.2.1 36)) (x := (-r66)) hx hb hK hP (hD.to (sm_wM_m _ _)) hS 36 34 (sm_aM36 σ65 α) (sm_yM36 α) h67 dX12_doValues_354 (fun H locs hP _ hS => ?_)
      rw [sm_rM36] at hP
      obtain ⟨σ68, eσ68⟩ : ∃ x : sm_S, x = sm_r σ65 36 (upd (σ65.2.2.2.1 36) r64.toNatClampNeg (-r66)) := ⟨_, rfl⟩
      replace hF := hF σ68 eσ68
      rw [← eσ68] at hP
      refine lv_goto (tgt := 469) hx hb dX12_doValues_355 (by decide) ?_
      exact B469 σ68 hF H locs ls hP hS (lv_sub hl [] rfl)
    by_cases h69 : x2 = 40
    · refine lv_lookup (off := 292) (tgt := 358) hx hb dX12_doValues_66 (by decide) (by rw [h69]; try decide) (by decide) ?_
      replace hF := hF.2.2.2.2.2.2.2.2.1 h69
      refine lv_aload_n hx hb dX12_doValues_358 rfl (lv_at hl 2 rfl) ?_
      refine va_get (D := D) (ci := 12) (v := .int (σ.1 18)) (C := RX12) (T := TX12) (N := 42) hx hb hts in_X12 hown hK hP 1 (sm_gX12 σ α) rfl 28 (by decide) k_1 (fun _ h9 => h9) rfl dX12_doValues_359 ?_
      refine lv_aload_n hx hb dX12_doValues_362 rfl (lv_at hl 2 rfl) ?_
      refine va_get (D := D) (ci := 12) (v := .int (σ.1 19)) (C := RX12) (T := TX12) (N := 42) hx hb hts in_X12 hown hK hP 1 (sm_gX12 σ α) rfl 29 (by decide) k_11 (fun _ h9 => h9) rfl dX12_doValues_363 ?_
      refine lv_icmp_ge (tgt := 373) hx hb dX12_doValues_366 (by decide) (fun h70 => ?_) (fun h70 => ?_)
      · replace hF := hF.1 h70
        refine lv_iconst (v := 0) hx hb dX12_doValues_373 (by decide) ?_
        exact B374 σ 0 hF H locs ls hP hS (lv_sub hl [2] rfl)
      · replace hF := hF.2 h70
        refine lv_iconst (v := 1) hx hb dX12_doValues_369 (by decide) ?_
        refine lv_goto (tgt := 374) hx hb dX12_doValues_370 (by decide) ?_
        exact B374 σ 1 hF H locs ls hP hS (lv_sub hl [2] rfl)
    refine lv_lookup (off := 354) (tgt := 420) hx hb dX12_doValues_66 (by decide) (((lv_osw h11 (by decide)).trans ((lv_osw h17 (by decide)).trans ((lv_osw h19 (by decide)).trans ((lv_osw h26 (by decide)).trans ((lv_osw h31 (by decide)).trans ((lv_osw h33 (by decide)).trans ((lv_osw h42 (by decide)).trans ((lv_osw h62 (by decide)).trans ((lv_osw h69 (by decide)).trans rfl)))))))))) (by decide) ?_
    replace hF := hF.2.2.2.2.2.2.2.2.2 h11 h17 h19 h26 h31 h33 h42 h62 h69
    refine lv_aload_n hx hb dX12_doValues_420 rfl (lv_at hl 2 rfl) ?_
    refine va_get (D := D) (ci := 12) (v := .int (σ.1 20)) (C := RX12) (T := TX12) (N := 42) hx hb hts in_X12 hown hK hP 1 (sm_gX12 σ α) rfl 31 (by decide) k_12 (fun _ h9 => h9) rfl dX12_doValues_421 ?_
    refine lv_sipush (v := 1000) hx hb dX12_doValues_424 (by decide) ?_
    refine lv_icmp_ge (tgt := 454) hx hb dX12_doValues_427 (by decide) (fun h71 => ?_) (fun h71 => ?_)
    · replace hF := hF.1 h71
      exact B454 σ hF H locs ls hP hS (lv_sub hl [2] rfl)
    · replace hF := hF.2 h71
      refine lv_aload_n hx hb dX12_doValues_430 rfl (lv_at hl 2 rfl) ?_
      refine va_get (D := D) (ci := 12) (v := .ref (α.1 39)) (C := RX12) (T := TX12) (N := 42) hx hb hts in_X12 hown hK hP 1 (sm_gX12 σ α) rfl 33 (by decide) k_13 (fun _ h9 => h9) rfl dX12_doValues_431 ?_
      refine lv_aload_n hx hb dX12_doValues_434 rfl (lv_at hl 2 rfl) ?_
      refine va_get (D := D) (ci := 12) (v := .int (σ.1 20)) (C := RX12) (T := TX12) (N := 42) hx hb hts in_X12 hown hK hP 1 (sm_gX12 σ α) rfl 31 (by decide) k_12 (fun _ h9 => h9) rfl dX12_doValues_435 ?_
      refine lv_aload_n hx hb dX12_doValues_438 rfl (lv_at hl 2 rfl) ?_
      refine lv_iconst (v := 0) hx hb dX12_doValues_439 (by decide) ?_
      refine sm_vi (As := [.int 0]) (rest := [.int (σ.1 20), .ref (α.1 39)]) hP hK hD hE hS hA ⟨hx, hb, hml, hown, hts⟩ hl.1 (c_X12_value l D H.size t0 σ α 0 _ hF) (cwV 1 hts wg_X12_doValues_X12_value_347 rfl rfl rfl (by decide +kernel) ⟨Nat.le_of_ble_eq_true rfl, Nat.le_of_ble_eq_true rfl⟩) (va_recv hK hP (ci := 12) (q0 := 1) rfl (sm_gX12 σ α)) rfl rfl (Nat.le_of_ble_eq_true rfl) dX12_doValues_440 ⟨Nat.zero_le _, Nat.zero_le _⟩ (fun r73 σ72 H locs hF hP hS => ?_)
      obtain ⟨h74, hF⟩ := hF
      refine va_iast (n := (σ72.2.2.1 39)) (f := (σ72.2.2.2.1 39)) (x := r73) hx hb hK hP (hD.to (sm_wM_m _ _)) hS 39 37 (sm_aM39 σ72 α) (sm_yM39 α) h74 dX12_doValues_443 (fun H locs hP _ hS => ?_)
      rw [sm_rM39] at hP
      obtain ⟨σ75, eσ75⟩ : ∃ x : sm_S, x = sm_r σ72 39 (upd (σ72.2.2.2.1 39) (σ.1 20).toNatClampNeg r73) := ⟨_, rfl⟩
      replace hF := hF σ75 eσ75
      rw [← eσ75] at hP
      refine lv_aload_n hx hb dX12_doValues_444 rfl (lv_at hl 2 rfl) ?_
      refine lv_dup hx hb dX12_doValues_445 rfl ?_
      refine va_get (D := D) (ci := 12) (v := .int (σ75.1 20)) (C := RX12) (T := TX12) (N := 42) hx hb hts in_X12 hown hK hP 1 (sm_gX12 σ75 α) rfl 31 (by decide) k_12 (fun _ h9 => h9) rfl dX12_doValues_446 ?_
      refine lv_iconst (v := 1) hx hb dX12_doValues_449 (by decide) ?_
      refine lv_iadd hx hb dX12_doValues_450 ?_
      refine va_put (D := D) (ci := 12) (v := .int ((σ75.1 20) + 1)) (ty := .int) (C := RX12) (T := TX12) (N := 42) hx hb hts in_X12 tyX12 tyX12_ok nmX12 hown hK hP (hD.to (sm_wM_m _ _)) hS 1 (sm_gX12 σ75 α) rfl 31 (by decide) k_12 (fun _ h9 => h9) rfl (by decide +kernel) rfl rfl (Nat.le_of_ble_eq_true rfl) dX12_doValues_451 (fun H locs hP _ hS => ?_)
      rw [sm_iM20] at hP
      obtain ⟨σ76, eσ76⟩ : ∃ x : sm_S, x = sm_i σ75 20 ((σ75.1 20) + 1) := ⟨_, rfl⟩
      replace hF := hF σ76 eσ76
      rw [← eσ76] at hP
      exact B454 σ76 hF H locs ls hP hS (lv_sub hl [2] rfl)
  unfold mp_X12_doValues at hF
  revert hP hS
  generalize hLo : ([] : List Loc) = locs
  suffices h9 : ∀ (H : Heap) (locs : List Loc), va_P D vwCl (sm_wM σ α) H → va_S A s.heap H locs → W p l e (headSpec wp_X12_doValues { frames := 3, cells := 0, slots := 0, locals := 62 }).room s m ([.ref (α.1 1), .int p1, .int p2] : List Value).toArray below meth c H locs 0 0 (MQ below (va_Qv K (sm_B sm_wM D α) A) ([.ref (α.1 1), .int p1, .int p2] : List Value).toArray s 0 0 A) (F0 m 0 ls []) from fun hP hS => h9 s.heap locs hP hS
  intro H locs hP hS
  refine lv_iload_n hx hb dX12_doValues_0 rfl (lv_at hl 2 rfl) ?_
  refine lv_bipush (v := 7) hx hb dX12_doValues_1 (by decide) ?_
  refine lv_icmp_lt (tgt := 42) hx hb dX12_doValues_3 (by decide) (fun h77 => ?_) (fun h77 => ?_)
  · replace hF := hF.1 h77
    exact B42 σ p1 p2 hF H locs ls hP hS (lv_sub hl [0, 1, 2] rfl)
  · replace hF := hF.2 h77
    refine lv_iload_n hx hb dX12_doValues_6 rfl (lv_at hl 2 rfl) ?_
    refine lv_bipush (v := 17) hx hb dX12_doValues_7 (by decide) ?_
    refine lv_icmp_gt (tgt := 42) hx hb dX12_doValues_9 (by decide) (fun h78 => ?_) (fun h78 => ?_)
    · replace hF := hF.1 h78
      exact B42 σ p1 p2 hF H locs ls hP hS (lv_sub hl [0, 1, 2] rfl)
    · replace hF := hF.2 h78
      refine lv_aload_n hx hb dX12_doValues_12 rfl (lv_at hl 0 rfl) ?_
      refine lv_iconst (v := 0) hx hb dX12_doValues_13 (by decide) ?_
      refine sm_vi (As := [.int 0]) (rest := []) hP hK hD hE hS hA ⟨hx, hb, hml, hown, hts⟩ hl.1 (c_X12_value l D H.size t0 σ α 0 _ hF) (cwV 1 hts wg_X12_doValues_X12_value_347 rfl rfl rfl (by decide +kernel) ⟨Nat.le_of_ble_eq_true rfl, Nat.le_of_ble_eq_true rfl⟩) (va_recv hK hP (ci := 12) (q0 := 1) rfl (sm_gX12 σ α)) rfl rfl (Nat.le_of_ble_eq_true rfl) dX12_doValues_14 ⟨Nat.zero_le _, Nat.zero_le _⟩ (fun r80 σ79 H locs hF hP hS => ?_)
      refine lv_istore_n (lv' := [(3, .int r80), (0, .ref (α.1 1)), (1, .int p1), (2, .int p2)]) hx hb dX12_doValues_17 rfl hl (by decide) rfl (fun ls hl => ?_)
      refine lv_aload_n hx hb dX12_doValues_18 rfl (lv_at hl 1 rfl) ?_
      refine lv_iconst (v := 1) hx hb dX12_doValues_19 (by decide) ?_
      refine sm_vi (As := [.int 1]) (rest := []) hP hK hD hE hS hA ⟨hx, hb, hml, hown, hts⟩ hl.1 (c_X12_value l D H.size t0 σ79 α 1 _ hF) (cwV 1 hts wg_X12_doValues_X12_value_347 rfl rfl rfl (by decide +kernel) ⟨Nat.le_of_ble_eq_true rfl, Nat.le_of_ble_eq_true rfl⟩) (va_recv hK hP (ci := 12) (q0 := 1) rfl (sm_gX12 σ79 α)) rfl rfl (Nat.le_of_ble_eq_true rfl) dX12_doValues_20 ⟨Nat.zero_le _, Nat.zero_le _⟩ (fun r82 σ81 H locs hF hP hS => ?_)
      refine lv_istore (lv' := [(4, .int r82), (3, .int r80), (0, .ref (α.1 1)), (1, .int p1), (2, .int p2)]) hx hb dX12_doValues_23 hl (by decide) rfl (fun ls hl => ?_)
      refine lv_aload_n hx hb dX12_doValues_25 rfl (lv_at hl 2 rfl) ?_
      refine lv_iconst (v := 2) hx hb dX12_doValues_26 (by decide) ?_
      refine sm_vv (As := [.int 2]) (rest := []) hP hK hD hE hS hA ⟨hx, hb, hml, hown, hts⟩ hl.1 (c_X12_drop l D H.size t0 σ81 α 2 _ hF) (cwV 1 hts wg_X12_doValues_X12_drop_359 rfl rfl rfl (by decide +kernel) ⟨Nat.le_of_ble_eq_true rfl, Nat.le_of_ble_eq_true rfl⟩) (va_recv hK hP (ci := 12) (q0 := 1) rfl (sm_gX12 σ81 α)) rfl rfl (Nat.le_of_ble_eq_true rfl) dX12_doValues_27 ⟨Nat.zero_le _, Nat.zero_le _⟩ (fun σ83 H locs hF hP hS => ?_)
      refine lv_aload_n hx hb dX12_doValues_30 rfl (lv_at hl 2 rfl) ?_
      refine lv_iload_n hx hb dX12_doValues_31 rfl (lv_at hl 4 rfl) ?_
      refine lv_iload hx hb dX12_doValues_32 (lv_at hl 0 rfl) ?_
      refine lv_iload_n hx hb dX12_doValues_34 rfl (lv_at hl 1 rfl) ?_
      refine sm_si (As := [.int p2, .int r82, .int r80]) (rest := [.ref (α.1 1)]) hP hK hD hE hS hA ⟨hx, hb, hml, hown, hts⟩ hl.1 (c_X12_reckon l D H.size t0 σ83 α p2 r82 r80 _ hF) (va_cwS 3 hts wg_X12_doValues_X12_reckon_362 rfl rfl rfl (by decide +kernel) ⟨Nat.le_of_ble_eq_true rfl, Nat.le_of_ble_eq_true rfl⟩) rfl rfl (Nat.le_of_ble_eq_true rfl) dX12_doValues_35 ⟨Nat.zero_le _, Nat.zero_le _⟩ (fun r85 σ84 H locs hF hP hS => ?_)
      refine sm_vv (As := [.int r85]) (rest := []) hP hK hD hE hS hA ⟨hx, hb, hml, hown, hts⟩ hl.1 (c_X12_putInt l D H.size t0 σ84 α r85 _ hF) (cwV 1 hts wg_X12_doValues_X12_putInt_366 rfl rfl rfl (by decide +kernel) ⟨Nat.le_of_ble_eq_true rfl, Nat.le_of_ble_eq_true rfl⟩) (va_recv hK hP (ci := 12) (q0 := 1) rfl (sm_gX12 σ84 α)) rfl rfl (Nat.le_of_ble_eq_true rfl) dX12_doValues_38 ⟨Nat.zero_le _, Nat.zero_le _⟩ (fun σ86 H locs hF hP hS => ?_)
      exact W.vret hx hb hr (fun t ht hW => ⟨⟨σ86, rfl, hF, (by unfold sm_B; rw [ht]; exact hP)⟩, hS.F ht⟩) hS.2.2 dX12_doValues_41
theorem dX12_compares_0 : decode cX12_compares 0 = .ok (.iload_n 0, 1) := by decide +kernel
theorem dX12_compares_1 : decode cX12_compares 1 = .ok (.tableswitch 90 0 4 #[35, 46, 57, 68, 79], 35) := by decide +kernel
theorem dX12_compares_36 : decode cX12_compares 36 = .ok (.iload_n 1, 1) := by decide +kernel
theorem dX12_compares_37 : decode cX12_compares 37 = .ok (.iload_n 2, 1) := by decide +kernel
theorem dX12_compares_38 : decode cX12_compares 38 = .ok (.if_icmp .ne 7, 3) := by decide +kernel
theorem dX12_compares_41 : decode cX12_compares 41 = .ok (.iconst 1, 1) := by decide +kernel
theorem dX12_compares_42 : decode cX12_compares 42 = .ok (.goto 4, 3) := by decide +kernel
theorem dX12_compares_45 : decode cX12_compares 45 = .ok (.iconst 0, 1) := by decide +kernel
theorem dX12_compares_46 : decode cX12_compares 46 = .ok (.ireturn, 1) := by decide +kernel
theorem dX12_compares_47 : decode cX12_compares 47 = .ok (.iload_n 1, 1) := by decide +kernel
theorem dX12_compares_48 : decode cX12_compares 48 = .ok (.iload_n 2, 1) := by decide +kernel
theorem dX12_compares_49 : decode cX12_compares 49 = .ok (.if_icmp .eq 7, 3) := by decide +kernel
theorem dX12_compares_52 : decode cX12_compares 52 = .ok (.iconst 1, 1) := by decide +kernel
theorem dX12_compares_53 : decode cX12_compares 53 = .ok (.goto 4, 3) := by decide +kernel
theorem dX12_compares_56 : decode cX12_compares 56 = .ok (.iconst 0, 1) := by decide +kernel
theorem dX12_compares_57 : decode cX12_compares 57 = .ok (.ireturn, 1) := by decide +kernel
theorem dX12_compares_58 : decode cX12_compares 58 = .ok (.iload_n 1, 1) := by decide +kernel
theorem dX12_compares_59 : decode cX12_compares 59 = .ok (.iload_n 2, 1) := by decide +kernel
theorem dX12_compares_60 : decode cX12_compares 60 = .ok (.if_icmp .ge 7, 3) := by decide +kernel
theorem dX12_compares_63 : decode cX12_compares 63 = .ok (.iconst 1, 1) := by decide +kernel
theorem dX12_compares_64 : decode cX12_compares 64 = .ok (.goto 4, 3) := by decide +kernel
theorem dX12_compares_67 : decode cX12_compares 67 = .ok (.iconst 0, 1) := by decide +kernel
theorem dX12_compares_68 : decode cX12_compares 68 = .ok (.ireturn, 1) := by decide +kernel
theorem dX12_compares_69 : decode cX12_compares 69 = .ok (.iload_n 1, 1) := by decide +kernel
theorem dX12_compares_70 : decode cX12_compares 70 = .ok (.iload_n 2, 1) := by decide +kernel
theorem dX12_compares_71 : decode cX12_compares 71 = .ok (.if_icmp .lt 7, 3) := by decide +kernel
theorem dX12_compares_74 : decode cX12_compares 74 = .ok (.iconst 1, 1) := by decide +kernel
theorem dX12_compares_75 : decode cX12_compares 75 = .ok (.goto 4, 3) := by decide +kernel
theorem dX12_compares_78 : decode cX12_compares 78 = .ok (.iconst 0, 1) := by decide +kernel
theorem dX12_compares_79 : decode cX12_compares 79 = .ok (.ireturn, 1) := by decide +kernel
theorem dX12_compares_80 : decode cX12_compares 80 = .ok (.iload_n 1, 1) := by decide +kernel
theorem dX12_compares_81 : decode cX12_compares 81 = .ok (.iload_n 2, 1) := by decide +kernel
theorem dX12_compares_82 : decode cX12_compares 82 = .ok (.if_icmp .le 7, 3) := by decide +kernel
theorem dX12_compares_85 : decode cX12_compares 85 = .ok (.iconst 1, 1) := by decide +kernel
theorem dX12_compares_86 : decode cX12_compares 86 = .ok (.goto 4, 3) := by decide +kernel
theorem dX12_compares_89 : decode cX12_compares 89 = .ok (.iconst 0, 1) := by decide +kernel
theorem dX12_compares_90 : decode cX12_compares 90 = .ok (.ireturn, 1) := by decide +kernel
theorem dX12_compares_91 : decode cX12_compares 91 = .ok (.iload_n 1, 1) := by decide +kernel
theorem dX12_compares_92 : decode cX12_compares 92 = .ok (.iload_n 2, 1) := by decide +kernel
theorem dX12_compares_93 : decode cX12_compares 93 = .ok (.if_icmp .gt 7, 3) := by decide +kernel
theorem dX12_compares_96 : decode cX12_compares 96 = .ok (.iconst 1, 1) := by decide +kernel
theorem dX12_compares_97 : decode cX12_compares 97 = .ok (.goto 4, 3) := by decide +kernel
theorem dX12_compares_100 : decode cX12_compares 100 = .ok (.iconst 0, 1) := by decide +kernel
theorem dX12_compares_101 : decode cX12_compares 101 = .ok (.ireturn, 1) := by decide +kernel
def wp_X12_compares : List Cond := .code yX12_compares cX12_compares 3 (some .boolean) :: []
theorem wq_X12_compares : wp_X12_compares.all goodWord = true := wa_c rfl (by decide +kernel)
theorem wt_X12_compares : GoodIn lw_tbl wp_X12_compares := wm_c (List.mem_of_getElem? (i := 1696) (by decide +kernel)) rfl (goodIn_r _ [] (by decide +kernel) (by decide +kernel))
set_option maxHeartbeats 4000000 in
set_option maxRecDepth 100000 in
theorem c_X12_compares (l : Launch) (D : va_G) (sz t0 : Nat) (σ : sm_S) (α : sm_A) (p1 : Int32) (p2 : Int32) (p3 : Int32) (K : Int32 → sm_S → Prop) (hF : mp_X12_compares σ p1 p2 p3 K) : Met l yX12_compares wp_X12_compares { frames := 0, cells := 0, slots := 0, locals := 0 } (sm_P sm_wM sm_tM 40 D sz t0 σ α [.int p1, .int p2, .int p3]) (va_Qi K (sm_B sm_wM D α) (sm_a α 40 sz)) 0 0 (sm_a α 40 sz) := by
  refine Met.ofW (cc := cX12_compares) (maxL := 3) (ret := (some .boolean)) (by decide) rfl ?_
  intro p e s m args below meth c s₁ B hml hv
  obtain ⟨rfl, hsz, hP, hK, hD0, hE⟩ := hv
  have hx := B.exec
  have hb := B.bytes
  have hr := B.returns
  have hts := atoms_spec (ws := wp_X12_compares) B.pre
  have hown : s.vm.findClass RX12 = some m.cls := findClass_of_methodNamed B.named
  have hlocks := B.notSynchronized
  subst hsz
  have hD : sm_D (sm_a α 40 s.heap.size) α 40 := hD0.own
  have hA : ∀ q : Nat, s.heap.size ≤ q → sm_a α 40 s.heap.size q := fun q h => Or.inr h
  generalize hAe : sm_a α 40 s.heap.size = A at hD hA hE ⊢
  have hS : va_S A s.heap s.heap [] := va_S.rf
  have hl := lv_entry ([.int p1, .int p2, .int p3]) (n := 3) (Nat.le_of_ble_eq_true rfl)
  rw [lg_entry_eq]
  generalize (lg_sl ([.int p1, .int p2, .int p3]) ++ List.replicate (3 - (lg_sl ([.int p1, .int p2, .int p3])).length) Slot.unset).toArray = ls at hl ⊢
  have hl : lv_has ls 3 [(0, .int p1), (1, .int p2), (2, .int p3)] := hl
  have B101 : ∀ (σ : sm_S) (y0 : Int32), mp_X12_compares_101 K σ y0 → sm_J p l e (headSpec wp_X12_compares { frames := 0, cells := 0, slots := 0, locals := 0 }).room s m ([.int p1, .int p2, .int p3] : List Value).toArray below meth c (MQ below (va_Qi K (sm_B sm_wM D α) A) ([.int p1, .int p2, .int p3] : List Value).toArray s 0 0 A) D A 3 (sm_wM σ α) 101 [] [.int y0] := by
    intro σ y0 hF H locs ls hP hS hl
    unfold mp_X12_compares_101 at hF
    obtain ⟨h1, hF⟩ := hF
    exact W.zret (v := y0) hx hb hr h1.1 (fun t ht hW => ⟨⟨y0, σ, rfl, hF, (by unfold sm_B; rw [ht]; exact hP)⟩, hS.F ht⟩) hS.2.2 dX12_compares_101
  have B90 : ∀ (σ : sm_S) (y0 : Int32), mp_X12_compares_90 K σ y0 → sm_J p l e (headSpec wp_X12_compares { frames := 0, cells := 0, slots := 0, locals := 0 }).room s m ([.int p1, .int p2, .int p3] : List Value).toArray below meth c (MQ below (va_Qi K (sm_B sm_wM D α) A) ([.int p1, .int p2, .int p3] : List Value).toArray s 0 0 A) D A 3 (sm_wM σ α) 90 [] [.int y0] := by
    intro σ y0 hF H locs ls hP hS hl
    unfold mp_X12_compares_90 at hF
    obtain ⟨h2, hF⟩ := hF
    exact W.zret (v := y0) hx hb hr h2.1 (fun t ht hW => ⟨⟨y0, σ, rfl, hF, (by unfold sm_B; rw [ht]; exact hP)⟩, hS.F ht⟩) hS.2.2 dX12_compares_90
  have B79 : ∀ (σ : sm_S) (y0 : Int32), mp_X12_compares_79 K σ y0 → sm_J p l e (headSpec wp_X12_compares { frames := 0, cells := 0, slots := 0, locals := 0 }).room s m ([.int p1, .int p2, .int p3] : List Value).toArray below meth c (MQ below (va_Qi K (sm_B sm_wM D α) A) ([.int p1, .int p2, .int p3] : List Value).toArray s 0 0 A) D A 3 (sm_wM σ α) 79 [] [.int y0] := by
    intro σ y0 hF H locs ls hP hS hl
    unfold mp_X12_compares_79 at hF
    obtain ⟨h3, hF⟩ := hF
    exact W.zret (v := y0) hx hb hr h3.1 (fun t ht hW => ⟨⟨y0, σ, rfl, hF, (by unfold sm_B; rw [ht]; exact hP)⟩, hS.F ht⟩) hS.2.2 dX12_compares_79
  have B68 : ∀ (σ : sm_S) (y0 : Int32), mp_X12_compares_68 K σ y0 → sm_J p l e (headSpec wp_X12_compares { frames := 0, cells := 0, slots := 0, locals := 0 }).room s m ([.int p1, .int p2, .int p3] : List Value).toArray below meth c (MQ below (va_Qi K (sm_B sm_wM D α) A) ([.int p1, .int p2, .int p3] : List Value).toArray s 0 0 A) D A 3 (sm_wM σ α) 68 [] [.int y0] := by
    intro σ y0 hF H locs ls hP hS hl
    unfold mp_X12_compares_68 at hF
    obtain ⟨h4, hF⟩ := hF
    exact W.zret (v := y0) hx hb hr h4.1 (fun t ht hW => ⟨⟨y0, σ, rfl, hF, (by unfold sm_B; rw [ht]; exact hP)⟩, hS.F ht⟩) hS.2.2 dX12_compares_68
  have B57 : ∀ (σ : sm_S) (y0 : Int32), mp_X12_compares_57 K σ y0 → sm_J p l e (headSpec wp_X12_compares { frames := 0, cells := 0, slots := 0, locals := 0 }).room s m ([.int p1, .int p2, .int p3] : List Value).toArray below meth c (MQ below (va_Qi K (sm_B sm_wM D α) A) ([.int p1, .int p2, .int p3] : List Value).toArray s 0 0 A) D A 3 (sm_wM σ α) 57 [] [.int y0] := by
    intro σ y0 hF H locs ls hP hS hl
    unfold mp_X12_compares_57 at hF
    obtain ⟨h5, hF⟩ := hF
    exact W.zret (v := y0) hx hb hr h5.1 (fun t ht hW => ⟨⟨y0, σ, rfl, hF, (by unfold sm_B; rw [ht]; exact hP)⟩, hS.F ht⟩) hS.2.2 dX12_compares_57
  have B46 : ∀ (σ : sm_S) (y0 : Int32), mp_X12_compares_46 K σ y0 → sm_J p l e (headSpec wp_X12_compares { frames := 0, cells := 0, slots := 0, locals := 0 }).room s m ([.int p1, .int p2, .int p3] : List Value).toArray below meth c (MQ below (va_Qi K (sm_B sm_wM D α) A) ([.int p1, .int p2, .int p3] : List Value).toArray s 0 0 A) D A 3 (sm_wM σ α) 46 [] [.int y0] := by
    intro σ y0 hF H locs ls hP hS hl
    unfold mp_X12_compares_46 at hF
    obtain ⟨h6, hF⟩ := hF
    exact W.zret (v := y0) hx hb hr h6.1 (fun t ht hW => ⟨⟨y0, σ, rfl, hF, (by unfold sm_B; rw [ht]; exact hP)⟩, hS.F ht⟩) hS.2.2 dX12_compares_46
  unfold mp_X12_compares at hF
  revert hP hS
  generalize hLo : ([] : List Loc) = locs
  suffices h9 : ∀ (H : Heap) (locs : List Loc), va_P D vwCl (sm_wM σ α) H → va_S A s.heap H locs → W p l e (headSpec wp_X12_compares { frames := 0, cells := 0, slots := 0, locals := 0 }).room s m ([.int p1, .int p2, .int p3] : List Value).toArray below meth c H locs 0 0 (MQ below (va_Qi K (sm_B sm_wM D α) A) ([.int p1, .int p2, .int p3] : List Value).toArray s 0 0 A) (F0 m 0 ls []) from fun hP hS => h9 s.heap locs hP hS
  intro H locs hP hS
  refine lv_iload_n hx hb dX12_compares_0 rfl (lv_at hl 0 rfl) ?_
  obtain ⟨gh7, hF⟩ := hF
  by_cases h7 : p1 = 0
  · refine lv_tableIn (tgt := 36) hx hb dX12_compares_1 (by rw [h7]; decide) (by rw [h7]; decide) (by rw [h7]; rfl) (by decide) ?_
    clear hF
    have hF := gh7 h7
    clear gh7
    refine lv_iload_n hx hb dX12_compares_36 rfl (lv_at hl 1 rfl) ?_
    refine lv_iload_n hx hb dX12_compares_37 rfl (lv_at hl 2 rfl) ?_
    refine lv_icmp_ne (tgt := 45) hx hb dX12_compares_38 (by decide) (fun h8 => ?_) (fun h8 => ?_)
    · replace hF := hF.1 h8
      refine lv_iconst (v := 0) hx hb dX12_compares_45 (by decide) ?_
      exact B46 σ 0 hF H locs ls hP hS (lv_sub hl [] rfl)
    · replace hF := hF.2 h8
      refine lv_iconst (v := 1) hx hb dX12_compares_41 (by decide) ?_
      refine lv_goto (tgt := 46) hx hb dX12_compares_42 (by decide) ?_
      exact B46 σ 1 hF H locs ls hP hS (lv_sub hl [] rfl)
  clear gh7
  obtain ⟨gh9, hF⟩ := hF
  by_cases h9 : p1 = 1
  · refine lv_tableIn (tgt := 47) hx hb dX12_compares_1 (by rw [h9]; decide) (by rw [h9]; decide) (by rw [h9]; rfl) (by decide) ?_
    clear hF
    have hF := gh9 h9
    clear gh9
    refine lv_iload_n hx hb dX12_compares_47 rfl (lv_at hl 1 rfl) ?_
    refine lv_iload_n hx hb dX12_compares_48 rfl (lv_at hl 2 rfl) ?_
    refine lv_icmp_eq (tgt := 56) hx hb dX12_compares_49 (by decide) (fun h10 => ?_) (fun h10 => ?_)
    · replace hF := hF.1 h10
      refine lv_iconst (v := 0) hx hb dX12_compares_56 (by decide) ?_
      exact B57 σ 0 hF H locs ls hP hS (lv_sub hl [] rfl)
    · replace hF := hF.2 h10
      refine lv_iconst (v := 1) hx hb dX12_compares_52 (by decide) ?_
      refine lv_goto (tgt := 57) hx hb dX12_compares_53 (by decide) ?_
      exact B57 σ 1 hF H locs ls hP hS (lv_sub hl [] rfl)
  clear gh9
  obtain ⟨gh11, hF⟩ := hF
  by_cases h11 : p1 = 2
  · refine lv_tableIn (tgt := 58) hx hb dX12_compares_1 (by rw [h11]; decide) (by rw [h11]; decide) (by rw [h11]; rfl) (by decide) ?_
    clear hF
    have hF := gh11 h11
    clear gh11
    refine lv_iload_n hx hb dX12_compares_58 rfl (lv_at hl 1 rfl) ?_
    refine lv_iload_n hx hb dX12_compares_59 rfl (lv_at hl 2 rfl) ?_
    refine lv_icmp_ge (tgt := 67) hx hb dX12_compares_60 (by decide) (fun h12 => ?_) (fun h12 => ?_)
    · replace hF := hF.1 h12
      refine lv_iconst (v := 0) hx hb dX12_compares_67 (by decide) ?_
      exact B68 σ 0 hF H locs ls hP hS (lv_sub hl [] rfl)
    · replace hF := hF.2 h12
      refine lv_iconst (v := 1) hx hb dX12_compares_63 (by decide) ?_
      refine lv_goto (tgt := 68) hx hb dX12_compares_64 (by decide) ?_
      exact B68 σ 1 hF H locs ls hP hS (lv_sub hl [] rfl)
  clear gh11
  obtain ⟨gh13, hF⟩ := hF
  by_cases h13 : p1 = 3
  · refine lv_tableIn (tgt := 69) hx hb dX12_compares_1 (by rw [h13]; decide) (by rw [h13]; decide) (by rw [h13]; rfl) (by decide) ?_
    clear hF
    have hF := gh13 h13
    clear gh13
    refine lv_iload_n hx hb dX12_compares_69 rfl (lv_at hl 1 rfl) ?_
    refine lv_iload_n hx hb dX12_compares_70 rfl (lv_at hl 2 rfl) ?_
    refine lv_icmp_lt (tgt := 78) hx hb dX12_compares_71 (by decide) (fun h14 => ?_) (fun h14 => ?_)
    · replace hF := hF.1 h14
      refine lv_iconst (v := 0) hx hb dX12_compares_78 (by decide) ?_
      exact B79 σ 0 hF H locs ls hP hS (lv_sub hl [] rfl)
    · replace hF := hF.2 h14
      refine lv_iconst (v := 1) hx hb dX12_compares_74 (by decide) ?_
      refine lv_goto (tgt := 79) hx hb dX12_compares_75 (by decide) ?_
      exact B79 σ 1 hF H locs ls hP hS (lv_sub hl [] rfl)
  clear gh13
  obtain ⟨gh15, hF⟩ := hF
  by_cases h15 : p1 = 4
  · refine lv_tableIn (tgt := 80) hx hb dX12_compares_1 (by rw [h15]; decide) (by rw [h15]; decide) (by rw [h15]; rfl) (by decide) ?_
    clear hF
    have hF := gh15 h15
    clear gh15
    refine lv_iload_n hx hb dX12_compares_80 rfl (lv_at hl 1 rfl) ?_
    refine lv_iload_n hx hb dX12_compares_81 rfl (lv_at hl 2 rfl) ?_
    refine lv_icmp_le (tgt := 89) hx hb dX12_compares_82 (by decide) (fun h16 => ?_) (fun h16 => ?_)
    · replace hF := hF.1 h16
      refine lv_iconst (v := 0) hx hb dX12_compares_89 (by decide) ?_
      exact B90 σ 0 hF H locs ls hP hS (lv_sub hl [] rfl)
    · replace hF := hF.2 h16
      refine lv_iconst (v := 1) hx hb dX12_compares_85 (by decide) ?_
      refine lv_goto (tgt := 90) hx hb dX12_compares_86 (by decide) ?_
      exact B90 σ 1 hF H locs ls hP hS (lv_sub hl [] rfl)
  clear gh15
  refine lv_tableOut (tgt := 91) hx hb dX12_compares_1 (by have q0 := lv_neT h7 (show Int32.toInt 0 = 0 by decide); have q1 := lv_neT h9 (show Int32.toInt 1 = 1 by decide); have q2 := lv_neT h11 (show Int32.toInt 2 = 2 by decide); have q3 := lv_neT h13 (show Int32.toInt 3 = 3 by decide); have q4 := lv_neT h15 (show Int32.toInt 4 = 4 by decide); omega) (by decide) ?_
  replace hF := hF h7 h9 h11 h13 h15
  refine lv_iload_n hx hb dX12_compares_91 rfl (lv_at hl 1 rfl) ?_
  refine lv_iload_n hx hb dX12_compares_92 rfl (lv_at hl 2 rfl) ?_
  refine lv_icmp_gt (tgt := 100) hx hb dX12_compares_93 (by decide) (fun h17 => ?_) (fun h17 => ?_)
  · replace hF := hF.1 h17
    refine lv_iconst (v := 0) hx hb dX12_compares_100 (by decide) ?_
    exact B101 σ 0 hF H locs ls hP hS (lv_sub hl [] rfl)
  · replace hF := hF.2 h17
    refine lv_iconst (v := 1) hx hb dX12_compares_96 (by decide) ?_
    refine lv_goto (tgt := 101) hx hb dX12_compares_97 (by decide) ?_
    exact B101 σ 1 hF H locs ls hP hS (lv_sub hl [] rfl)
theorem dX12_jump_0 : decode cX12_jump 0 = .ok (.iconst 1, 1) := by decide +kernel
theorem dX12_jump_1 : decode cX12_jump 1 = .ok (.istore_n 3, 1) := by decide +kernel
theorem dX12_jump_2 : decode cX12_jump 2 = .ok (.aload_n 0, 1) := by decide +kernel
theorem dX12_jump_3 : decode cX12_jump 3 = .ok (.getfield 10, 3) := by decide +kernel
theorem dX12_jump_6 : decode cX12_jump 6 = .ok (.getfield 111, 3) := by decide +kernel
theorem dX12_jump_9 : decode cX12_jump 9 = .ok (.iload_n 1, 1) := by decide +kernel
theorem dX12_jump_10 : decode cX12_jump 10 = .ok (.iconst 1, 1) := by decide +kernel
theorem dX12_jump_11 : decode cX12_jump 11 = .ok (.iadd, 1) := by decide +kernel
theorem dX12_jump_12 : decode cX12_jump 12 = .ok (.iaload, 1) := by decide +kernel
theorem dX12_jump_13 : decode cX12_jump 13 = .ok (.istore 4, 2) := by decide +kernel
theorem dX12_jump_15 : decode cX12_jump 15 = .ok (.iconst 1, 1) := by decide +kernel
theorem dX12_jump_16 : decode cX12_jump 16 = .ok (.istore 5, 2) := by decide +kernel
theorem dX12_jump_18 : decode cX12_jump 18 = .ok (.iload_n 2, 1) := by decide +kernel
theorem dX12_jump_19 : decode cX12_jump 19 = .ok (.tableswitch 160 19 24 #[37, 52, 74, 92, 110, 135], 37) := by decide +kernel
theorem dX12_jump_56 : decode cX12_jump 56 = .ok (.iload 4, 2) := by decide +kernel
theorem dX12_jump_58 : decode cX12_jump 58 = .ok (.aload_n 0, 1) := by decide +kernel
theorem dX12_jump_59 : decode cX12_jump 59 = .ok (.iconst 0, 1) := by decide +kernel
theorem dX12_jump_60 : decode cX12_jump 60 = .ok (.invokevirtual 347, 3) := by decide +kernel
theorem dX12_jump_63 : decode cX12_jump 63 = .ok (.iconst 0, 1) := by decide +kernel
theorem dX12_jump_64 : decode cX12_jump 64 = .ok (.invokestatic 372, 3) := by decide +kernel
theorem dX12_jump_67 : decode cX12_jump 67 = .ok (.istore_n 3, 1) := by decide +kernel
theorem dX12_jump_68 : decode cX12_jump 68 = .ok (.goto 114, 3) := by decide +kernel
theorem dX12_jump_71 : decode cX12_jump 71 = .ok (.iload 4, 2) := by decide +kernel
theorem dX12_jump_73 : decode cX12_jump 73 = .ok (.aload_n 0, 1) := by decide +kernel
theorem dX12_jump_74 : decode cX12_jump 74 = .ok (.iconst 1, 1) := by decide +kernel
theorem dX12_jump_75 : decode cX12_jump 75 = .ok (.invokevirtual 347, 3) := by decide +kernel
theorem dX12_jump_78 : decode cX12_jump 78 = .ok (.aload_n 0, 1) := by decide +kernel
theorem dX12_jump_79 : decode cX12_jump 79 = .ok (.iconst 0, 1) := by decide +kernel
theorem dX12_jump_80 : decode cX12_jump 80 = .ok (.invokevirtual 347, 3) := by decide +kernel
theorem dX12_jump_83 : decode cX12_jump 83 = .ok (.invokestatic 372, 3) := by decide +kernel
theorem dX12_jump_86 : decode cX12_jump 86 = .ok (.istore_n 3, 1) := by decide +kernel
theorem dX12_jump_87 : decode cX12_jump 87 = .ok (.iconst 2, 1) := by decide +kernel
theorem dX12_jump_88 : decode cX12_jump 88 = .ok (.istore 5, 2) := by decide +kernel
theorem dX12_jump_90 : decode cX12_jump 90 = .ok (.goto 92, 3) := by decide +kernel
theorem dX12_jump_93 : decode cX12_jump 93 = .ok (.aload_n 0, 1) := by decide +kernel
theorem dX12_jump_94 : decode cX12_jump 94 = .ok (.iconst 0, 1) := by decide +kernel
theorem dX12_jump_95 : decode cX12_jump 95 = .ok (.invokevirtual 347, 3) := by decide +kernel
theorem dX12_jump_98 : decode cX12_jump 98 = .ok (.iconst (-1), 1) := by decide +kernel
theorem dX12_jump_99 : decode cX12_jump 99 = .ok (.if_icmp .ne 7, 3) := by decide +kernel
theorem dX12_jump_102 : decode cX12_jump 102 = .ok (.iconst 1, 1) := by decide +kernel
theorem dX12_jump_103 : decode cX12_jump 103 = .ok (.goto 4, 3) := by decide +kernel
theorem dX12_jump_106 : decode cX12_jump 106 = .ok (.iconst 0, 1) := by decide +kernel
theorem dX12_jump_107 : decode cX12_jump 107 = .ok (.istore_n 3, 1) := by decide +kernel
theorem dX12_jump_108 : decode cX12_jump 108 = .ok (.goto 74, 3) := by decide +kernel
theorem dX12_jump_111 : decode cX12_jump 111 = .ok (.aload_n 0, 1) := by decide +kernel
theorem dX12_jump_112 : decode cX12_jump 112 = .ok (.iconst 0, 1) := by decide +kernel
theorem dX12_jump_113 : decode cX12_jump 113 = .ok (.invokevirtual 347, 3) := by decide +kernel
theorem dX12_jump_116 : decode cX12_jump 116 = .ok (.iconst (-1), 1) := by decide +kernel
theorem dX12_jump_117 : decode cX12_jump 117 = .ok (.if_icmp .eq 7, 3) := by decide +kernel
theorem dX12_jump_120 : decode cX12_jump 120 = .ok (.iconst 1, 1) := by decide +kernel
theorem dX12_jump_121 : decode cX12_jump 121 = .ok (.goto 4, 3) := by decide +kernel
theorem dX12_jump_124 : decode cX12_jump 124 = .ok (.iconst 0, 1) := by decide +kernel
theorem dX12_jump_125 : decode cX12_jump 125 = .ok (.istore_n 3, 1) := by decide +kernel
theorem dX12_jump_126 : decode cX12_jump 126 = .ok (.goto 56, 3) := by decide +kernel
theorem dX12_jump_129 : decode cX12_jump 129 = .ok (.aload_n 0, 1) := by decide +kernel
theorem dX12_jump_130 : decode cX12_jump 130 = .ok (.iconst 0, 1) := by decide +kernel
theorem dX12_jump_131 : decode cX12_jump 131 = .ok (.invokevirtual 347, 3) := by decide +kernel
theorem dX12_jump_134 : decode cX12_jump 134 = .ok (.aload_n 0, 1) := by decide +kernel
theorem dX12_jump_135 : decode cX12_jump 135 = .ok (.iconst 1, 1) := by decide +kernel
theorem dX12_jump_136 : decode cX12_jump 136 = .ok (.invokevirtual 347, 3) := by decide +kernel
theorem dX12_jump_139 : decode cX12_jump 139 = .ok (.if_icmp .ne 7, 3) := by decide +kernel
theorem dX12_jump_142 : decode cX12_jump 142 = .ok (.iconst 1, 1) := by decide +kernel
theorem dX12_jump_143 : decode cX12_jump 143 = .ok (.goto 4, 3) := by decide +kernel
theorem dX12_jump_146 : decode cX12_jump 146 = .ok (.iconst 0, 1) := by decide +kernel
theorem dX12_jump_147 : decode cX12_jump 147 = .ok (.istore_n 3, 1) := by decide +kernel
theorem dX12_jump_148 : decode cX12_jump 148 = .ok (.iconst 2, 1) := by decide +kernel
theorem dX12_jump_149 : decode cX12_jump 149 = .ok (.istore 5, 2) := by decide +kernel
theorem dX12_jump_151 : decode cX12_jump 151 = .ok (.goto 31, 3) := by decide +kernel
theorem dX12_jump_154 : decode cX12_jump 154 = .ok (.aload_n 0, 1) := by decide +kernel
theorem dX12_jump_155 : decode cX12_jump 155 = .ok (.iconst 0, 1) := by decide +kernel
theorem dX12_jump_156 : decode cX12_jump 156 = .ok (.invokevirtual 347, 3) := by decide +kernel
theorem dX12_jump_159 : decode cX12_jump 159 = .ok (.aload_n 0, 1) := by decide +kernel
theorem dX12_jump_160 : decode cX12_jump 160 = .ok (.iconst 1, 1) := by decide +kernel
theorem dX12_jump_161 : decode cX12_jump 161 = .ok (.invokevirtual 347, 3) := by decide +kernel
theorem dX12_jump_164 : decode cX12_jump 164 = .ok (.if_icmp .eq 7, 3) := by decide +kernel
theorem dX12_jump_167 : decode cX12_jump 167 = .ok (.iconst 1, 1) := by decide +kernel
theorem dX12_jump_168 : decode cX12_jump 168 = .ok (.goto 4, 3) := by decide +kernel
theorem dX12_jump_171 : decode cX12_jump 171 = .ok (.iconst 0, 1) := by decide +kernel
theorem dX12_jump_172 : decode cX12_jump 172 = .ok (.istore_n 3, 1) := by decide +kernel
theorem dX12_jump_173 : decode cX12_jump 173 = .ok (.iconst 2, 1) := by decide +kernel
theorem dX12_jump_174 : decode cX12_jump 174 = .ok (.istore 5, 2) := by decide +kernel
theorem dX12_jump_176 : decode cX12_jump 176 = .ok (.goto 6, 3) := by decide +kernel
theorem dX12_jump_179 : decode cX12_jump 179 = .ok (.iconst 0, 1) := by decide +kernel
theorem dX12_jump_180 : decode cX12_jump 180 = .ok (.istore 5, 2) := by decide +kernel
theorem dX12_jump_182 : decode cX12_jump 182 = .ok (.aload_n 0, 1) := by decide +kernel
theorem dX12_jump_183 : decode cX12_jump 183 = .ok (.iload 5, 2) := by decide +kernel
theorem dX12_jump_185 : decode cX12_jump 185 = .ok (.invokevirtual 359, 3) := by decide +kernel
theorem dX12_jump_188 : decode cX12_jump 188 = .ok (.iload_n 3, 1) := by decide +kernel
theorem dX12_jump_189 : decode cX12_jump 189 = .ok (.ifCond .eq 22, 3) := by decide +kernel
theorem dX12_jump_192 : decode cX12_jump 192 = .ok (.aload_n 0, 1) := by decide +kernel
theorem dX12_jump_193 : decode cX12_jump 193 = .ok (.getfield 208, 3) := by decide +kernel
theorem dX12_jump_196 : decode cX12_jump 196 = .ok (.aload_n 0, 1) := by decide +kernel
theorem dX12_jump_197 : decode cX12_jump 197 = .ok (.getfield 256, 3) := by decide +kernel
theorem dX12_jump_200 : decode cX12_jump 200 = .ok (.iconst 1, 1) := by decide +kernel
theorem dX12_jump_201 : decode cX12_jump 201 = .ok (.isub, 1) := by decide +kernel
theorem dX12_jump_202 : decode cX12_jump 202 = .ok (.aload_n 0, 1) := by decide +kernel
theorem dX12_jump_203 : decode cX12_jump 203 = .ok (.iload_n 1, 1) := by decide +kernel
theorem dX12_jump_204 : decode cX12_jump 204 = .ok (.invokevirtual 139, 3) := by decide +kernel
theorem dX12_jump_207 : decode cX12_jump 207 = .ok (.iastore, 1) := by decide +kernel
theorem dX12_jump_208 : decode cX12_jump 208 = .ok (.goto 8, 3) := by decide +kernel
theorem dX12_jump_211 : decode cX12_jump 211 = .ok (.aload_n 0, 1) := by decide +kernel
theorem dX12_jump_212 : decode cX12_jump 212 = .ok (.iload_n 1, 1) := by decide +kernel
theorem dX12_jump_213 : decode cX12_jump 213 = .ok (.invokevirtual 356, 3) := by decide +kernel
theorem dX12_jump_216 : decode cX12_jump 216 = .ok (.return_, 1) := by decide +kernel
def wp_X12_jump : List Cond := .code yX12_jump cX12_jump 6 none :: ((((((([.fieldLink RX12 208 "SteadyMachineModel" "placeOf" "[I", .fieldLink RX12 256 "SteadyMachineModel" "frames" "I", .fieldLink RX12 10 "SteadyMachineModel" "image" "LSteadyMachineModel$Image;"] ++ (wsV RX12 359 RX12 yX12_drop wp_X12_drop)) ++ (wsV RX12 356 RX12 yX12_onward wp_X12_onward)) ++ (wsV RX12 139 RX12 yX12_jumpOf wp_X12_jumpOf)) ++ (wsV RX12 347 RX12 yX12_value wp_X12_value)) ++ (va_wsS RX12 372 yX12_compares wp_X12_compares)) ++ wsX110) ++ wsX120)
theorem wq_X12_jump : wp_X12_jump.all goodWord = true := wa_c rfl (wa_a (wa_a (wa_a (wa_a (wa_a (wa_a (wa_a (by decide +kernel) (wa_V wq_X12_drop)) (wa_V wq_X12_onward)) (wa_V wq_X12_jumpOf)) (wa_V wq_X12_value)) (wa_S wq_X12_compares)) uq_X11) uq_X12)
set_option maxRecDepth 200000 in
theorem wt_X12_jump : GoodIn lw_tbl wp_X12_jump := wm_c (List.mem_of_getElem? (i := 1689) rfl) rfl (wm_a (wm_a (wm_a (wm_a (wm_a (wm_a (wm_a (goodIn_r _ [1510, 1508, 1490] (by decide +kernel) (by decide +kernel)) (wm_a (goodIn_r _ [1697, 1699, 117, 147] (by decide +kernel) (by decide +kernel)) wt_X12_drop)) (wm_a (goodIn_r _ [1701, 1703, 118, 147] (by decide +kernel) (by decide +kernel)) wt_X12_onward)) (wm_a (goodIn_r _ [1362, 1364, 101, 147] (by decide +kernel) (by decide +kernel)) wt_X12_jumpOf)) (wm_a (goodIn_r _ [1690, 1692, 116, 147] (by decide +kernel) (by decide +kernel)) wt_X12_value)) (wm_a (goodIn_r _ [1694, 1695, 147] (by decide +kernel) (by decide +kernel)) wt_X12_compares)) ut_X11) ut_X12)
theorem wg_X12_jump_X12_drop_359 : GoodIn wp_X12_jump (wsV RX12 359 RX12 yX12_drop wp_X12_drop) := goodIn_sub (fun w h => List.mem_cons_of_mem _ (List.mem_append_left _ (List.mem_append_left _ (List.mem_append_left _ (List.mem_append_left _ (List.mem_append_left _ (List.mem_append_left _ (List.mem_append_right _ h)))))))) (wa_V wq_X12_drop)
theorem wg_X12_jump_X12_onward_356 : GoodIn wp_X12_jump (wsV RX12 356 RX12 yX12_onward wp_X12_onward) := goodIn_sub (fun w h => List.mem_cons_of_mem _ (List.mem_append_left _ (List.mem_append_left _ (List.mem_append_left _ (List.mem_append_left _ (List.mem_append_left _ (List.mem_append_right _ h))))))) (wa_V wq_X12_onward)
theorem wg_X12_jump_X12_jumpOf_139 : GoodIn wp_X12_jump (wsV RX12 139 RX12 yX12_jumpOf wp_X12_jumpOf) := goodIn_sub (fun w h => List.mem_cons_of_mem _ (List.mem_append_left _ (List.mem_append_left _ (List.mem_append_left _ (List.mem_append_left _ (List.mem_append_right _ h)))))) (wa_V wq_X12_jumpOf)
theorem wg_X12_jump_X12_value_347 : GoodIn wp_X12_jump (wsV RX12 347 RX12 yX12_value wp_X12_value) := goodIn_sub (fun w h => List.mem_cons_of_mem _ (List.mem_append_left _ (List.mem_append_left _ (List.mem_append_left _ (List.mem_append_right _ h))))) (wa_V wq_X12_value)
theorem wg_X12_jump_X12_compares_372 : GoodIn wp_X12_jump (va_wsS RX12 372 yX12_compares wp_X12_compares) := goodIn_sub (fun w h => List.mem_cons_of_mem _ (List.mem_append_left _ (List.mem_append_left _ (List.mem_append_right _ h)))) (wa_S wq_X12_compares)
theorem wi_X12_jump_X11 : ∀ w ∈ wsX110, w ∈ wp_X12_jump := fun w h => List.mem_cons_of_mem _ (List.mem_append_left _ (List.mem_append_right _ h))
theorem wi_X12_jump_X12 : ∀ w ∈ wsX120, w ∈ wp_X12_jump := fun w h => List.mem_cons_of_mem _ (List.mem_append_right _ h)
set_option maxHeartbeats 4000000 in
set_option maxRecDepth 100000 in
theorem c_X12_jump (l : Launch) (D : va_G) (sz t0 : Nat) (σ : sm_S) (α : sm_A) (p1 : Int32) (p2 : Int32) (K : sm_S → Prop) (hF : mp_X12_jump σ p1 p2 K) : Met l yX12_jump wp_X12_jump { frames := 3, cells := 0, slots := 0, locals := 62 } (sm_P sm_wM sm_tM 40 D sz t0 σ α [.ref (α.1 1), .int p1, .int p2]) (va_Qv K (sm_B sm_wM D α) (sm_a α 40 sz)) 0 0 (sm_a α 40 sz) := by
  refine Met.ofW (cc := cX12_jump) (maxL := 6) (ret := none) (by decide) rfl ?_
  intro p e s m args below meth c s₁ B hml hv
  obtain ⟨rfl, hsz, hP, hK, hD0, hE⟩ := hv
  have hx := B.exec
  have hb := B.bytes
  have hr := B.returns
  have hts := atoms_spec (ws := wp_X12_jump) B.pre
  have hown : s.vm.findClass RX12 = some m.cls := findClass_of_methodNamed B.named
  have hlocks := B.notSynchronized
  subst hsz
  have hD : sm_D (sm_a α 40 s.heap.size) α 40 := hD0.own
  have hA : ∀ q : Nat, s.heap.size ≤ q → sm_a α 40 s.heap.size q := fun q h => Or.inr h
  generalize hAe : sm_a α 40 s.heap.size = A at hD hA hE ⊢
  have hS : va_S A s.heap s.heap [] := va_S.rf
  have in_X11 : ∀ w ∈ wsX110, w ∈ wp_X12_jump := wi_X12_jump_X11
  have in_X12 : ∀ w ∈ wsX120, w ∈ wp_X12_jump := wi_X12_jump_X12
  have k_0 := hts (.fieldLink RX12 208 "SteadyMachineModel" "placeOf" "[I") (by decide +kernel)
  have k_1 := hts (.fieldLink RX12 256 "SteadyMachineModel" "frames" "I") (by decide +kernel)
  have k_2 := hts (.fieldLink RX12 10 "SteadyMachineModel" "image" "LSteadyMachineModel$Image;") (by decide +kernel)
  have hl := lv_entry ([.ref (α.1 1), .int p1, .int p2]) (n := 6) (Nat.le_of_ble_eq_true rfl)
  rw [lg_entry_eq]
  generalize (lg_sl ([.ref (α.1 1), .int p1, .int p2]) ++ List.replicate (6 - (lg_sl ([.ref (α.1 1), .int p1, .int p2])).length) Slot.unset).toArray = ls at hl ⊢
  have hl : lv_has ls 6 [(0, .ref (α.1 1)), (1, .int p1), (2, .int p2)] := hl
  have B216 : ∀ (σ : sm_S), mp_X12_jump_216 K σ → sm_J p l e (headSpec wp_X12_jump { frames := 3, cells := 0, slots := 0, locals := 62 }).room s m ([.ref (α.1 1), .int p1, .int p2] : List Value).toArray below meth c (MQ below (va_Qv K (sm_B sm_wM D α) A) ([.ref (α.1 1), .int p1, .int p2] : List Value).toArray s 0 0 A) D A 6 (sm_wM σ α) 216 [] [] := by
    intro σ hF H locs ls hP hS hl
    unfold mp_X12_jump_216 at hF
    exact W.vret hx hb hr (fun t ht hW => ⟨⟨σ, rfl, hF, (by unfold sm_B; rw [ht]; exact hP)⟩, hS.F ht⟩) hS.2.2 dX12_jump_216
  have B182 : ∀ (σ : sm_S) (x1 : Int32) (x3 : Int32) (x5 : Int32), mp_X12_jump_182 K σ x1 x3 x5 → sm_J p l e (headSpec wp_X12_jump { frames := 3, cells := 0, slots := 0, locals := 62 }).room s m ([.ref (α.1 1), .int p1, .int p2] : List Value).toArray below meth c (MQ below (va_Qv K (sm_B sm_wM D α) A) ([.ref (α.1 1), .int p1, .int p2] : List Value).toArray s 0 0 A) D A 6 (sm_wM σ α) 182 [(0, .ref (α.1 1)), (1, .int x1), (3, .int x3), (5, .int x5)] [] := by
    intro σ x1 x3 x5 hF H locs ls hP hS hl
    unfold mp_X12_jump_182 at hF
    refine lv_aload_n hx hb dX12_jump_182 rfl (lv_at hl 0 rfl) ?_
    refine lv_iload hx hb dX12_jump_183 (lv_at hl 3 rfl) ?_
    refine sm_vv (As := [.int x5]) (rest := []) hP hK hD hE hS hA ⟨hx, hb, hml, hown, hts⟩ hl.1 (c_X12_drop l D H.size t0 σ α x5 _ hF) (cwV 1 hts wg_X12_jump_X12_drop_359 rfl rfl rfl (by decide +kernel) ⟨Nat.le_of_ble_eq_true rfl, Nat.le_of_ble_eq_true rfl⟩) (va_recv hK hP (ci := 12) (q0 := 1) rfl (sm_gX12 σ α)) rfl rfl (Nat.le_of_ble_eq_true rfl) dX12_jump_185 ⟨Nat.zero_le _, Nat.zero_le _⟩ (fun σ1 H locs hF hP hS => ?_)
    refine lv_iload_n hx hb dX12_jump_188 rfl (lv_at hl 2 rfl) ?_
    refine lv_if_eq (tgt := 211) hx hb dX12_jump_189 (by decide) (fun h2 => ?_) (fun h2 => ?_)
    · replace hF := hF.1 h2
      refine lv_aload_n hx hb dX12_jump_211 rfl (lv_at hl 0 rfl) ?_
      refine lv_iload_n hx hb dX12_jump_212 rfl (lv_at hl 1 rfl) ?_
      refine sm_vv (As := [.int x1]) (rest := []) hP hK hD hE hS hA ⟨hx, hb, hml, hown, hts⟩ hl.1 (c_X12_onward l D H.size t0 σ1 α x1 _ hF) (cwV 1 hts wg_X12_jump_X12_onward_356 rfl rfl rfl (by decide +kernel) ⟨Nat.le_of_ble_eq_true rfl, Nat.le_of_ble_eq_true rfl⟩) (va_recv hK hP (ci := 12) (q0 := 1) rfl (sm_gX12 σ1 α)) rfl rfl (Nat.le_of_ble_eq_true rfl) dX12_jump_213 ⟨Nat.zero_le _, Nat.zero_le _⟩ (fun σ3 H locs hF hP hS => ?_)
      exact B216 σ3 hF H locs ls hP hS (lv_sub hl [] rfl)
    · replace hF := hF.2 h2
      refine lv_aload_n hx hb dX12_jump_192 rfl (lv_at hl 0 rfl) ?_
      refine va_get (D := D) (ci := 12) (v := .ref (α.1 34)) (C := RX12) (T := TX12) (N := 42) hx hb hts in_X12 hown hK hP 1 (sm_gX12 σ1 α) rfl 20 (by decide) k_0 (fun _ h9 => h9) rfl dX12_jump_193 ?_
      refine lv_aload_n hx hb dX12_jump_196 rfl (lv_at hl 0 rfl) ?_
      refine va_get (D := D) (ci := 12) (v := .int (σ1.1 14)) (C := RX12) (T := TX12) (N := 42) hx hb hts in_X12 hown hK hP 1 (sm_gX12 σ1 α) rfl 18 (by decide) k_1 (fun _ h9 => h9) rfl dX12_jump_197 ?_
      refine lv_iconst (v := 1) hx hb dX12_jump_200 (by decide) ?_
      refine lv_isub hx hb dX12_jump_201 ?_
      refine lv_aload_n hx hb dX12_jump_202 rfl (lv_at hl 0 rfl) ?_
      refine lv_iload_n hx hb dX12_jump_203 rfl (lv_at hl 1 rfl) ?_
      refine sm_vi (As := [.int x1]) (rest := [.int ((σ1.1 14) - 1), .ref (α.1 34)]) hP hK hD hE hS hA ⟨hx, hb, hml, hown, hts⟩ hl.1 (c_X12_jumpOf l D H.size t0 σ1 α x1 _ hF) (cwV 1 hts wg_X12_jump_X12_jumpOf_139 rfl rfl rfl (by decide +kernel) ⟨Nat.le_of_ble_eq_true rfl, Nat.le_of_ble_eq_true rfl⟩) (va_recv hK hP (ci := 12) (q0 := 1) rfl (sm_gX12 σ1 α)) rfl rfl (Nat.le_of_ble_eq_true rfl) dX12_jump_204 ⟨Nat.zero_le _, Nat.zero_le _⟩ (fun r5 σ4 H locs hF hP hS => ?_)
      obtain ⟨h6, hF⟩ := hF
      refine va_iast (n := (σ4.2.2.1 34)) (f := (σ4.2.2.2.1 34)) (x := r5) hx hb hK hP (hD.to (sm_wM_m _ _)) hS 34 32 (sm_aM34 σ4 α) (sm_yM34 α) h6 dX12_jump_207 (fun H locs hP _ hS => ?_)
      rw [sm_rM34] at hP
      obtain ⟨σ7, eσ7⟩ : ∃ x : sm_S, x = sm_r σ4 34 (upd (σ4.2.2.2.1 34) ((σ1.1 14) - 1).toNatClampNeg r5) := ⟨_, rfl⟩
      replace hF := hF σ7 eσ7
      rw [← eσ7] at hP
      refine lv_goto (tgt := 216) hx hb dX12_jump_208 (by decide) ?_
      exact B216 σ7 hF H locs ls hP hS (lv_sub hl [] rfl)
  have B172 : ∀ (σ : sm_S) (x1 : Int32) (y0 : Int32), mp_X12_jump_172 K σ x1 y0 → sm_J p l e (headSpec wp_X12_jump { frames := 3, cells := 0, slots := 0, locals := 62 }).room s m ([.ref (α.1 1), .int p1, .int p2] : List Value).toArray below meth c (MQ below (va_Qv K (sm_B sm_wM D α) A) ([.ref (α.1 1), .int p1, .int p2] : List Value).toArray s 0 0 A) D A 6 (sm_wM σ α) 172 [(0, .ref (α.1 1)), (1, .int x1)] [.int y0] := by
    intro σ x1 y0 hF H locs ls hP hS hl
    unfold mp_X12_jump_172 at hF
    refine lv_istore_n (lv' := [(3, .int y0), (0, .ref (α.1 1)), (1, .int x1)]) hx hb dX12_jump_172 rfl hl (by decide) rfl (fun ls hl => ?_)
    refine lv_iconst (v := 2) hx hb dX12_jump_173 (by decide) ?_
    refine lv_istore (lv' := [(5, .int 2), (3, .int y0), (0, .ref (α.1 1)), (1, .int x1)]) hx hb dX12_jump_174 hl (by decide) rfl (fun ls hl => ?_)
    refine lv_goto (tgt := 182) hx hb dX12_jump_176 (by decide) ?_
    exact B182 σ x1 y0 2 hF H locs ls hP hS (lv_sub hl [2, 3, 1, 0] rfl)
  have B147 : ∀ (σ : sm_S) (x1 : Int32) (y0 : Int32), mp_X12_jump_147 K σ x1 y0 → sm_J p l e (headSpec wp_X12_jump { frames := 3, cells := 0, slots := 0, locals := 62 }).room s m ([.ref (α.1 1), .int p1, .int p2] : List Value).toArray below meth c (MQ below (va_Qv K (sm_B sm_wM D α) A) ([.ref (α.1 1), .int p1, .int p2] : List Value).toArray s 0 0 A) D A 6 (sm_wM σ α) 147 [(0, .ref (α.1 1)), (1, .int x1)] [.int y0] := by
    intro σ x1 y0 hF H locs ls hP hS hl
    unfold mp_X12_jump_147 at hF
    refine lv_istore_n (lv' := [(3, .int y0), (0, .ref (α.1 1)), (1, .int x1)]) hx hb dX12_jump_147 rfl hl (by decide) rfl (fun ls hl => ?_)
    refine lv_iconst (v := 2) hx hb dX12_jump_148 (by decide) ?_
    refine lv_istore (lv' := [(5, .int 2), (3, .int y0), (0, .ref (α.1 1)), (1, .int x1)]) hx hb dX12_jump_149 hl (by decide) rfl (fun ls hl => ?_)
    refine lv_goto (tgt := 182) hx hb dX12_jump_151 (by decide) ?_
    exact B182 σ x1 y0 2 hF H locs ls hP hS (lv_sub hl [2, 3, 1, 0] rfl)
  have B125 : ∀ (σ : sm_S) (x1 : Int32) (x5 : Int32) (y0 : Int32), mp_X12_jump_125 K σ x1 x5 y0 → sm_J p l e (headSpec wp_X12_jump { frames := 3, cells := 0, slots := 0, locals := 62 }).room s m ([.ref (α.1 1), .int p1, .int p2] : List Value).toArray below meth c (MQ below (va_Qv K (sm_B sm_wM D α) A) ([.ref (α.1 1), .int p1, .int p2] : List Value).toArray s 0 0 A) D A 6 (sm_wM σ α) 125 [(0, .ref (α.1 1)), (1, .int x1), (5, .int x5)] [.int y0] := by
    intro σ x1 x5 y0 hF H locs ls hP hS hl
    unfold mp_X12_jump_125 at hF
    refine lv_istore_n (lv' := [(3, .int y0), (0, .ref (α.1 1)), (1, .int x1), (5, .int x5)]) hx hb dX12_jump_125 rfl hl (by decide) rfl (fun ls hl => ?_)
    refine lv_goto (tgt := 182) hx hb dX12_jump_126 (by decide) ?_
    exact B182 σ x1 y0 x5 hF H locs ls hP hS (lv_sub hl [1, 2, 0, 3] rfl)
  have B107 : ∀ (σ : sm_S) (x1 : Int32) (x5 : Int32) (y0 : Int32), mp_X12_jump_107 K σ x1 x5 y0 → sm_J p l e (headSpec wp_X12_jump { frames := 3, cells := 0, slots := 0, locals := 62 }).room s m ([.ref (α.1 1), .int p1, .int p2] : List Value).toArray below meth c (MQ below (va_Qv K (sm_B sm_wM D α) A) ([.ref (α.1 1), .int p1, .int p2] : List Value).toArray s 0 0 A) D A 6 (sm_wM σ α) 107 [(0, .ref (α.1 1)), (1, .int x1), (5, .int x5)] [.int y0] := by
    intro σ x1 x5 y0 hF H locs ls hP hS hl
    unfold mp_X12_jump_107 at hF
    refine lv_istore_n (lv' := [(3, .int y0), (0, .ref (α.1 1)), (1, .int x1), (5, .int x5)]) hx hb dX12_jump_107 rfl hl (by decide) rfl (fun ls hl => ?_)
    refine lv_goto (tgt := 182) hx hb dX12_jump_108 (by decide) ?_
    exact B182 σ x1 y0 x5 hF H locs ls hP hS (lv_sub hl [1, 2, 0, 3] rfl)
  unfold mp_X12_jump at hF
  revert hP hS
  generalize hLo : ([] : List Loc) = locs
  suffices h9 : ∀ (H : Heap) (locs : List Loc), va_P D vwCl (sm_wM σ α) H → va_S A s.heap H locs → W p l e (headSpec wp_X12_jump { frames := 3, cells := 0, slots := 0, locals := 62 }).room s m ([.ref (α.1 1), .int p1, .int p2] : List Value).toArray below meth c H locs 0 0 (MQ below (va_Qv K (sm_B sm_wM D α) A) ([.ref (α.1 1), .int p1, .int p2] : List Value).toArray s 0 0 A) (F0 m 0 ls []) from fun hP hS => h9 s.heap locs hP hS
  intro H locs hP hS
  refine lv_iconst (v := 1) hx hb dX12_jump_0 (by decide) ?_
  refine lv_istore_n (lv' := [(3, .int 1), (0, .ref (α.1 1)), (1, .int p1), (2, .int p2)]) hx hb dX12_jump_1 rfl hl (by decide) rfl (fun ls hl => ?_)
  refine lv_aload_n hx hb dX12_jump_2 rfl (lv_at hl 1 rfl) ?_
  refine va_get (D := D) (ci := 12) (v := .ref (α.1 0)) (C := RX12) (T := TX12) (N := 42) hx hb hts in_X12 hown hK hP 1 (sm_gX12 σ α) rfl 0 (by decide) k_2 (fun _ h9 => h9) rfl dX12_jump_3 ?_
  refine va_getN (D := D) (ci := 11) (v := .ref (α.1 3)) (C := RX11) (T := TX11) (N := 28) hx hb hts in_X11 hown hK hP 0 (sm_gX11 σ α) rfl 2 (by decide) (va_Nw.use rfl (hE.1 (.fieldLinkNest "SteadyMachineModel" 111 "SteadyMachineModel$Image" "image" "[I" "SteadyMachineModel") (by decide +kernel))) (fun _ h9 => h9) rfl dX12_jump_6 ?_
  refine lv_iload_n hx hb dX12_jump_9 rfl (lv_at hl 2 rfl) ?_
  refine lv_iconst (v := 1) hx hb dX12_jump_10 (by decide) ?_
  refine lv_iadd hx hb dX12_jump_11 ?_
  obtain ⟨h8, hF⟩ := hF
  refine va_iald (n := (σ.2.2.1 3)) (f := (σ.2.2.2.1 3)) hx hb hK hP 3 1 (sm_aM3 σ α) (sm_yM3 α) h8 dX12_jump_12 ?_
  refine lv_topi (fun v9 ev9 => ?_)
  replace hF := hF v9 ev9
  refine lv_istore (lv' := [(4, .int v9), (3, .int 1), (0, .ref (α.1 1)), (1, .int p1), (2, .int p2)]) hx hb dX12_jump_13 hl (by decide) rfl (fun ls hl => ?_)
  refine lv_iconst (v := 1) hx hb dX12_jump_15 (by decide) ?_
  refine lv_istore (lv' := [(5, .int 1), (4, .int v9), (3, .int 1), (0, .ref (α.1 1)), (1, .int p1), (2, .int p2)]) hx hb dX12_jump_16 hl (by decide) rfl (fun ls hl => ?_)
  refine lv_iload_n hx hb dX12_jump_18 rfl (lv_at hl 5 rfl) ?_
  obtain ⟨gh10, hF⟩ := hF
  by_cases h10 : p2 = 19
  · refine lv_tableIn (tgt := 56) hx hb dX12_jump_19 (by rw [h10]; decide) (by rw [h10]; decide) (by rw [h10]; rfl) (by decide) ?_
    clear hF
    have hF := gh10 h10
    clear gh10
    refine lv_iload hx hb dX12_jump_56 (lv_at hl 1 rfl) ?_
    refine lv_aload_n hx hb dX12_jump_58 rfl (lv_at hl 3 rfl) ?_
    refine lv_iconst (v := 0) hx hb dX12_jump_59 (by decide) ?_
    refine sm_vi (As := [.int 0]) (rest := [.int v9]) hP hK hD hE hS hA ⟨hx, hb, hml, hown, hts⟩ hl.1 (c_X12_value l D H.size t0 σ α 0 _ hF) (cwV 1 hts wg_X12_jump_X12_value_347 rfl rfl rfl (by decide +kernel) ⟨Nat.le_of_ble_eq_true rfl, Nat.le_of_ble_eq_true rfl⟩) (va_recv hK hP (ci := 12) (q0 := 1) rfl (sm_gX12 σ α)) rfl rfl (Nat.le_of_ble_eq_true rfl) dX12_jump_60 ⟨Nat.zero_le _, Nat.zero_le _⟩ (fun r12 σ11 H locs hF hP hS => ?_)
    refine lv_iconst (v := 0) hx hb dX12_jump_63 (by decide) ?_
    refine sm_si (As := [.int v9, .int r12, .int 0]) (rest := []) hP hK hD hE hS hA ⟨hx, hb, hml, hown, hts⟩ hl.1 (c_X12_compares l D H.size t0 σ11 α v9 r12 0 _ hF) (va_cwS 3 hts wg_X12_jump_X12_compares_372 rfl rfl rfl (by decide +kernel) ⟨Nat.le_of_ble_eq_true rfl, Nat.le_of_ble_eq_true rfl⟩) rfl rfl (Nat.le_of_ble_eq_true rfl) dX12_jump_64 ⟨Nat.zero_le _, Nat.zero_le _⟩ (fun r14 σ13 H locs hF hP hS => ?_)
    refine lv_istore_n (lv' := [(3, .int r14), (5, .int 1), (4, .int v9), (0, .ref (α.1 1)), (1, .int p1), (2, .int p2)]) hx hb dX12_jump_67 rfl hl (by decide) rfl (fun ls hl => ?_)
    refine lv_goto (tgt := 182) hx hb dX12_jump_68 (by decide) ?_
    exact B182 σ13 p1 r14 1 hF H locs ls hP hS (lv_sub hl [3, 4, 0, 1] rfl)
  clear gh10
  obtain ⟨gh15, hF⟩ := hF
  by_cases h15 : p2 = 20
  · refine lv_tableIn (tgt := 71) hx hb dX12_jump_19 (by rw [h15]; decide) (by rw [h15]; decide) (by rw [h15]; rfl) (by decide) ?_
    clear hF
    have hF := gh15 h15
    clear gh15
    refine lv_iload hx hb dX12_jump_71 (lv_at hl 1 rfl) ?_
    refine lv_aload_n hx hb dX12_jump_73 rfl (lv_at hl 3 rfl) ?_
    refine lv_iconst (v := 1) hx hb dX12_jump_74 (by decide) ?_
    refine sm_vi (As := [.int 1]) (rest := [.int v9]) hP hK hD hE hS hA ⟨hx, hb, hml, hown, hts⟩ hl.1 (c_X12_value l D H.size t0 σ α 1 _ hF) (cwV 1 hts wg_X12_jump_X12_value_347 rfl rfl rfl (by decide +kernel) ⟨Nat.le_of_ble_eq_true rfl, Nat.le_of_ble_eq_true rfl⟩) (va_recv hK hP (ci := 12) (q0 := 1) rfl (sm_gX12 σ α)) rfl rfl (Nat.le_of_ble_eq_true rfl) dX12_jump_75 ⟨Nat.zero_le _, Nat.zero_le _⟩ (fun r17 σ16 H locs hF hP hS => ?_)
    refine lv_aload_n hx hb dX12_jump_78 rfl (lv_at hl 3 rfl) ?_
    refine lv_iconst (v := 0) hx hb dX12_jump_79 (by decide) ?_
    refine sm_vi (As := [.int 0]) (rest := [.int r17, .int v9]) hP hK hD hE hS hA ⟨hx, hb, hml, hown, hts⟩ hl.1 (c_X12_value l D H.size t0 σ16 α 0 _ hF) (cwV 1 hts wg_X12_jump_X12_value_347 rfl rfl rfl (by decide +kernel) ⟨Nat.le_of_ble_eq_true rfl, Nat.le_of_ble_eq_true rfl⟩) (va_recv hK hP (ci := 12) (q0 := 1) rfl (sm_gX12 σ16 α)) rfl rfl (Nat.le_of_ble_eq_true rfl) dX12_jump_80 ⟨Nat.zero_le _, Nat.zero_le _⟩ (fun r19 σ18 H locs hF hP hS => ?_)
    refine sm_si (As := [.int v9, .int r17, .int r19]) (rest := []) hP hK hD hE hS hA ⟨hx, hb, hml, hown, hts⟩ hl.1 (c_X12_compares l D H.size t0 σ18 α v9 r17 r19 _ hF) (va_cwS 3 hts wg_X12_jump_X12_compares_372 rfl rfl rfl (by decide +kernel) ⟨Nat.le_of_ble_eq_true rfl, Nat.le_of_ble_eq_true rfl⟩) rfl rfl (Nat.le_of_ble_eq_true rfl) dX12_jump_83 ⟨Nat.zero_le _, Nat.zero_le _⟩ (fun r21 σ20 H locs hF hP hS => ?_)
    refine lv_istore_n (lv' := [(3, .int r21), (5, .int 1), (4, .int v9), (0, .ref (α.1 1)), (1, .int p1), (2, .int p2)]) hx hb dX12_jump_86 rfl hl (by decide) rfl (fun ls hl => ?_)
    refine lv_iconst (v := 2) hx hb dX12_jump_87 (by decide) ?_
    refine lv_istore (lv' := [(5, .int 2), (3, .int r21), (4, .int v9), (0, .ref (α.1 1)), (1, .int p1), (2, .int p2)]) hx hb dX12_jump_88 hl (by decide) rfl (fun ls hl => ?_)
    refine lv_goto (tgt := 182) hx hb dX12_jump_90 (by decide) ?_
    exact B182 σ20 p1 r21 2 hF H locs ls hP hS (lv_sub hl [3, 4, 1, 0] rfl)
  clear gh15
  obtain ⟨gh22, hF⟩ := hF
  by_cases h22 : p2 = 21
  · refine lv_tableIn (tgt := 93) hx hb dX12_jump_19 (by rw [h22]; decide) (by rw [h22]; decide) (by rw [h22]; rfl) (by decide) ?_
    clear hF
    have hF := gh22 h22
    clear gh22
    refine lv_aload_n hx hb dX12_jump_93 rfl (lv_at hl 3 rfl) ?_
    refine lv_iconst (v := 0) hx hb dX12_jump_94 (by decide) ?_
    refine sm_vi (As := [.int 0]) (rest := []) hP hK hD hE hS hA ⟨hx, hb, hml, hown, hts⟩ hl.1 (c_X12_value l D H.size t0 σ α 0 _ hF) (cwV 1 hts wg_X12_jump_X12_value_347 rfl rfl rfl (by decide +kernel) ⟨Nat.le_of_ble_eq_true rfl, Nat.le_of_ble_eq_true rfl⟩) (va_recv hK hP (ci := 12) (q0 := 1) rfl (sm_gX12 σ α)) rfl rfl (Nat.le_of_ble_eq_true rfl) dX12_jump_95 ⟨Nat.zero_le _, Nat.zero_le _⟩ (fun r24 σ23 H locs hF hP hS => ?_)
    refine lv_iconst (v := -1) hx hb dX12_jump_98 (by decide) ?_
    refine lv_icmp_ne (tgt := 106) hx hb dX12_jump_99 (by decide) (fun h25 => ?_) (fun h25 => ?_)
    · replace hF := hF.1 h25
      refine lv_iconst (v := 0) hx hb dX12_jump_106 (by decide) ?_
      exact B107 σ23 p1 1 0 hF H locs ls hP hS (lv_sub hl [3, 4, 0] rfl)
    · replace hF := hF.2 h25
      refine lv_iconst (v := 1) hx hb dX12_jump_102 (by decide) ?_
      refine lv_goto (tgt := 107) hx hb dX12_jump_103 (by decide) ?_
      exact B107 σ23 p1 1 1 hF H locs ls hP hS (lv_sub hl [3, 4, 0] rfl)
  clear gh22
  obtain ⟨gh26, hF⟩ := hF
  by_cases h26 : p2 = 22
  · refine lv_tableIn (tgt := 111) hx hb dX12_jump_19 (by rw [h26]; decide) (by rw [h26]; decide) (by rw [h26]; rfl) (by decide) ?_
    clear hF
    have hF := gh26 h26
    clear gh26
    refine lv_aload_n hx hb dX12_jump_111 rfl (lv_at hl 3 rfl) ?_
    refine lv_iconst (v := 0) hx hb dX12_jump_112 (by decide) ?_
    refine sm_vi (As := [.int 0]) (rest := []) hP hK hD hE hS hA ⟨hx, hb, hml, hown, hts⟩ hl.1 (c_X12_value l D H.size t0 σ α 0 _ hF) (cwV 1 hts wg_X12_jump_X12_value_347 rfl rfl rfl (by decide +kernel) ⟨Nat.le_of_ble_eq_true rfl, Nat.le_of_ble_eq_true rfl⟩) (va_recv hK hP (ci := 12) (q0 := 1) rfl (sm_gX12 σ α)) rfl rfl (Nat.le_of_ble_eq_true rfl) dX12_jump_113 ⟨Nat.zero_le _, Nat.zero_le _⟩ (fun r28 σ27 H locs hF hP hS => ?_)
    refine lv_iconst (v := -1) hx hb dX12_jump_116 (by decide) ?_
    refine lv_icmp_eq (tgt := 124) hx hb dX12_jump_117 (by decide) (fun h29 => ?_) (fun h29 => ?_)
    · replace hF := hF.1 h29
      refine lv_iconst (v := 0) hx hb dX12_jump_124 (by decide) ?_
      exact B125 σ27 p1 1 0 hF H locs ls hP hS (lv_sub hl [3, 4, 0] rfl)
    · replace hF := hF.2 h29
      refine lv_iconst (v := 1) hx hb dX12_jump_120 (by decide) ?_
      refine lv_goto (tgt := 125) hx hb dX12_jump_121 (by decide) ?_
      exact B125 σ27 p1 1 1 hF H locs ls hP hS (lv_sub hl [3, 4, 0] rfl)
  clear gh26
  obtain ⟨gh30, hF⟩ := hF
  by_cases h30 : p2 = 23
  · refine lv_tableIn (tgt := 129) hx hb dX12_jump_19 (by rw [h30]; decide) (by rw [h30]; decide) (by rw [h30]; rfl) (by decide) ?_
    clear hF
    have hF := gh30 h30
    clear gh30
    refine lv_aload_n hx hb dX12_jump_129 rfl (lv_at hl 3 rfl) ?_
    refine lv_iconst (v := 0) hx hb dX12_jump_130 (by decide) ?_
    refine sm_vi (As := [.int 0]) (rest := []) hP hK hD hE hS hA ⟨hx, hb, hml, hown, hts⟩ hl.1 (c_X12_value l D H.size t0 σ α 0 _ hF) (cwV 1 hts wg_X12_jump_X12_value_347 rfl rfl rfl (by decide +kernel) ⟨Nat.le_of_ble_eq_true rfl, Nat.le_of_ble_eq_true rfl⟩) (va_recv hK hP (ci := 12) (q0 := 1) rfl (sm_gX12 σ α)) rfl rfl (Nat.le_of_ble_eq_true rfl) dX12_jump_131 ⟨Nat.zero_le _, Nat.zero_le _⟩ (fun r32 σ31 H locs hF hP hS => ?_)
    refine lv_aload_n hx hb dX12_jump_134 rfl (lv_at hl 3 rfl) ?_
    refine lv_iconst (v := 1) hx hb dX12_jump_135 (by decide) ?_
    refine sm_vi (As := [.int 1]) (rest := [.int r32]) hP hK hD hE hS hA ⟨hx, hb, hml, hown, hts⟩ hl.1 (c_X12_value l D H.size t0 σ31 α 1 _ hF) (cwV 1 hts wg_X12_jump_X12_value_347 rfl rfl rfl (by decide +kernel) ⟨Nat.le_of_ble_eq_true rfl, Nat.le_of_ble_eq_true rfl⟩) (va_recv hK hP (ci := 12) (q0 := 1) rfl (sm_gX12 σ31 α)) rfl rfl (Nat.le_of_ble_eq_true rfl) dX12_jump_136 ⟨Nat.zero_le _, Nat.zero_le _⟩ (fun r34 σ33 H locs hF hP hS => ?_)
    refine lv_icmp_ne (tgt := 146) hx hb dX12_jump_139 (by decide) (fun h35 => ?_) (fun h35 => ?_)
    · replace hF := hF.1 h35
      refine lv_iconst (v := 0) hx hb dX12_jump_146 (by decide) ?_
      exact B147 σ33 p1 0 hF H locs ls hP hS (lv_sub hl [3, 4] rfl)
    · replace hF := hF.2 h35
      refine lv_iconst (v := 1) hx hb dX12_jump_142 (by decide) ?_
      refine lv_goto (tgt := 147) hx hb dX12_jump_143 (by decide) ?_
      exact B147 σ33 p1 1 hF H locs ls hP hS (lv_sub hl [3, 4] rfl)
  clear gh30
  obtain ⟨gh36, hF⟩ := hF
  by_cases h36 : p2 = 24
  · refine lv_tableIn (tgt := 154) hx hb dX12_jump_19 (by rw [h36]; decide) (by rw [h36]; decide) (by rw [h36]; rfl) (by decide) ?_
    clear hF
    have hF := gh36 h36
    clear gh36
    refine lv_aload_n hx hb dX12_jump_154 rfl (lv_at hl 3 rfl) ?_
    refine lv_iconst (v := 0) hx hb dX12_jump_155 (by decide) ?_
    refine sm_vi (As := [.int 0]) (rest := []) hP hK hD hE hS hA ⟨hx, hb, hml, hown, hts⟩ hl.1 (c_X12_value l D H.size t0 σ α 0 _ hF) (cwV 1 hts wg_X12_jump_X12_value_347 rfl rfl rfl (by decide +kernel) ⟨Nat.le_of_ble_eq_true rfl, Nat.le_of_ble_eq_true rfl⟩) (va_recv hK hP (ci := 12) (q0 := 1) rfl (sm_gX12 σ α)) rfl rfl (Nat.le_of_ble_eq_true rfl) dX12_jump_156 ⟨Nat.zero_le _, Nat.zero_le _⟩ (fun r38 σ37 H locs hF hP hS => ?_)
    refine lv_aload_n hx hb dX12_jump_159 rfl (lv_at hl 3 rfl) ?_
    refine lv_iconst (v := 1) hx hb dX12_jump_160 (by decide) ?_
    refine sm_vi (As := [.int 1]) (rest := [.int r38]) hP hK hD hE hS hA ⟨hx, hb, hml, hown, hts⟩ hl.1 (c_X12_value l D H.size t0 σ37 α 1 _ hF) (cwV 1 hts wg_X12_jump_X12_value_347 rfl rfl rfl (by decide +kernel) ⟨Nat.le_of_ble_eq_true rfl, Nat.le_of_ble_eq_true rfl⟩) (va_recv hK hP (ci := 12) (q0 := 1) rfl (sm_gX12 σ37 α)) rfl rfl (Nat.le_of_ble_eq_true rfl) dX12_jump_161 ⟨Nat.zero_le _, Nat.zero_le _⟩ (fun r40 σ39 H locs hF hP hS => ?_)
    refine lv_icmp_eq (tgt := 171) hx hb dX12_jump_164 (by decide) (fun h41 => ?_) (fun h41 => ?_)
    · replace hF := hF.1 h41
      refine lv_iconst (v := 0) hx hb dX12_jump_171 (by decide) ?_
      exact B172 σ39 p1 0 hF H locs ls hP hS (lv_sub hl [3, 4] rfl)
    · replace hF := hF.2 h41
      refine lv_iconst (v := 1) hx hb dX12_jump_167 (by decide) ?_
      refine lv_goto (tgt := 172) hx hb dX12_jump_168 (by decide) ?_
      exact B172 σ39 p1 1 hF H locs ls hP hS (lv_sub hl [3, 4] rfl)
  clear gh36
  refine lv_tableOut (tgt := 179) hx hb dX12_jump_19 (by have q0 := lv_neT h10 (show Int32.toInt 19 = 19 by decide); have q1 := lv_neT h15 (show Int32.toInt 20 = 20 by decide); have q2 := lv_neT h22 (show Int32.toInt 21 = 21 by decide); have q3 := lv_neT h26 (show Int32.toInt 22 = 22 by decide); have q4 := lv_neT h30 (show Int32.toInt 23 = 23 by decide); have q5 := lv_neT h36 (show Int32.toInt 24 = 24 by decide); omega) (by decide) ?_
  replace hF := hF h10 h15 h22 h26 h30 h36
  refine lv_iconst (v := 0) hx hb dX12_jump_179 (by decide) ?_
  refine lv_istore (lv' := [(5, .int 0), (4, .int v9), (3, .int 1), (0, .ref (α.1 1)), (1, .int p1), (2, .int p2)]) hx hb dX12_jump_180 hl (by decide) rfl (fun ls hl => ?_)
  exact B182 σ p1 1 0 hF H locs ls hP hS (lv_sub hl [3, 4, 2, 0] rfl)
theorem dX12_step_0 : decode cX12_step 0 = .ok (.aload_n 0, 1) := by decide +kernel
theorem dX12_step_1 : decode cX12_step 1 = .ok (.getfield 259, 3) := by decide +kernel
theorem dX12_step_4 : decode cX12_step 4 = .ok (.ifCond .eq 9, 3) := by decide +kernel
theorem dX12_step_7 : decode cX12_step 7 = .ok (.aload_n 0, 1) := by decide +kernel
theorem dX12_step_8 : decode cX12_step 8 = .ok (.invokevirtual 338, 3) := by decide +kernel
theorem dX12_step_11 : decode cX12_step 11 = .ok (.iconst 1, 1) := by decide +kernel
theorem dX12_step_12 : decode cX12_step 12 = .ok (.ireturn, 1) := by decide +kernel
theorem dX12_step_13 : decode cX12_step 13 = .ok (.aload_n 0, 1) := by decide +kernel
theorem dX12_step_14 : decode cX12_step 14 = .ok (.getfield 10, 3) := by decide +kernel
theorem dX12_step_17 : decode cX12_step 17 = .ok (.getfield 30, 3) := by decide +kernel
theorem dX12_step_20 : decode cX12_step 20 = .ok (.aload_n 0, 1) := by decide +kernel
theorem dX12_step_21 : decode cX12_step 21 = .ok (.invokevirtual 317, 3) := by decide +kernel
theorem dX12_step_24 : decode cX12_step 24 = .ok (.iaload, 1) := by decide +kernel
theorem dX12_step_25 : decode cX12_step 25 = .ok (.aload_n 0, 1) := by decide +kernel
theorem dX12_step_26 : decode cX12_step 26 = .ok (.getfield 208, 3) := by decide +kernel
theorem dX12_step_29 : decode cX12_step 29 = .ok (.aload_n 0, 1) := by decide +kernel
theorem dX12_step_30 : decode cX12_step 30 = .ok (.getfield 256, 3) := by decide +kernel
theorem dX12_step_33 : decode cX12_step 33 = .ok (.iconst 1, 1) := by decide +kernel
theorem dX12_step_34 : decode cX12_step 34 = .ok (.isub, 1) := by decide +kernel
theorem dX12_step_35 : decode cX12_step 35 = .ok (.iaload, 1) := by decide +kernel
theorem dX12_step_36 : decode cX12_step 36 = .ok (.iadd, 1) := by decide +kernel
theorem dX12_step_37 : decode cX12_step 37 = .ok (.istore_n 1, 1) := by decide +kernel
theorem dX12_step_38 : decode cX12_step 38 = .ok (.aload_n 0, 1) := by decide +kernel
theorem dX12_step_39 : decode cX12_step 39 = .ok (.getfield 10, 3) := by decide +kernel
theorem dX12_step_42 : decode cX12_step 42 = .ok (.getfield 111, 3) := by decide +kernel
theorem dX12_step_45 : decode cX12_step 45 = .ok (.iload_n 1, 1) := by decide +kernel
theorem dX12_step_46 : decode cX12_step 46 = .ok (.iaload, 1) := by decide +kernel
theorem dX12_step_47 : decode cX12_step 47 = .ok (.istore_n 2, 1) := by decide +kernel
theorem dX12_step_48 : decode cX12_step 48 = .ok (.iload_n 2, 1) := by decide +kernel
theorem dX12_step_49 : decode cX12_step 49 = .ok (.invokestatic 136, 3) := by decide +kernel
theorem dX12_step_52 : decode cX12_step 52 = .ok (.ifCond .eq 11, 3) := by decide +kernel
theorem dX12_step_55 : decode cX12_step 55 = .ok (.aload_n 0, 1) := by decide +kernel
theorem dX12_step_56 : decode cX12_step 56 = .ok (.iload_n 1, 1) := by decide +kernel
theorem dX12_step_57 : decode cX12_step 57 = .ok (.iload_n 2, 1) := by decide +kernel
theorem dX12_step_58 : decode cX12_step 58 = .ok (.invokevirtual 341, 3) := by decide +kernel
theorem dX12_step_61 : decode cX12_step 61 = .ok (.iconst 1, 1) := by decide +kernel
theorem dX12_step_62 : decode cX12_step 62 = .ok (.ireturn, 1) := by decide +kernel
theorem dX12_step_63 : decode cX12_step 63 = .ok (.iload_n 2, 1) := by decide +kernel
theorem dX12_step_64 : decode cX12_step 64 = .ok (.bipush 26, 2) := by decide +kernel
theorem dX12_step_66 : decode cX12_step 66 = .ok (.if_icmp .lt 9, 3) := by decide +kernel
theorem dX12_step_69 : decode cX12_step 69 = .ok (.iload_n 2, 1) := by decide +kernel
theorem dX12_step_70 : decode cX12_step 70 = .ok (.bipush 36, 2) := by decide +kernel
theorem dX12_step_72 : decode cX12_step 72 = .ok (.if_icmp .le 15, 3) := by decide +kernel
theorem dX12_step_75 : decode cX12_step 75 = .ok (.iload_n 2, 1) := by decide +kernel
theorem dX12_step_76 : decode cX12_step 76 = .ok (.bipush 37, 2) := by decide +kernel
theorem dX12_step_78 : decode cX12_step 78 = .ok (.if_icmp .lt 16, 3) := by decide +kernel
theorem dX12_step_81 : decode cX12_step 81 = .ok (.iload_n 2, 1) := by decide +kernel
theorem dX12_step_82 : decode cX12_step 82 = .ok (.bipush 39, 2) := by decide +kernel
theorem dX12_step_84 : decode cX12_step 84 = .ok (.if_icmp .gt 10, 3) := by decide +kernel
theorem dX12_step_87 : decode cX12_step 87 = .ok (.aload_n 0, 1) := by decide +kernel
theorem dX12_step_88 : decode cX12_step 88 = .ok (.iload_n 1, 1) := by decide +kernel
theorem dX12_step_89 : decode cX12_step 89 = .ok (.iload_n 2, 1) := by decide +kernel
theorem dX12_step_90 : decode cX12_step 90 = .ok (.invokevirtual 344, 3) := by decide +kernel
theorem dX12_step_93 : decode cX12_step 93 = .ok (.ireturn, 1) := by decide +kernel
theorem dX12_step_94 : decode cX12_step 94 = .ok (.iload_n 2, 1) := by decide +kernel
theorem dX12_step_95 : decode cX12_step 95 = .ok (.bipush 10, 2) := by decide +kernel
theorem dX12_step_97 : decode cX12_step 97 = .ok (.if_icmp .eq 9, 3) := by decide +kernel
theorem dX12_step_100 : decode cX12_step 100 = .ok (.iload_n 2, 1) := by decide +kernel
theorem dX12_step_101 : decode cX12_step 101 = .ok (.bipush 11, 2) := by decide +kernel
theorem dX12_step_103 : decode cX12_step 103 = .ok (.if_icmp .ne 17, 3) := by decide +kernel
theorem dX12_step_106 : decode cX12_step 106 = .ok (.aload_n 0, 1) := by decide +kernel
theorem dX12_step_107 : decode cX12_step 107 = .ok (.iconst 0, 1) := by decide +kernel
theorem dX12_step_108 : decode cX12_step 108 = .ok (.invokevirtual 347, 3) := by decide +kernel
theorem dX12_step_111 : decode cX12_step 111 = .ok (.ifCond .ne 9, 3) := by decide +kernel
theorem dX12_step_114 : decode cX12_step 114 = .ok (.aload_n 0, 1) := by decide +kernel
theorem dX12_step_115 : decode cX12_step 115 = .ok (.iconst 2, 1) := by decide +kernel
theorem dX12_step_116 : decode cX12_step 116 = .ok (.invokevirtual 350, 3) := by decide +kernel
theorem dX12_step_119 : decode cX12_step 119 = .ok (.ireturn, 1) := by decide +kernel
theorem dX12_step_120 : decode cX12_step 120 = .ok (.aload_n 0, 1) := by decide +kernel
theorem dX12_step_121 : decode cX12_step 121 = .ok (.iload_n 1, 1) := by decide +kernel
theorem dX12_step_122 : decode cX12_step 122 = .ok (.iload_n 2, 1) := by decide +kernel
theorem dX12_step_123 : decode cX12_step 123 = .ok (.invokevirtual 353, 3) := by decide +kernel
theorem dX12_step_126 : decode cX12_step 126 = .ok (.aload_n 0, 1) := by decide +kernel
theorem dX12_step_127 : decode cX12_step 127 = .ok (.iload_n 1, 1) := by decide +kernel
theorem dX12_step_128 : decode cX12_step 128 = .ok (.invokevirtual 356, 3) := by decide +kernel
theorem dX12_step_131 : decode cX12_step 131 = .ok (.iconst 1, 1) := by decide +kernel
theorem dX12_step_132 : decode cX12_step 132 = .ok (.ireturn, 1) := by decide +kernel
def wp_X12_step : List Cond := .code yX12_step cX12_step 3 (some .boolean) :: ((((((((((([.fieldLink RX12 259 "SteadyMachineModel" "flies" "Z", .fieldLink RX12 10 "SteadyMachineModel" "image" "LSteadyMachineModel$Image;", .fieldLink RX12 208 "SteadyMachineModel" "placeOf" "[I", .fieldLink RX12 256 "SteadyMachineModel" "frames" "I"] ++ (wsV RX12 353 RX12 yX12_doValues wp_X12_doValues)) ++ (wsV RX12 356 RX12 yX12_onward wp_X12_onward)) ++ (wsV RX12 347 RX12 yX12_value wp_X12_value)) ++ (wsV RX12 350 RX12 yX12_fault wp_X12_fault)) ++ (wsV RX12 344 RX12 yX12_doThings wp_X12_doThings)) ++ (wsV RX12 317 RX12 yX12_method wp_X12_method)) ++ (va_wsS RX12 136 yX12_isJump wp_X12_isJump)) ++ (wsV RX12 341 RX12 yX12_jump wp_X12_jump)) ++ (wsV RX12 338 RX12 yX12_fly wp_X12_fly)) ++ wsX110) ++ wsX120)
theorem wq_X12_step : wp_X12_step.all goodWord = true := wa_c rfl (wa_a (wa_a (wa_a (wa_a (wa_a (wa_a (wa_a (wa_a (wa_a (wa_a (wa_a (by decide +kernel) (wa_V wq_X12_doValues)) (wa_V wq_X12_onward)) (wa_V wq_X12_value)) (wa_V wq_X12_fault)) (wa_V wq_X12_doThings)) (wa_V wq_X12_method)) (wa_S wq_X12_isJump)) (wa_V wq_X12_jump)) (wa_V wq_X12_fly)) uq_X11) uq_X12)
theorem wt_X12_step : GoodIn lw_tbl wp_X12_step := wm_c (List.mem_of_getElem? (i := 1665) (by decide +kernel)) rfl (wm_a (wm_a (wm_a (wm_a (wm_a (wm_a (wm_a (wm_a (wm_a (wm_a (wm_a (goodIn_r _ [1514, 1490, 1510, 1508] (by decide +kernel) (by decide +kernel)) (wm_a (goodIn_r _ [1767, 1769, 133, 147] (by decide +kernel) (by decide +kernel)) wt_X12_doValues)) (wm_a (goodIn_r _ [1701, 1703, 118, 147] (by decide +kernel) (by decide +kernel)) wt_X12_onward)) (wm_a (goodIn_r _ [1690, 1692, 116, 147] (by decide +kernel) (by decide +kernel)) wt_X12_value)) (wm_a (goodIn_r _ [1725, 1727, 124, 147] (by decide +kernel) (by decide +kernel)) wt_X12_fault)) (wm_a (goodIn_r _ [1705, 1707, 119, 147] (by decide +kernel) (by decide +kernel)) wt_X12_doThings)) (wm_a (goodIn_r _ [1670, 1672, 111, 147] (by decide +kernel) (by decide +kernel)) wt_X12_method)) (wm_a (goodIn_r _ [1359, 1360, 147] (by decide +kernel) (by decide +kernel)) wt_X12_isJump)) (wm_a (goodIn_r _ [1686, 1688, 115, 147] (by decide +kernel) (by decide +kernel)) wt_X12_jump)) (wm_a (goodIn_r _ [1666, 1668, 110, 147] (by decide +kernel) (by decide +kernel)) wt_X12_fly)) ut_X11) ut_X12)
theorem wg_X12_step_X12_doValues_353 : GoodIn wp_X12_step (wsV RX12 353 RX12 yX12_doValues wp_X12_doValues) := goodIn_sub (fun w h => List.mem_cons_of_mem _ (List.mem_append_left _ (List.mem_append_left _ (List.mem_append_left _ (List.mem_append_left _ (List.mem_append_left _ (List.mem_append_left _ (List.mem_append_left _ (List.mem_append_left _ (List.mem_append_left _ (List.mem_append_left _ (List.mem_append_right _ h)))))))))))) (wa_V wq_X12_doValues)
theorem wg_X12_step_X12_onward_356 : GoodIn wp_X12_step (wsV RX12 356 RX12 yX12_onward wp_X12_onward) := goodIn_sub (fun w h => List.mem_cons_of_mem _ (List.mem_append_left _ (List.mem_append_left _ (List.mem_append_left _ (List.mem_append_left _ (List.mem_append_left _ (List.mem_append_left _ (List.mem_append_left _ (List.mem_append_left _ (List.mem_append_left _ (List.mem_append_right _ h))))))))))) (wa_V wq_X12_onward)
theorem wg_X12_step_X12_value_347 : GoodIn wp_X12_step (wsV RX12 347 RX12 yX12_value wp_X12_value) := goodIn_sub (fun w h => List.mem_cons_of_mem _ (List.mem_append_left _ (List.mem_append_left _ (List.mem_append_left _ (List.mem_append_left _ (List.mem_append_left _ (List.mem_append_left _ (List.mem_append_left _ (List.mem_append_left _ (List.mem_append_right _ h)))))))))) (wa_V wq_X12_value)
theorem wg_X12_step_X12_fault_350 : GoodIn wp_X12_step (wsV RX12 350 RX12 yX12_fault wp_X12_fault) := goodIn_sub (fun w h => List.mem_cons_of_mem _ (List.mem_append_left _ (List.mem_append_left _ (List.mem_append_left _ (List.mem_append_left _ (List.mem_append_left _ (List.mem_append_left _ (List.mem_append_left _ (List.mem_append_right _ h))))))))) (wa_V wq_X12_fault)
theorem wg_X12_step_X12_doThings_344 : GoodIn wp_X12_step (wsV RX12 344 RX12 yX12_doThings wp_X12_doThings) := goodIn_sub (fun w h => List.mem_cons_of_mem _ (List.mem_append_left _ (List.mem_append_left _ (List.mem_append_left _ (List.mem_append_left _ (List.mem_append_left _ (List.mem_append_left _ (List.mem_append_right _ h)))))))) (wa_V wq_X12_doThings)
theorem wg_X12_step_X12_method_317 : GoodIn wp_X12_step (wsV RX12 317 RX12 yX12_method wp_X12_method) := goodIn_sub (fun w h => List.mem_cons_of_mem _ (List.mem_append_left _ (List.mem_append_left _ (List.mem_append_left _ (List.mem_append_left _ (List.mem_append_left _ (List.mem_append_right _ h))))))) (wa_V wq_X12_method)
theorem wg_X12_step_X12_isJump_136 : GoodIn wp_X12_step (va_wsS RX12 136 yX12_isJump wp_X12_isJump) := goodIn_sub (fun w h => List.mem_cons_of_mem _ (List.mem_append_left _ (List.mem_append_left _ (List.mem_append_left _ (List.mem_append_left _ (List.mem_append_right _ h)))))) (wa_S wq_X12_isJump)
theorem wg_X12_step_X12_jump_341 : GoodIn wp_X12_step (wsV RX12 341 RX12 yX12_jump wp_X12_jump) := goodIn_sub (fun w h => List.mem_cons_of_mem _ (List.mem_append_left _ (List.mem_append_left _ (List.mem_append_left _ (List.mem_append_right _ h))))) (wa_V wq_X12_jump)
theorem wg_X12_step_X12_fly_338 : GoodIn wp_X12_step (wsV RX12 338 RX12 yX12_fly wp_X12_fly) := goodIn_sub (fun w h => List.mem_cons_of_mem _ (List.mem_append_left _ (List.mem_append_left _ (List.mem_append_right _ h)))) (wa_V wq_X12_fly)
theorem wi_X12_step_X11 : ∀ w ∈ wsX110, w ∈ wp_X12_step := fun w h => List.mem_cons_of_mem _ (List.mem_append_left _ (List.mem_append_right _ h))
theorem wi_X12_step_X12 : ∀ w ∈ wsX120, w ∈ wp_X12_step := fun w h => List.mem_cons_of_mem _ (List.mem_append_right _ h)
set_option maxHeartbeats 4000000 in
set_option maxRecDepth 100000 in
theorem c_X12_step (l : Launch) (D : va_G) (sz t0 : Nat) (σ : sm_S) (α : sm_A) (K : Int32 → sm_S → Prop) (hF : mp_X12_step σ K) : Met l yX12_step wp_X12_step { frames := 8, cells := 0, slots := 0, locals := 201 } (sm_P sm_wM sm_tM 40 D sz t0 σ α [.ref (α.1 1)]) (va_Qi K (sm_B sm_wM D α) (sm_a α 40 sz)) 0 0 (sm_a α 40 sz) := by
  refine Met.ofW (cc := cX12_step) (maxL := 3) (ret := (some .boolean)) (by decide) rfl ?_
  intro p e s m args below meth c s₁ B hml hv
  obtain ⟨rfl, hsz, hP, hK, hD0, hE⟩ := hv
  have hx := B.exec
  have hb := B.bytes
  have hr := B.returns
  have hts := atoms_spec (ws := wp_X12_step) B.pre
  have hown : s.vm.findClass RX12 = some m.cls := findClass_of_methodNamed B.named
  have hlocks := B.notSynchronized
  subst hsz
  have hD : sm_D (sm_a α 40 s.heap.size) α 40 := hD0.own
  have hA : ∀ q : Nat, s.heap.size ≤ q → sm_a α 40 s.heap.size q := fun q h => Or.inr h
  generalize hAe : sm_a α 40 s.heap.size = A at hD hA hE ⊢
  have hS : va_S A s.heap s.heap [] := va_S.rf
  have in_X11 : ∀ w ∈ wsX110, w ∈ wp_X12_step := wi_X12_step_X11
  have in_X12 : ∀ w ∈ wsX120, w ∈ wp_X12_step := wi_X12_step_X12
  have k_0 := hts (.fieldLink RX12 259 "SteadyMachineModel" "flies" "Z") (by decide +kernel)
  have k_1 := hts (.fieldLink RX12 10 "SteadyMachineModel" "image" "LSteadyMachineModel$Image;") (by decide +kernel)
  have k_2 := hts (.fieldLink RX12 208 "SteadyMachineModel" "placeOf" "[I") (by decide +kernel)
  have k_3 := hts (.fieldLink RX12 256 "SteadyMachineModel" "frames" "I") (by decide +kernel)
  have hl := lv_entry ([.ref (α.1 1)]) (n := 3) (Nat.le_of_ble_eq_true rfl)
  rw [lg_entry_eq]
  generalize (lg_sl ([.ref (α.1 1)]) ++ List.replicate (3 - (lg_sl ([.ref (α.1 1)])).length) Slot.unset).toArray = ls at hl ⊢
  have hl : lv_has ls 3 [(0, .ref (α.1 1))] := hl
  have B120 : ∀ (σ : sm_S) (x1 : Int32) (x2 : Int32), mp_X12_step_120 K σ x1 x2 → sm_J p l e (headSpec wp_X12_step { frames := 8, cells := 0, slots := 0, locals := 201 }).room s m ([.ref (α.1 1)] : List Value).toArray below meth c (MQ below (va_Qi K (sm_B sm_wM D α) A) ([.ref (α.1 1)] : List Value).toArray s 0 0 A) D A 3 (sm_wM σ α) 120 [(0, .ref (α.1 1)), (1, .int x1), (2, .int x2)] [] := by
    intro σ x1 x2 hF H locs ls hP hS hl
    unfold mp_X12_step_120 at hF
    refine lv_aload_n hx hb dX12_step_120 rfl (lv_at hl 0 rfl) ?_
    refine lv_iload_n hx hb dX12_step_121 rfl (lv_at hl 1 rfl) ?_
    refine lv_iload_n hx hb dX12_step_122 rfl (lv_at hl 2 rfl) ?_
    refine sm_vv (As := [.int x1, .int x2]) (rest := []) hP hK hD hE hS hA ⟨hx, hb, hml, hown, hts⟩ hl.1 (c_X12_doValues l D H.size t0 σ α x1 x2 _ hF) (cwV 2 hts wg_X12_step_X12_doValues_353 rfl rfl rfl (by decide +kernel) ⟨Nat.le_of_ble_eq_true rfl, Nat.le_of_ble_eq_true rfl⟩) (va_recv hK hP (ci := 12) (q0 := 1) rfl (sm_gX12 σ α)) rfl rfl (Nat.le_of_ble_eq_true rfl) dX12_step_123 ⟨Nat.zero_le _, Nat.zero_le _⟩ (fun σ1 H locs hF hP hS => ?_)
    refine lv_aload_n hx hb dX12_step_126 rfl (lv_at hl 0 rfl) ?_
    refine lv_iload_n hx hb dX12_step_127 rfl (lv_at hl 1 rfl) ?_
    refine sm_vv (As := [.int x1]) (rest := []) hP hK hD hE hS hA ⟨hx, hb, hml, hown, hts⟩ hl.1 (c_X12_onward l D H.size t0 σ1 α x1 _ hF) (cwV 1 hts wg_X12_step_X12_onward_356 rfl rfl rfl (by decide +kernel) ⟨Nat.le_of_ble_eq_true rfl, Nat.le_of_ble_eq_true rfl⟩) (va_recv hK hP (ci := 12) (q0 := 1) rfl (sm_gX12 σ1 α)) rfl rfl (Nat.le_of_ble_eq_true rfl) dX12_step_128 ⟨Nat.zero_le _, Nat.zero_le _⟩ (fun σ2 H locs hF hP hS => ?_)
    refine lv_iconst (v := 1) hx hb dX12_step_131 (by decide) ?_
    exact W.zret (v := 1) hx hb hr sm_z1.1 (fun t ht hW => ⟨⟨1, σ2, rfl, hF, (by unfold sm_B; rw [ht]; exact hP)⟩, hS.F ht⟩) hS.2.2 dX12_step_132
  have B106 : ∀ (σ : sm_S) (x1 : Int32) (x2 : Int32), mp_X12_step_106 K σ x1 x2 → sm_J p l e (headSpec wp_X12_step { frames := 8, cells := 0, slots := 0, locals := 201 }).room s m ([.ref (α.1 1)] : List Value).toArray below meth c (MQ below (va_Qi K (sm_B sm_wM D α) A) ([.ref (α.1 1)] : List Value).toArray s 0 0 A) D A 3 (sm_wM σ α) 106 [(0, .ref (α.1 1)), (1, .int x1), (2, .int x2)] [] := by
    intro σ x1 x2 hF H locs ls hP hS hl
    unfold mp_X12_step_106 at hF
    refine lv_aload_n hx hb dX12_step_106 rfl (lv_at hl 0 rfl) ?_
    refine lv_iconst (v := 0) hx hb dX12_step_107 (by decide) ?_
    refine sm_vi (As := [.int 0]) (rest := []) hP hK hD hE hS hA ⟨hx, hb, hml, hown, hts⟩ hl.1 (c_X12_value l D H.size t0 σ α 0 _ hF) (cwV 1 hts wg_X12_step_X12_value_347 rfl rfl rfl (by decide +kernel) ⟨Nat.le_of_ble_eq_true rfl, Nat.le_of_ble_eq_true rfl⟩) (va_recv hK hP (ci := 12) (q0 := 1) rfl (sm_gX12 σ α)) rfl rfl (Nat.le_of_ble_eq_true rfl) dX12_step_108 ⟨Nat.zero_le _, Nat.zero_le _⟩ (fun r4 σ3 H locs hF hP hS => ?_)
    refine lv_if_ne (tgt := 120) hx hb dX12_step_111 (by decide) (fun h5 => ?_) (fun h5 => ?_)
    · replace hF := hF.1 h5
      exact B120 σ3 x1 x2 hF H locs ls hP hS (lv_sub hl [0, 1, 2] rfl)
    · replace hF := hF.2 h5
      refine lv_aload_n hx hb dX12_step_114 rfl (lv_at hl 0 rfl) ?_
      refine lv_iconst (v := 2) hx hb dX12_step_115 (by decide) ?_
      refine sm_vi (As := [.int 2]) (rest := []) hP hK hD hE hS hA ⟨hx, hb, hml, hown, hts⟩ hl.1 (c_X12_fault l D H.size t0 σ3 α 2 _ hF) (cwV 1 hts wg_X12_step_X12_fault_350 rfl rfl rfl (by decide +kernel) ⟨Nat.le_of_ble_eq_true rfl, Nat.le_of_ble_eq_true rfl⟩) (va_recv hK hP (ci := 12) (q0 := 1) rfl (sm_gX12 σ3 α)) rfl rfl (Nat.le_of_ble_eq_true rfl) dX12_step_116 ⟨Nat.zero_le _, Nat.zero_le _⟩ (fun r7 σ6 H locs hF hP hS => ?_)
      obtain ⟨h8, hF⟩ := hF
      exact W.zret (v := r7) hx hb hr h8.1 (fun t ht hW => ⟨⟨r7, σ6, rfl, hF, (by unfold sm_B; rw [ht]; exact hP)⟩, hS.F ht⟩) hS.2.2 dX12_step_119
  have B94 : ∀ (σ : sm_S) (x1 : Int32) (x2 : Int32), mp_X12_step_94 K σ x1 x2 → sm_J p l e (headSpec wp_X12_step { frames := 8, cells := 0, slots := 0, locals := 201 }).room s m ([.ref (α.1 1)] : List Value).toArray below meth c (MQ below (va_Qi K (sm_B sm_wM D α) A) ([.ref (α.1 1)] : List Value).toArray s 0 0 A) D A 3 (sm_wM σ α) 94 [(0, .ref (α.1 1)), (1, .int x1), (2, .int x2)] [] := by
    intro σ x1 x2 hF H locs ls hP hS hl
    unfold mp_X12_step_94 at hF
    refine lv_iload_n hx hb dX12_step_94 rfl (lv_at hl 2 rfl) ?_
    refine lv_bipush (v := 10) hx hb dX12_step_95 (by decide) ?_
    refine lv_icmp_eq (tgt := 106) hx hb dX12_step_97 (by decide) (fun h9 => ?_) (fun h9 => ?_)
    · replace hF := hF.1 h9
      exact B106 σ x1 x2 hF H locs ls hP hS (lv_sub hl [0, 1, 2] rfl)
    · replace hF := hF.2 h9
      refine lv_iload_n hx hb dX12_step_100 rfl (lv_at hl 2 rfl) ?_
      refine lv_bipush (v := 11) hx hb dX12_step_101 (by decide) ?_
      refine lv_icmp_ne (tgt := 120) hx hb dX12_step_103 (by decide) (fun h10 => ?_) (fun h10 => ?_)
      · replace hF := hF.1 h10
        exact B120 σ x1 x2 hF H locs ls hP hS (lv_sub hl [0, 1, 2] rfl)
      · replace hF := hF.2 h10
        exact B106 σ x1 x2 hF H locs ls hP hS (lv_sub hl [0, 1, 2] rfl)
  have B87 : ∀ (σ : sm_S) (x1 : Int32) (x2 : Int32), mp_X12_step_87 K σ x1 x2 → sm_J p l e (headSpec wp_X12_step { frames := 8, cells := 0, slots := 0, locals := 201 }).room s m ([.ref (α.1 1)] : List Value).toArray below meth c (MQ below (va_Qi K (sm_B sm_wM D α) A) ([.ref (α.1 1)] : List Value).toArray s 0 0 A) D A 3 (sm_wM σ α) 87 [(0, .ref (α.1 1)), (1, .int x1), (2, .int x2)] [] := by
    intro σ x1 x2 hF H locs ls hP hS hl
    unfold mp_X12_step_87 at hF
    refine lv_aload_n hx hb dX12_step_87 rfl (lv_at hl 0 rfl) ?_
    refine lv_iload_n hx hb dX12_step_88 rfl (lv_at hl 1 rfl) ?_
    refine lv_iload_n hx hb dX12_step_89 rfl (lv_at hl 2 rfl) ?_
    refine sm_vi (As := [.int x1, .int x2]) (rest := []) hP hK hD hE hS hA ⟨hx, hb, hml, hown, hts⟩ hl.1 (c_X12_doThings l D H.size t0 σ α x1 x2 _ hF) (cwV 2 hts wg_X12_step_X12_doThings_344 rfl rfl rfl (by decide +kernel) ⟨Nat.le_of_ble_eq_true rfl, Nat.le_of_ble_eq_true rfl⟩) (va_recv hK hP (ci := 12) (q0 := 1) rfl (sm_gX12 σ α)) rfl rfl (Nat.le_of_ble_eq_true rfl) dX12_step_90 ⟨Nat.zero_le _, Nat.zero_le _⟩ (fun r12 σ11 H locs hF hP hS => ?_)
    obtain ⟨h13, hF⟩ := hF
    exact W.zret (v := r12) hx hb hr h13.1 (fun t ht hW => ⟨⟨r12, σ11, rfl, hF, (by unfold sm_B; rw [ht]; exact hP)⟩, hS.F ht⟩) hS.2.2 dX12_step_93
  have B75 : ∀ (σ : sm_S) (x1 : Int32) (x2 : Int32), mp_X12_step_75 K σ x1 x2 → sm_J p l e (headSpec wp_X12_step { frames := 8, cells := 0, slots := 0, locals := 201 }).room s m ([.ref (α.1 1)] : List Value).toArray below meth c (MQ below (va_Qi K (sm_B sm_wM D α) A) ([.ref (α.1 1)] : List Value).toArray s 0 0 A) D A 3 (sm_wM σ α) 75 [(0, .ref (α.1 1)), (1, .int x1), (2, .int x2)] [] := by
    intro σ x1 x2 hF H locs ls hP hS hl
    unfold mp_X12_step_75 at hF
    refine lv_iload_n hx hb dX12_step_75 rfl (lv_at hl 2 rfl) ?_
    refine lv_bipush (v := 37) hx hb dX12_step_76 (by decide) ?_
    refine lv_icmp_lt (tgt := 94) hx hb dX12_step_78 (by decide) (fun h14 => ?_) (fun h14 => ?_)
    · replace hF := hF.1 h14
      exact B94 σ x1 x2 hF H locs ls hP hS (lv_sub hl [0, 1, 2] rfl)
    · replace hF := hF.2 h14
      refine lv_iload_n hx hb dX12_step_81 rfl (lv_at hl 2 rfl) ?_
      refine lv_bipush (v := 39) hx hb dX12_step_82 (by decide) ?_
      refine lv_icmp_gt (tgt := 94) hx hb dX12_step_84 (by decide) (fun h15 => ?_) (fun h15 => ?_)
      · replace hF := hF.1 h15
        exact B94 σ x1 x2 hF H locs ls hP hS (lv_sub hl [0, 1, 2] rfl)
      · replace hF := hF.2 h15
        exact B87 σ x1 x2 hF H locs ls hP hS (lv_sub hl [0, 1, 2] rfl)
  unfold mp_X12_step at hF
  revert hP hS
  generalize hLo : ([] : List Loc) = locs
  suffices h9 : ∀ (H : Heap) (locs : List Loc), va_P D vwCl (sm_wM σ α) H → va_S A s.heap H locs → W p l e (headSpec wp_X12_step { frames := 8, cells := 0, slots := 0, locals := 201 }).room s m ([.ref (α.1 1)] : List Value).toArray below meth c H locs 0 0 (MQ below (va_Qi K (sm_B sm_wM D α) A) ([.ref (α.1 1)] : List Value).toArray s 0 0 A) (F0 m 0 ls []) from fun hP hS => h9 s.heap locs hP hS
  intro H locs hP hS
  refine lv_aload_n hx hb dX12_step_0 rfl (lv_at hl 0 rfl) ?_
  refine va_get (D := D) (ci := 12) (v := .int (σ.1 15)) (C := RX12) (T := TX12) (N := 42) hx hb hts in_X12 hown hK hP 1 (sm_gX12 σ α) rfl 24 (by decide) k_0 (fun _ h9 => h9) rfl dX12_step_1 ?_
  refine lv_if_eq (tgt := 13) hx hb dX12_step_4 (by decide) (fun h16 => ?_) (fun h16 => ?_)
  · replace hF := hF.1 h16
    refine lv_aload_n hx hb dX12_step_13 rfl (lv_at hl 0 rfl) ?_
    refine va_get (D := D) (ci := 12) (v := .ref (α.1 0)) (C := RX12) (T := TX12) (N := 42) hx hb hts in_X12 hown hK hP 1 (sm_gX12 σ α) rfl 0 (by decide) k_1 (fun _ h9 => h9) rfl dX12_step_14 ?_
    refine va_getN (D := D) (ci := 11) (v := .ref (α.1 17)) (C := RX11) (T := TX11) (N := 28) hx hb hts in_X11 hown hK hP 0 (sm_gX11 σ α) rfl 22 (by decide) (va_Nw.use rfl (hE.1 (.fieldLinkNest "SteadyMachineModel" 30 "SteadyMachineModel$Image" "codeAt" "[I" "SteadyMachineModel") (by decide +kernel))) (fun _ h9 => h9) rfl dX12_step_17 ?_
    refine lv_aload_n hx hb dX12_step_20 rfl (lv_at hl 0 rfl) ?_
    refine sm_vi (As := []) (rest := [.ref (α.1 17)]) hP hK hD hE hS hA ⟨hx, hb, hml, hown, hts⟩ hl.1 (c_X12_method l D H.size t0 σ α _ hF) (cwV 0 hts wg_X12_step_X12_method_317 rfl rfl rfl (by decide +kernel) ⟨Nat.le_of_ble_eq_true rfl, Nat.le_of_ble_eq_true rfl⟩) (va_recv hK hP (ci := 12) (q0 := 1) rfl (sm_gX12 σ α)) rfl rfl (Nat.le_of_ble_eq_true rfl) dX12_step_21 ⟨Nat.zero_le _, Nat.zero_le _⟩ (fun r18 σ17 H locs hF hP hS => ?_)
    obtain ⟨h19, hF⟩ := hF
    refine va_iald (n := (σ17.2.2.1 17)) (f := (σ17.2.2.2.1 17)) hx hb hK hP 17 15 (sm_aM17 σ17 α) (sm_yM17 α) h19 dX12_step_24 ?_
    refine lv_aload_n hx hb dX12_step_25 rfl (lv_at hl 0 rfl) ?_
    refine va_get (D := D) (ci := 12) (v := .ref (α.1 34)) (C := RX12) (T := TX12) (N := 42) hx hb hts in_X12 hown hK hP 1 (sm_gX12 σ17 α) rfl 20 (by decide) k_2 (fun _ h9 => h9) rfl dX12_step_26 ?_
    refine lv_aload_n hx hb dX12_step_29 rfl (lv_at hl 0 rfl) ?_
    refine va_get (D := D) (ci := 12) (v := .int (σ17.1 14)) (C := RX12) (T := TX12) (N := 42) hx hb hts in_X12 hown hK hP 1 (sm_gX12 σ17 α) rfl 18 (by decide) k_3 (fun _ h9 => h9) rfl dX12_step_30 ?_
    refine lv_iconst (v := 1) hx hb dX12_step_33 (by decide) ?_
    refine lv_isub hx hb dX12_step_34 ?_
    obtain ⟨h20, hF⟩ := hF
    refine va_iald (n := (σ17.2.2.1 34)) (f := (σ17.2.2.2.1 34)) hx hb hK hP 34 32 (sm_aM34 σ17 α) (sm_yM34 α) h20 dX12_step_35 ?_
    refine lv_iadd hx hb dX12_step_36 ?_
    refine lv_topi (fun v21 ev21 => ?_)
    replace hF := hF v21 ev21
    refine lv_istore_n (lv' := [(1, .int v21), (0, .ref (α.1 1))]) hx hb dX12_step_37 rfl hl (by decide) rfl (fun ls hl => ?_)
    refine lv_aload_n hx hb dX12_step_38 rfl (lv_at hl 1 rfl) ?_
    refine va_get (D := D) (ci := 12) (v := .ref (α.1 0)) (C := RX12) (T := TX12) (N := 42) hx hb hts in_X12 hown hK hP 1 (sm_gX12 σ17 α) rfl 0 (by decide) k_1 (fun _ h9 => h9) rfl dX12_step_39 ?_
    refine va_getN (D := D) (ci := 11) (v := .ref (α.1 3)) (C := RX11) (T := TX11) (N := 28) hx hb hts in_X11 hown hK hP 0 (sm_gX11 σ17 α) rfl 2 (by decide) (va_Nw.use rfl (hE.1 (.fieldLinkNest "SteadyMachineModel" 111 "SteadyMachineModel$Image" "image" "[I" "SteadyMachineModel") (by decide +kernel))) (fun _ h9 => h9) rfl dX12_step_42 ?_
    refine lv_iload_n hx hb dX12_step_45 rfl (lv_at hl 0 rfl) ?_
    obtain ⟨h22, hF⟩ := hF
    refine va_iald (n := (σ17.2.2.1 3)) (f := (σ17.2.2.2.1 3)) hx hb hK hP 3 1 (sm_aM3 σ17 α) (sm_yM3 α) h22 dX12_step_46 ?_
    refine lv_topi (fun v23 ev23 => ?_)
    replace hF := hF v23 ev23
    refine lv_istore_n (lv' := [(2, .int v23), (1, .int v21), (0, .ref (α.1 1))]) hx hb dX12_step_47 rfl hl (by decide) rfl (fun ls hl => ?_)
    refine lv_iload_n hx hb dX12_step_48 rfl (lv_at hl 0 rfl) ?_
    refine sm_si (As := [.int v23]) (rest := []) hP hK hD hE hS hA ⟨hx, hb, hml, hown, hts⟩ hl.1 (c_X12_isJump l D H.size t0 σ17 α v23 _ hF) (va_cwS 1 hts wg_X12_step_X12_isJump_136 rfl rfl rfl (by decide +kernel) ⟨Nat.le_of_ble_eq_true rfl, Nat.le_of_ble_eq_true rfl⟩) rfl rfl (Nat.le_of_ble_eq_true rfl) dX12_step_49 ⟨Nat.zero_le _, Nat.zero_le _⟩ (fun r25 σ24 H locs hF hP hS => ?_)
    refine lv_if_eq (tgt := 63) hx hb dX12_step_52 (by decide) (fun h26 => ?_) (fun h26 => ?_)
    · replace hF := hF.1 h26
      refine lv_iload_n hx hb dX12_step_63 rfl (lv_at hl 0 rfl) ?_
      refine lv_bipush (v := 26) hx hb dX12_step_64 (by decide) ?_
      refine lv_icmp_lt (tgt := 75) hx hb dX12_step_66 (by decide) (fun h27 => ?_) (fun h27 => ?_)
      · replace hF := hF.1 h27
        exact B75 σ24 v21 v23 hF H locs ls hP hS (lv_sub hl [2, 1, 0] rfl)
      · replace hF := hF.2 h27
        refine lv_iload_n hx hb dX12_step_69 rfl (lv_at hl 0 rfl) ?_
        refine lv_bipush (v := 36) hx hb dX12_step_70 (by decide) ?_
        refine lv_icmp_le (tgt := 87) hx hb dX12_step_72 (by decide) (fun h28 => ?_) (fun h28 => ?_)
        · replace hF := hF.1 h28
          exact B87 σ24 v21 v23 hF H locs ls hP hS (lv_sub hl [2, 1, 0] rfl)
        · replace hF := hF.2 h28
          exact B75 σ24 v21 v23 hF H locs ls hP hS (lv_sub hl [2, 1, 0] rfl)
    · replace hF := hF.2 h26
      refine lv_aload_n hx hb dX12_step_55 rfl (lv_at hl 2 rfl) ?_
      refine lv_iload_n hx hb dX12_step_56 rfl (lv_at hl 1 rfl) ?_
      refine lv_iload_n hx hb dX12_step_57 rfl (lv_at hl 0 rfl) ?_
      refine sm_vv (As := [.int v21, .int v23]) (rest := []) hP hK hD hE hS hA ⟨hx, hb, hml, hown, hts⟩ hl.1 (c_X12_jump l D H.size t0 σ24 α v21 v23 _ hF) (cwV 2 hts wg_X12_step_X12_jump_341 rfl rfl rfl (by decide +kernel) ⟨Nat.le_of_ble_eq_true rfl, Nat.le_of_ble_eq_true rfl⟩) (va_recv hK hP (ci := 12) (q0 := 1) rfl (sm_gX12 σ24 α)) rfl rfl (Nat.le_of_ble_eq_true rfl) dX12_step_58 ⟨Nat.zero_le _, Nat.zero_le _⟩ (fun σ29 H locs hF hP hS => ?_)
      refine lv_iconst (v := 1) hx hb dX12_step_61 (by decide) ?_
      exact W.zret (v := 1) hx hb hr sm_z1.1 (fun t ht hW => ⟨⟨1, σ29, rfl, hF, (by unfold sm_B; rw [ht]; exact hP)⟩, hS.F ht⟩) hS.2.2 dX12_step_62
  · replace hF := hF.2 h16
    refine lv_aload_n hx hb dX12_step_7 rfl (lv_at hl 0 rfl) ?_
    refine sm_vv (As := []) (rest := []) hP hK hD hE hS hA ⟨hx, hb, hml, hown, hts⟩ hl.1 (c_X12_fly l D H.size t0 σ α _ hF) (cwV 0 hts wg_X12_step_X12_fly_338 rfl rfl rfl (by decide +kernel) ⟨Nat.le_of_ble_eq_true rfl, Nat.le_of_ble_eq_true rfl⟩) (va_recv hK hP (ci := 12) (q0 := 1) rfl (sm_gX12 σ α)) rfl rfl (Nat.le_of_ble_eq_true rfl) dX12_step_8 ⟨Nat.zero_le _, Nat.zero_le _⟩ (fun σ30 H locs hF hP hS => ?_)
    refine lv_iconst (v := 1) hx hb dX12_step_11 (by decide) ?_
    exact W.zret (v := 1) hx hb hr sm_z1.1 (fun t ht hW => ⟨⟨1, σ30, rfl, hF, (by unfold sm_B; rw [ht]; exact hP)⟩, hS.F ht⟩) hS.2.2 dX12_step_12
theorem dX12_run_0 : decode cX12_run 0 = .ok (.iload_n 1, 1) := by decide +kernel
theorem dX12_run_1 : decode cX12_run 1 = .ok (.ifCond .lt 18, 3) := by decide +kernel
theorem dX12_run_4 : decode cX12_run 4 = .ok (.iload_n 1, 1) := by decide +kernel
theorem dX12_run_5 : decode cX12_run 5 = .ok (.sipush 20000, 3) := by decide +kernel
theorem dX12_run_8 : decode cX12_run 8 = .ok (.if_icmp .gt 11, 3) := by decide +kernel
theorem dX12_run_11 : decode cX12_run 11 = .ok (.aload_n 0, 1) := by decide +kernel
theorem dX12_run_12 : decode cX12_run 12 = .ok (.getfield 152, 3) := by decide +kernel
theorem dX12_run_15 : decode cX12_run 15 = .ok (.iconst 1, 1) := by decide +kernel
theorem dX12_run_16 : decode cX12_run 16 = .ok (.if_icmp .eq 5, 3) := by decide +kernel
theorem dX12_run_19 : decode cX12_run 19 = .ok (.iconst (-1), 1) := by decide +kernel
theorem dX12_run_20 : decode cX12_run 20 = .ok (.ireturn, 1) := by decide +kernel
theorem dX12_run_21 : decode cX12_run 21 = .ok (.iconst 0, 1) := by decide +kernel
theorem dX12_run_22 : decode cX12_run 22 = .ok (.istore_n 2, 1) := by decide +kernel
theorem dX12_run_23 : decode cX12_run 23 = .ok (.iload_n 2, 1) := by decide +kernel
theorem dX12_run_24 : decode cX12_run 24 = .ok (.iload_n 1, 1) := by decide +kernel
theorem dX12_run_25 : decode cX12_run 25 = .ok (.if_icmp .ge 34, 3) := by decide +kernel
theorem dX12_run_28 : decode cX12_run 28 = .ok (.aload_n 0, 1) := by decide +kernel
theorem dX12_run_29 : decode cX12_run 29 = .ok (.getfield 152, 3) := by decide +kernel
theorem dX12_run_32 : decode cX12_run 32 = .ok (.iconst 1, 1) := by decide +kernel
theorem dX12_run_33 : decode cX12_run 33 = .ok (.if_icmp .ne 26, 3) := by decide +kernel
theorem dX12_run_36 : decode cX12_run 36 = .ok (.aload_n 0, 1) := by decide +kernel
theorem dX12_run_37 : decode cX12_run 37 = .ok (.invokevirtual 406, 3) := by decide +kernel
theorem dX12_run_40 : decode cX12_run 40 = .ok (.ifCond .eq (-17), 3) := by decide +kernel
theorem dX12_run_43 : decode cX12_run 43 = .ok (.aload_n 0, 1) := by decide +kernel
theorem dX12_run_44 : decode cX12_run 44 = .ok (.dup, 1) := by decide +kernel
theorem dX12_run_45 : decode cX12_run 45 = .ok (.getfield 262, 3) := by decide +kernel
theorem dX12_run_48 : decode cX12_run 48 = .ok (.lconst 1, 1) := by decide +kernel
theorem dX12_run_49 : decode cX12_run 49 = .ok (.ladd, 1) := by decide +kernel
theorem dX12_run_50 : decode cX12_run 50 = .ok (.putfield 262, 3) := by decide +kernel
theorem dX12_run_53 : decode cX12_run 53 = .ok (.iinc 2 1, 3) := by decide +kernel
theorem dX12_run_56 : decode cX12_run 56 = .ok (.goto (-33), 3) := by decide +kernel
theorem dX12_run_59 : decode cX12_run 59 = .ok (.iload_n 2, 1) := by decide +kernel
theorem dX12_run_60 : decode cX12_run 60 = .ok (.ireturn, 1) := by decide +kernel
def wp_X12_run : List Cond := .code yX12_run cX12_run 3 (some .int) :: (([.fieldLink RX12 152 "SteadyMachineModel" "state" "I", .fieldLink RX12 262 "SteadyMachineModel" "steps" "J"] ++ (wsV RX12 406 RX12 yX12_step wp_X12_step)) ++ wsX120)
theorem wq_X12_run : wp_X12_run.all goodWord = true := wa_c rfl (wa_a (wa_a (by decide +kernel) (wa_V wq_X12_step)) uq_X12)
theorem wt_X12_run : GoodIn lw_tbl wp_X12_run := wm_c (List.mem_of_getElem? (i := 1661) (by decide +kernel)) rfl (wm_a (wm_a (goodIn_r _ [1516, 1517] (by decide +kernel) (by decide +kernel)) (wm_a (goodIn_r _ [1662, 1664, 109, 147] (by decide +kernel) (by decide +kernel)) wt_X12_step)) ut_X12)
theorem wg_X12_run_X12_step_406 : GoodIn wp_X12_run (wsV RX12 406 RX12 yX12_step wp_X12_step) := goodIn_sub (fun w h => List.mem_cons_of_mem _ (List.mem_append_left _ (List.mem_append_right _ h))) (wa_V wq_X12_step)
theorem wi_X12_run_X12 : ∀ w ∈ wsX120, w ∈ wp_X12_run := fun w h => List.mem_cons_of_mem _ (List.mem_append_right _ h)
set_option maxHeartbeats 4000000 in
set_option maxRecDepth 100000 in
theorem c_X12_run (l : Launch) (D : va_G) (sz t0 : Nat) (σ : sm_S) (α : sm_A) (p1 : Int32) (K : Int32 → sm_S → Prop) (hF : mp_X12_run σ p1 K) : Met l yX12_run wp_X12_run { frames := 9, cells := 0, slots := 0, locals := 223 } (sm_P sm_wM sm_tM 40 D sz t0 σ α [.ref (α.1 1), .int p1]) (va_Qi K (sm_B sm_wM D α) (sm_a α 40 sz)) 0 0 (sm_a α 40 sz) := by
  refine Met.ofW (cc := cX12_run) (maxL := 3) (ret := (some .int)) (by decide) rfl ?_
  intro p e s m args below meth c s₁ B hml hv
  obtain ⟨rfl, hsz, hP, hK, hD0, hE⟩ := hv
  have hx := B.exec
  have hb := B.bytes
  have hr := B.returns
  have hts := atoms_spec (ws := wp_X12_run) B.pre
  have hown : s.vm.findClass RX12 = some m.cls := findClass_of_methodNamed B.named
  have hlocks := B.notSynchronized
  subst hsz
  have hD : sm_D (sm_a α 40 s.heap.size) α 40 := hD0.own
  have hA : ∀ q : Nat, s.heap.size ≤ q → sm_a α 40 s.heap.size q := fun q h => Or.inr h
  generalize hAe : sm_a α 40 s.heap.size = A at hD hA hE ⊢
  have hS : va_S A s.heap s.heap [] := va_S.rf
  have in_X12 : ∀ w ∈ wsX120, w ∈ wp_X12_run := wi_X12_run_X12
  have k_0 := hts (.fieldLink RX12 152 "SteadyMachineModel" "state" "I") (by decide +kernel)
  have k_1 := hts (.fieldLink RX12 262 "SteadyMachineModel" "steps" "J") (by decide +kernel)
  have hl := lv_entry ([.ref (α.1 1), .int p1]) (n := 3) (Nat.le_of_ble_eq_true rfl)
  rw [lg_entry_eq]
  generalize (lg_sl ([.ref (α.1 1), .int p1]) ++ List.replicate (3 - (lg_sl ([.ref (α.1 1), .int p1])).length) Slot.unset).toArray = ls at hl ⊢
  have hl : lv_has ls 3 [(0, .ref (α.1 1)), (1, .int p1)] := hl
  have B59 : ∀ (σ : sm_S) (x2 : Int32), mp_X12_run_59 K σ x2 → sm_J p l e (headSpec wp_X12_run { frames := 9, cells := 0, slots := 0, locals := 223 }).room s m ([.ref (α.1 1), .int p1] : List Value).toArray below meth c (MQ below (va_Qi K (sm_B sm_wM D α) A) ([.ref (α.1 1), .int p1] : List Value).toArray s 0 0 A) D A 3 (sm_wM σ α) 59 [(2, .int x2)] [] := by
    intro σ x2 hF H locs ls hP hS hl
    unfold mp_X12_run_59 at hF
    refine lv_iload_n hx hb dX12_run_59 rfl (lv_at hl 0 rfl) ?_
    exact W.iret (v := x2) hx hb hr (fun t ht hW => ⟨⟨x2, σ, rfl, hF, (by unfold sm_B; rw [ht]; exact hP)⟩, hS.F ht⟩) hS.2.2 dX12_run_60
  have B23 : ∀ (n : Nat) (σ : sm_S) (x1 : Int32) (x2 : Int32), mp_X12_run_23 K n σ x1 x2 → sm_J p l e (headSpec wp_X12_run { frames := 9, cells := 0, slots := 0, locals := 223 }).room s m ([.ref (α.1 1), .int p1] : List Value).toArray below meth c (MQ below (va_Qi K (sm_B sm_wM D α) A) ([.ref (α.1 1), .int p1] : List Value).toArray s 0 0 A) D A 3 (sm_wM σ α) 23 [(0, .ref (α.1 1)), (1, .int x1), (2, .int x2)] [] := by
    intro n23
    induction n23 with
    | zero =>
      intro σ x1 x2 hF
      exact hF.elim
    | succ n23 ih23 =>
      intro σ x1 x2 hF H locs ls hP hS hl
      unfold mp_X12_run_23 at hF
      refine lv_iload_n hx hb dX12_run_23 rfl (lv_at hl 2 rfl) ?_
      refine lv_iload_n hx hb dX12_run_24 rfl (lv_at hl 1 rfl) ?_
      refine lv_icmp_ge (tgt := 59) hx hb dX12_run_25 (by decide) (fun h1 => ?_) (fun h1 => ?_)
      · replace hF := hF.1 h1
        exact B59 σ x2 hF H locs ls hP hS (lv_sub hl [2] rfl)
      · replace hF := hF.2 h1
        refine lv_aload_n hx hb dX12_run_28 rfl (lv_at hl 0 rfl) ?_
        refine va_get (D := D) (ci := 12) (v := .int (σ.1 17)) (C := RX12) (T := TX12) (N := 42) hx hb hts in_X12 hown hK hP 1 (sm_gX12 σ α) rfl 26 (by decide) k_0 (fun _ h9 => h9) rfl dX12_run_29 ?_
        refine lv_iconst (v := 1) hx hb dX12_run_32 (by decide) ?_
        refine lv_icmp_ne (tgt := 59) hx hb dX12_run_33 (by decide) (fun h2 => ?_) (fun h2 => ?_)
        · replace hF := hF.1 h2
          exact B59 σ x2 hF H locs ls hP hS (lv_sub hl [2] rfl)
        · replace hF := hF.2 h2
          refine lv_aload_n hx hb dX12_run_36 rfl (lv_at hl 0 rfl) ?_
          refine sm_vi (As := []) (rest := []) hP hK hD hE hS hA ⟨hx, hb, hml, hown, hts⟩ hl.1 (c_X12_step l D H.size t0 σ α _ hF) (cwV 0 hts wg_X12_run_X12_step_406 rfl rfl rfl (by decide +kernel) ⟨Nat.le_of_ble_eq_true rfl, Nat.le_of_ble_eq_true rfl⟩) (va_recv hK hP (ci := 12) (q0 := 1) rfl (sm_gX12 σ α)) rfl rfl (Nat.le_of_ble_eq_true rfl) dX12_run_37 ⟨Nat.zero_le _, Nat.zero_le _⟩ (fun r4 σ3 H locs hF hP hS => ?_)
          refine lv_if_eq (tgt := 23) hx hb dX12_run_40 (by decide) (fun h5 => ?_) (fun h5 => ?_)
          · replace hF := hF.1 h5
            exact ih23 σ3 x1 x2 hF H locs ls hP hS (lv_sub hl [0, 1, 2] rfl)
          · replace hF := hF.2 h5
            refine lv_aload_n hx hb dX12_run_43 rfl (lv_at hl 0 rfl) ?_
            refine lv_dup hx hb dX12_run_44 rfl ?_
            refine va_get (D := D) (ci := 12) (v := .long (σ3.2.1 0)) (C := RX12) (T := TX12) (N := 42) hx hb hts in_X12 hown hK hP 1 (sm_gX12 σ3 α) rfl 27 (by decide) k_1 (fun _ h9 => h9) rfl dX12_run_45 ?_
            refine lv_lconst (v := 1) hx hb dX12_run_48 (by decide) ?_
            refine lv_ladd hx hb dX12_run_49 ?_
            refine va_put (D := D) (ci := 12) (v := .long ((σ3.2.1 0) + 1)) (ty := .long) (C := RX12) (T := TX12) (N := 42) hx hb hts in_X12 tyX12 tyX12_ok nmX12 hown hK hP (hD.to (sm_wM_m _ _)) hS 1 (sm_gX12 σ3 α) rfl 27 (by decide) k_1 (fun _ h9 => h9) rfl (by decide +kernel) rfl rfl (Nat.le_of_ble_eq_true rfl) dX12_run_50 (fun H locs hP _ hS => ?_)
            rw [sm_jM0] at hP
            obtain ⟨σ6, eσ6⟩ : ∃ x : sm_S, x = sm_j σ3 0 ((σ3.2.1 0) + 1) := ⟨_, rfl⟩
            replace hF := hF σ6 eσ6
            rw [← eσ6] at hP
            obtain ⟨v7, ev7⟩ : ∃ y : Int32, y = x2 + 1 := ⟨_, rfl⟩
            replace hF := hF v7 ev7
            refine lv_iinc (v := v7) (lv' := [(2, .int v7), (0, .ref (α.1 1)), (1, .int x1)]) hx hb dX12_run_53 hl (k := 2) rfl (by rw [ev7]; rfl) (by decide) rfl (fun ls hl => ?_)
            refine lv_goto (tgt := 23) hx hb dX12_run_56 (by decide) ?_
            exact ih23 σ6 x1 v7 hF H locs ls hP hS (lv_sub hl [1, 2, 0] rfl)
  have B19 : ∀ (σ : sm_S), mp_X12_run_19 K σ → sm_J p l e (headSpec wp_X12_run { frames := 9, cells := 0, slots := 0, locals := 223 }).room s m ([.ref (α.1 1), .int p1] : List Value).toArray below meth c (MQ below (va_Qi K (sm_B sm_wM D α) A) ([.ref (α.1 1), .int p1] : List Value).toArray s 0 0 A) D A 3 (sm_wM σ α) 19 [] [] := by
    intro σ hF H locs ls hP hS hl
    unfold mp_X12_run_19 at hF
    refine lv_iconst (v := -1) hx hb dX12_run_19 (by decide) ?_
    exact W.iret (v := (-1)) hx hb hr (fun t ht hW => ⟨⟨(-1), σ, rfl, hF, (by unfold sm_B; rw [ht]; exact hP)⟩, hS.F ht⟩) hS.2.2 dX12_run_20
  unfold mp_X12_run at hF
  revert hP hS
  generalize hLo : ([] : List Loc) = locs
  suffices h9 : ∀ (H : Heap) (locs : List Loc), va_P D vwCl (sm_wM σ α) H → va_S A s.heap H locs → W p l e (headSpec wp_X12_run { frames := 9, cells := 0, slots := 0, locals := 223 }).room s m ([.ref (α.1 1), .int p1] : List Value).toArray below meth c H locs 0 0 (MQ below (va_Qi K (sm_B sm_wM D α) A) ([.ref (α.1 1), .int p1] : List Value).toArray s 0 0 A) (F0 m 0 ls []) from fun hP hS => h9 s.heap locs hP hS
  intro H locs hP hS
  refine lv_iload_n hx hb dX12_run_0 rfl (lv_at hl 1 rfl) ?_
  refine lv_if_lt (tgt := 19) hx hb dX12_run_1 (by decide) (fun h8 => ?_) (fun h8 => ?_)
  · replace hF := hF.1 h8
    exact B19 σ hF H locs ls hP hS (lv_sub hl [] rfl)
  · replace hF := hF.2 h8
    refine lv_iload_n hx hb dX12_run_4 rfl (lv_at hl 1 rfl) ?_
    refine lv_sipush (v := 20000) hx hb dX12_run_5 (by decide) ?_
    refine lv_icmp_gt (tgt := 19) hx hb dX12_run_8 (by decide) (fun h9 => ?_) (fun h9 => ?_)
    · replace hF := hF.1 h9
      exact B19 σ hF H locs ls hP hS (lv_sub hl [] rfl)
    · replace hF := hF.2 h9
      refine lv_aload_n hx hb dX12_run_11 rfl (lv_at hl 0 rfl) ?_
      refine va_get (D := D) (ci := 12) (v := .int (σ.1 17)) (C := RX12) (T := TX12) (N := 42) hx hb hts in_X12 hown hK hP 1 (sm_gX12 σ α) rfl 26 (by decide) k_0 (fun _ h9 => h9) rfl dX12_run_12 ?_
      refine lv_iconst (v := 1) hx hb dX12_run_15 (by decide) ?_
      refine lv_icmp_eq (tgt := 21) hx hb dX12_run_16 (by decide) (fun h10 => ?_) (fun h10 => ?_)
      · replace hF := hF.1 h10
        refine lv_iconst (v := 0) hx hb dX12_run_21 (by decide) ?_
        refine lv_istore_n (lv' := [(2, .int 0), (0, .ref (α.1 1)), (1, .int p1)]) hx hb dX12_run_22 rfl hl (by decide) rfl (fun ls hl => ?_)
        obtain ⟨n23, hF⟩ := hF
        exact B23 n23 σ p1 0 hF H locs ls hP hS (lv_sub hl [1, 2, 0] rfl)
      · replace hF := hF.2 h10
        exact B19 σ hF H locs ls hP hS (lv_sub hl [] rfl)
theorem dX12_state_0 : decode cX12_state 0 = .ok (.aload_n 0, 1) := by decide +kernel
theorem dX12_state_1 : decode cX12_state 1 = .ok (.getfield 152, 3) := by decide +kernel
theorem dX12_state_4 : decode cX12_state 4 = .ok (.ireturn, 1) := by decide +kernel
def wp_X12_state : List Cond := .code yX12_state cX12_state 1 (some .int) :: ([.fieldLink RX12 152 "SteadyMachineModel" "state" "I"] ++ wsX120)
theorem wq_X12_state : wp_X12_state.all goodWord = true := wa_c rfl (wa_a (by decide +kernel) uq_X12)
theorem wt_X12_state : GoodIn lw_tbl wp_X12_state := wm_c (List.mem_of_getElem? (i := 1777) (by decide +kernel)) rfl (wm_a (goodIn_r _ [1516] (by decide +kernel) (by decide +kernel)) ut_X12)
theorem wi_X12_state_X12 : ∀ w ∈ wsX120, w ∈ wp_X12_state := fun w h => List.mem_cons_of_mem _ (List.mem_append_right _ h)
set_option maxHeartbeats 4000000 in
set_option maxRecDepth 100000 in
theorem c_X12_state (l : Launch) (D : va_G) (sz t0 : Nat) (σ : sm_S) (α : sm_A) (K : Int32 → sm_S → Prop) (hF : mp_X12_state σ K) : Met l yX12_state wp_X12_state { frames := 0, cells := 0, slots := 0, locals := 0 } (sm_P sm_wM sm_tM 40 D sz t0 σ α [.ref (α.1 1)]) (va_Qi K (sm_B sm_wM D α) (sm_a α 40 sz)) 0 0 (sm_a α 40 sz) := by
  refine Met.ofW (cc := cX12_state) (maxL := 1) (ret := (some .int)) (by decide) rfl ?_
  intro p e s m args below meth c s₁ B hml hv
  obtain ⟨rfl, hsz, hP, hK, hD0, hE⟩ := hv
  have hx := B.exec
  have hb := B.bytes
  have hr := B.returns
  have hts := atoms_spec (ws := wp_X12_state) B.pre
  have hown : s.vm.findClass RX12 = some m.cls := findClass_of_methodNamed B.named
  have hlocks := B.notSynchronized
  subst hsz
  have hD : sm_D (sm_a α 40 s.heap.size) α 40 := hD0.own
  have hA : ∀ q : Nat, s.heap.size ≤ q → sm_a α 40 s.heap.size q := fun q h => Or.inr h
  generalize hAe : sm_a α 40 s.heap.size = A at hD hA hE ⊢
  have hS : va_S A s.heap s.heap [] := va_S.rf
  have in_X12 : ∀ w ∈ wsX120, w ∈ wp_X12_state := wi_X12_state_X12
  have k_0 := hts (.fieldLink RX12 152 "SteadyMachineModel" "state" "I") (by decide +kernel)
  have hl := lv_entry ([.ref (α.1 1)]) (n := 1) (Nat.le_of_ble_eq_true rfl)
  rw [lg_entry_eq]
  generalize (lg_sl ([.ref (α.1 1)]) ++ List.replicate (1 - (lg_sl ([.ref (α.1 1)])).length) Slot.unset).toArray = ls at hl ⊢
  have hl : lv_has ls 1 [(0, .ref (α.1 1))] := hl
  unfold mp_X12_state at hF
  revert hP hS
  generalize hLo : ([] : List Loc) = locs
  suffices h9 : ∀ (H : Heap) (locs : List Loc), va_P D vwCl (sm_wM σ α) H → va_S A s.heap H locs → W p l e (headSpec wp_X12_state { frames := 0, cells := 0, slots := 0, locals := 0 }).room s m ([.ref (α.1 1)] : List Value).toArray below meth c H locs 0 0 (MQ below (va_Qi K (sm_B sm_wM D α) A) ([.ref (α.1 1)] : List Value).toArray s 0 0 A) (F0 m 0 ls []) from fun hP hS => h9 s.heap locs hP hS
  intro H locs hP hS
  refine lv_aload_n hx hb dX12_state_0 rfl (lv_at hl 0 rfl) ?_
  refine va_get (D := D) (ci := 12) (v := .int (σ.1 17)) (C := RX12) (T := TX12) (N := 42) hx hb hts in_X12 hown hK hP 1 (sm_gX12 σ α) rfl 26 (by decide) k_0 (fun _ h9 => h9) rfl dX12_state_1 ?_
  exact W.iret (v := (σ.1 17)) hx hb hr (fun t ht hW => ⟨⟨(σ.1 17), σ, rfl, hF, (by unfold sm_B; rw [ht]; exact hP)⟩, hS.F ht⟩) hS.2.2 dX12_state_4
theorem dX12_count_0 : decode cX12_count 0 = .ok (.aload_n 0, 1) := by decide +kernel
theorem dX12_count_1 : decode cX12_count 1 = .ok (.getfield 152, 3) := by decide +kernel
theorem dX12_count_4 : decode cX12_count 4 = .ok (.ifCond .le 7, 3) := by decide +kernel
theorem dX12_count_7 : decode cX12_count 7 = .ok (.iconst 1, 1) := by decide +kernel
theorem dX12_count_8 : decode cX12_count 8 = .ok (.goto 4, 3) := by decide +kernel
theorem dX12_count_11 : decode cX12_count 11 = .ok (.iconst 0, 1) := by decide +kernel
theorem dX12_count_12 : decode cX12_count 12 = .ok (.istore_n 2, 1) := by decide +kernel
theorem dX12_count_13 : decode cX12_count 13 = .ok (.iload_n 1, 1) := by decide +kernel
theorem dX12_count_14 : decode cX12_count 14 = .ok (.tableswitch 159 0 6 #[42, 55, 69, 82, 96, 113, 136], 42) := by decide +kernel
theorem dX12_count_56 : decode cX12_count 56 = .ok (.iload_n 2, 1) := by decide +kernel
theorem dX12_count_57 : decode cX12_count 57 = .ok (.ifCond .eq 10, 3) := by decide +kernel
theorem dX12_count_60 : decode cX12_count 60 = .ok (.aload_n 0, 1) := by decide +kernel
theorem dX12_count_61 : decode cX12_count 61 = .ok (.getfield 262, 3) := by decide +kernel
theorem dX12_count_64 : decode cX12_count 64 = .ok (.goto 4, 3) := by decide +kernel
theorem dX12_count_67 : decode cX12_count 67 = .ok (.lconst 0, 1) := by decide +kernel
theorem dX12_count_68 : decode cX12_count 68 = .ok (.lreturn, 1) := by decide +kernel
theorem dX12_count_69 : decode cX12_count 69 = .ok (.iload_n 2, 1) := by decide +kernel
theorem dX12_count_70 : decode cX12_count 70 = .ok (.ifCond .eq 11, 3) := by decide +kernel
theorem dX12_count_73 : decode cX12_count 73 = .ok (.aload_n 0, 1) := by decide +kernel
theorem dX12_count_74 : decode cX12_count 74 = .ok (.getfield 265, 3) := by decide +kernel
theorem dX12_count_77 : decode cX12_count 77 = .ok (.i2l, 1) := by decide +kernel
theorem dX12_count_78 : decode cX12_count 78 = .ok (.goto 4, 3) := by decide +kernel
theorem dX12_count_81 : decode cX12_count 81 = .ok (.lconst 0, 1) := by decide +kernel
theorem dX12_count_82 : decode cX12_count 82 = .ok (.lreturn, 1) := by decide +kernel
theorem dX12_count_83 : decode cX12_count 83 = .ok (.iload_n 2, 1) := by decide +kernel
theorem dX12_count_84 : decode cX12_count 84 = .ok (.ifCond .eq 10, 3) := by decide +kernel
theorem dX12_count_87 : decode cX12_count 87 = .ok (.aload_n 0, 1) := by decide +kernel
theorem dX12_count_88 : decode cX12_count 88 = .ok (.getfield 271, 3) := by decide +kernel
theorem dX12_count_91 : decode cX12_count 91 = .ok (.goto 4, 3) := by decide +kernel
theorem dX12_count_94 : decode cX12_count 94 = .ok (.lconst 0, 1) := by decide +kernel
theorem dX12_count_95 : decode cX12_count 95 = .ok (.lreturn, 1) := by decide +kernel
theorem dX12_count_96 : decode cX12_count 96 = .ok (.iload_n 2, 1) := by decide +kernel
theorem dX12_count_97 : decode cX12_count 97 = .ok (.ifCond .eq 11, 3) := by decide +kernel
theorem dX12_count_100 : decode cX12_count 100 = .ok (.aload_n 0, 1) := by decide +kernel
theorem dX12_count_101 : decode cX12_count 101 = .ok (.getfield 256, 3) := by decide +kernel
theorem dX12_count_104 : decode cX12_count 104 = .ok (.i2l, 1) := by decide +kernel
theorem dX12_count_105 : decode cX12_count 105 = .ok (.goto 4, 3) := by decide +kernel
theorem dX12_count_108 : decode cX12_count 108 = .ok (.lconst 0, 1) := by decide +kernel
theorem dX12_count_109 : decode cX12_count 109 = .ok (.lreturn, 1) := by decide +kernel
theorem dX12_count_110 : decode cX12_count 110 = .ok (.iload_n 2, 1) := by decide +kernel
theorem dX12_count_111 : decode cX12_count 111 = .ok (.ifCond .eq 14, 3) := by decide +kernel
theorem dX12_count_114 : decode cX12_count 114 = .ok (.aload_n 0, 1) := by decide +kernel
theorem dX12_count_115 : decode cX12_count 115 = .ok (.getfield 259, 3) := by decide +kernel
theorem dX12_count_118 : decode cX12_count 118 = .ok (.ifCond .eq 7, 3) := by decide +kernel
theorem dX12_count_121 : decode cX12_count 121 = .ok (.lconst 1, 1) := by decide +kernel
theorem dX12_count_122 : decode cX12_count 122 = .ok (.goto 4, 3) := by decide +kernel
theorem dX12_count_125 : decode cX12_count 125 = .ok (.lconst 0, 1) := by decide +kernel
theorem dX12_count_126 : decode cX12_count 126 = .ok (.lreturn, 1) := by decide +kernel
theorem dX12_count_127 : decode cX12_count 127 = .ok (.aload_n 0, 1) := by decide +kernel
theorem dX12_count_128 : decode cX12_count 128 = .ok (.getfield 10, 3) := by decide +kernel
theorem dX12_count_131 : decode cX12_count 131 = .ok (.getfield 164, 3) := by decide +kernel
theorem dX12_count_134 : decode cX12_count 134 = .ok (.ifCond .eq 14, 3) := by decide +kernel
theorem dX12_count_137 : decode cX12_count 137 = .ok (.aload_n 0, 1) := by decide +kernel
theorem dX12_count_138 : decode cX12_count 138 = .ok (.getfield 10, 3) := by decide +kernel
theorem dX12_count_141 : decode cX12_count 141 = .ok (.getfield 409, 3) := by decide +kernel
theorem dX12_count_144 : decode cX12_count 144 = .ok (.i2l, 1) := by decide +kernel
theorem dX12_count_145 : decode cX12_count 145 = .ok (.goto 4, 3) := by decide +kernel
theorem dX12_count_148 : decode cX12_count 148 = .ok (.lconst 0, 1) := by decide +kernel
theorem dX12_count_149 : decode cX12_count 149 = .ok (.lreturn, 1) := by decide +kernel
theorem dX12_count_150 : decode cX12_count 150 = .ok (.aload_n 0, 1) := by decide +kernel
theorem dX12_count_151 : decode cX12_count 151 = .ok (.getfield 10, 3) := by decide +kernel
theorem dX12_count_154 : decode cX12_count 154 = .ok (.getfield 164, 3) := by decide +kernel
theorem dX12_count_157 : decode cX12_count 157 = .ok (.ifCond .eq 14, 3) := by decide +kernel
theorem dX12_count_160 : decode cX12_count 160 = .ok (.aload_n 0, 1) := by decide +kernel
theorem dX12_count_161 : decode cX12_count 161 = .ok (.getfield 10, 3) := by decide +kernel
theorem dX12_count_164 : decode cX12_count 164 = .ok (.getfield 158, 3) := by decide +kernel
theorem dX12_count_167 : decode cX12_count 167 = .ok (.i2l, 1) := by decide +kernel
theorem dX12_count_168 : decode cX12_count 168 = .ok (.goto 4, 3) := by decide +kernel
theorem dX12_count_171 : decode cX12_count 171 = .ok (.lconst 0, 1) := by decide +kernel
theorem dX12_count_172 : decode cX12_count 172 = .ok (.lreturn, 1) := by decide +kernel
theorem dX12_count_173 : decode cX12_count 173 = .ok (.ldc2_w 412, 3) := by decide +kernel
theorem dX12_count_176 : decode cX12_count 176 = .ok (.lreturn, 1) := by decide +kernel
def wp_X12_count : List Cond := .code yX12_count cX12_count 3 (some .long) :: (([.fieldLink RX12 262 "SteadyMachineModel" "steps" "J", .fieldLink RX12 265 "SteadyMachineModel" "taken" "I", .fieldLink RX12 271 "SteadyMachineModel" "allOutputs" "J", .fieldLink RX12 256 "SteadyMachineModel" "frames" "I", .fieldLink RX12 259 "SteadyMachineModel" "flies" "Z", .fieldLink RX12 10 "SteadyMachineModel" "image" "LSteadyMachineModel$Image;", .constantLong RX12 412 (-1), .fieldLink RX12 152 "SteadyMachineModel" "state" "I"] ++ wsX110) ++ wsX120)
theorem wq_X12_count : wp_X12_count.all goodWord = true := wa_c rfl (wa_a (wa_a (by decide +kernel) uq_X11) uq_X12)
theorem wt_X12_count : GoodIn lw_tbl wp_X12_count := wm_c (List.mem_of_getElem? (i := 1781) (by decide +kernel)) rfl (wm_a (wm_a (goodIn_r _ [1517, 1518, 1522, 1508, 1514, 1490, 1782, 1516] (by decide +kernel) (by decide +kernel)) ut_X11) ut_X12)
theorem wi_X12_count_X11 : ∀ w ∈ wsX110, w ∈ wp_X12_count := fun w h => List.mem_cons_of_mem _ (List.mem_append_left _ (List.mem_append_right _ h))
theorem wi_X12_count_X12 : ∀ w ∈ wsX120, w ∈ wp_X12_count := fun w h => List.mem_cons_of_mem _ (List.mem_append_right _ h)
set_option maxHeartbeats 4000000 in
set_option maxRecDepth 100000 in
theorem c_X12_count (l : Launch) (D : va_G) (sz t0 : Nat) (σ : sm_S) (α : sm_A) (p1 : Int32) (K : Int64 → sm_S → Prop) (hF : mp_X12_count σ p1 K) : Met l yX12_count wp_X12_count { frames := 0, cells := 0, slots := 0, locals := 0 } (sm_P sm_wM sm_tM 40 D sz t0 σ α [.ref (α.1 1), .int p1]) (va_Ql K (sm_B sm_wM D α) (sm_a α 40 sz)) 0 0 (sm_a α 40 sz) := by
  refine Met.ofW (cc := cX12_count) (maxL := 3) (ret := (some .long)) (by decide) rfl ?_
  intro p e s m args below meth c s₁ B hml hv
  obtain ⟨rfl, hsz, hP, hK, hD0, hE⟩ := hv
  have hx := B.exec
  have hb := B.bytes
  have hr := B.returns
  have hts := atoms_spec (ws := wp_X12_count) B.pre
  have hown : s.vm.findClass RX12 = some m.cls := findClass_of_methodNamed B.named
  have hlocks := B.notSynchronized
  subst hsz
  have hD : sm_D (sm_a α 40 s.heap.size) α 40 := hD0.own
  have hA : ∀ q : Nat, s.heap.size ≤ q → sm_a α 40 s.heap.size q := fun q h => Or.inr h
  generalize hAe : sm_a α 40 s.heap.size = A at hD hA hE ⊢
  have hS : va_S A s.heap s.heap [] := va_S.rf
  have in_X11 : ∀ w ∈ wsX110, w ∈ wp_X12_count := wi_X12_count_X11
  have in_X12 : ∀ w ∈ wsX120, w ∈ wp_X12_count := wi_X12_count_X12
  have k_0 := hts (.fieldLink RX12 262 "SteadyMachineModel" "steps" "J") (by decide +kernel)
  have k_1 := hts (.fieldLink RX12 265 "SteadyMachineModel" "taken" "I") (by decide +kernel)
  have k_2 := hts (.fieldLink RX12 271 "SteadyMachineModel" "allOutputs" "J") (by decide +kernel)
  have k_3 := hts (.fieldLink RX12 256 "SteadyMachineModel" "frames" "I") (by decide +kernel)
  have k_4 := hts (.fieldLink RX12 259 "SteadyMachineModel" "flies" "Z") (by decide +kernel)
  have k_5 := hts (.fieldLink RX12 10 "SteadyMachineModel" "image" "LSteadyMachineModel$Image;") (by decide +kernel)
  have k_6 := hts (.constantLong RX12 412 (-1)) (by decide +kernel)
  have k_7 := hts (.fieldLink RX12 152 "SteadyMachineModel" "state" "I") (by decide +kernel)
  have hl := lv_entry ([.ref (α.1 1), .int p1]) (n := 3) (Nat.le_of_ble_eq_true rfl)
  rw [lg_entry_eq]
  generalize (lg_sl ([.ref (α.1 1), .int p1]) ++ List.replicate (3 - (lg_sl ([.ref (α.1 1), .int p1])).length) Slot.unset).toArray = ls at hl ⊢
  have hl : lv_has ls 3 [(0, .ref (α.1 1)), (1, .int p1)] := hl
  have B172 : ∀ (σ : sm_S) (y0 : Int64), mp_X12_count_172 K σ y0 → sm_J p l e (headSpec wp_X12_count { frames := 0, cells := 0, slots := 0, locals := 0 }).room s m ([.ref (α.1 1), .int p1] : List Value).toArray below meth c (MQ below (va_Ql K (sm_B sm_wM D α) A) ([.ref (α.1 1), .int p1] : List Value).toArray s 0 0 A) D A 3 (sm_wM σ α) 172 [] [.long y0] := by
    intro σ y0 hF H locs ls hP hS hl
    unfold mp_X12_count_172 at hF
    exact W.lret (v := y0) hx hb hr (fun t ht hW => ⟨⟨y0, σ, rfl, hF, (by unfold sm_B; rw [ht]; exact hP)⟩, hS.F ht⟩) hS.2.2 dX12_count_172
  have B149 : ∀ (σ : sm_S) (y0 : Int64), mp_X12_count_149 K σ y0 → sm_J p l e (headSpec wp_X12_count { frames := 0, cells := 0, slots := 0, locals := 0 }).room s m ([.ref (α.1 1), .int p1] : List Value).toArray below meth c (MQ below (va_Ql K (sm_B sm_wM D α) A) ([.ref (α.1 1), .int p1] : List Value).toArray s 0 0 A) D A 3 (sm_wM σ α) 149 [] [.long y0] := by
    intro σ y0 hF H locs ls hP hS hl
    unfold mp_X12_count_149 at hF
    exact W.lret (v := y0) hx hb hr (fun t ht hW => ⟨⟨y0, σ, rfl, hF, (by unfold sm_B; rw [ht]; exact hP)⟩, hS.F ht⟩) hS.2.2 dX12_count_149
  have B126 : ∀ (σ : sm_S) (y0 : Int64), mp_X12_count_126 K σ y0 → sm_J p l e (headSpec wp_X12_count { frames := 0, cells := 0, slots := 0, locals := 0 }).room s m ([.ref (α.1 1), .int p1] : List Value).toArray below meth c (MQ below (va_Ql K (sm_B sm_wM D α) A) ([.ref (α.1 1), .int p1] : List Value).toArray s 0 0 A) D A 3 (sm_wM σ α) 126 [] [.long y0] := by
    intro σ y0 hF H locs ls hP hS hl
    unfold mp_X12_count_126 at hF
    exact W.lret (v := y0) hx hb hr (fun t ht hW => ⟨⟨y0, σ, rfl, hF, (by unfold sm_B; rw [ht]; exact hP)⟩, hS.F ht⟩) hS.2.2 dX12_count_126
  have B125 : ∀ (σ : sm_S), mp_X12_count_125 K σ → sm_J p l e (headSpec wp_X12_count { frames := 0, cells := 0, slots := 0, locals := 0 }).room s m ([.ref (α.1 1), .int p1] : List Value).toArray below meth c (MQ below (va_Ql K (sm_B sm_wM D α) A) ([.ref (α.1 1), .int p1] : List Value).toArray s 0 0 A) D A 3 (sm_wM σ α) 125 [] [] := by
    intro σ hF H locs ls hP hS hl
    unfold mp_X12_count_125 at hF
    refine lv_lconst (v := 0) hx hb dX12_count_125 (by decide) ?_
    exact B126 σ 0 hF H locs ls hP hS (lv_sub hl [] rfl)
  have B109 : ∀ (σ : sm_S) (y0 : Int64), mp_X12_count_109 K σ y0 → sm_J p l e (headSpec wp_X12_count { frames := 0, cells := 0, slots := 0, locals := 0 }).room s m ([.ref (α.1 1), .int p1] : List Value).toArray below meth c (MQ below (va_Ql K (sm_B sm_wM D α) A) ([.ref (α.1 1), .int p1] : List Value).toArray s 0 0 A) D A 3 (sm_wM σ α) 109 [] [.long y0] := by
    intro σ y0 hF H locs ls hP hS hl
    unfold mp_X12_count_109 at hF
    exact W.lret (v := y0) hx hb hr (fun t ht hW => ⟨⟨y0, σ, rfl, hF, (by unfold sm_B; rw [ht]; exact hP)⟩, hS.F ht⟩) hS.2.2 dX12_count_109
  have B95 : ∀ (σ : sm_S) (y0 : Int64), mp_X12_count_95 K σ y0 → sm_J p l e (headSpec wp_X12_count { frames := 0, cells := 0, slots := 0, locals := 0 }).room s m ([.ref (α.1 1), .int p1] : List Value).toArray below meth c (MQ below (va_Ql K (sm_B sm_wM D α) A) ([.ref (α.1 1), .int p1] : List Value).toArray s 0 0 A) D A 3 (sm_wM σ α) 95 [] [.long y0] := by
    intro σ y0 hF H locs ls hP hS hl
    unfold mp_X12_count_95 at hF
    exact W.lret (v := y0) hx hb hr (fun t ht hW => ⟨⟨y0, σ, rfl, hF, (by unfold sm_B; rw [ht]; exact hP)⟩, hS.F ht⟩) hS.2.2 dX12_count_95
  have B82 : ∀ (σ : sm_S) (y0 : Int64), mp_X12_count_82 K σ y0 → sm_J p l e (headSpec wp_X12_count { frames := 0, cells := 0, slots := 0, locals := 0 }).room s m ([.ref (α.1 1), .int p1] : List Value).toArray below meth c (MQ below (va_Ql K (sm_B sm_wM D α) A) ([.ref (α.1 1), .int p1] : List Value).toArray s 0 0 A) D A 3 (sm_wM σ α) 82 [] [.long y0] := by
    intro σ y0 hF H locs ls hP hS hl
    unfold mp_X12_count_82 at hF
    exact W.lret (v := y0) hx hb hr (fun t ht hW => ⟨⟨y0, σ, rfl, hF, (by unfold sm_B; rw [ht]; exact hP)⟩, hS.F ht⟩) hS.2.2 dX12_count_82
  have B68 : ∀ (σ : sm_S) (y0 : Int64), mp_X12_count_68 K σ y0 → sm_J p l e (headSpec wp_X12_count { frames := 0, cells := 0, slots := 0, locals := 0 }).room s m ([.ref (α.1 1), .int p1] : List Value).toArray below meth c (MQ below (va_Ql K (sm_B sm_wM D α) A) ([.ref (α.1 1), .int p1] : List Value).toArray s 0 0 A) D A 3 (sm_wM σ α) 68 [] [.long y0] := by
    intro σ y0 hF H locs ls hP hS hl
    unfold mp_X12_count_68 at hF
    exact W.lret (v := y0) hx hb hr (fun t ht hW => ⟨⟨y0, σ, rfl, hF, (by unfold sm_B; rw [ht]; exact hP)⟩, hS.F ht⟩) hS.2.2 dX12_count_68
  have B12 : ∀ (σ : sm_S) (x1 : Int32) (y0 : Int32), mp_X12_count_12 K σ x1 y0 → sm_J p l e (headSpec wp_X12_count { frames := 0, cells := 0, slots := 0, locals := 0 }).room s m ([.ref (α.1 1), .int p1] : List Value).toArray below meth c (MQ below (va_Ql K (sm_B sm_wM D α) A) ([.ref (α.1 1), .int p1] : List Value).toArray s 0 0 A) D A 3 (sm_wM σ α) 12 [(0, .ref (α.1 1)), (1, .int x1)] [.int y0] := by
    intro σ x1 y0 hF H locs ls hP hS hl
    unfold mp_X12_count_12 at hF
    refine lv_istore_n (lv' := [(2, .int y0), (0, .ref (α.1 1)), (1, .int x1)]) hx hb dX12_count_12 rfl hl (by decide) rfl (fun ls hl => ?_)
    refine lv_iload_n hx hb dX12_count_13 rfl (lv_at hl 2 rfl) ?_
    obtain ⟨gh1, hF⟩ := hF
    by_cases h1 : x1 = 0
    · refine lv_tableIn (tgt := 56) hx hb dX12_count_14 (by rw [h1]; decide) (by rw [h1]; decide) (by rw [h1]; rfl) (by decide) ?_
      clear hF
      have hF := gh1 h1
      clear gh1
      refine lv_iload_n hx hb dX12_count_56 rfl (lv_at hl 0 rfl) ?_
      refine lv_if_eq (tgt := 67) hx hb dX12_count_57 (by decide) (fun h2 => ?_) (fun h2 => ?_)
      · replace hF := hF.1 h2
        refine lv_lconst (v := 0) hx hb dX12_count_67 (by decide) ?_
        exact B68 σ 0 hF H locs ls hP hS (lv_sub hl [] rfl)
      · replace hF := hF.2 h2
        refine lv_aload_n hx hb dX12_count_60 rfl (lv_at hl 1 rfl) ?_
        refine va_get (D := D) (ci := 12) (v := .long (σ.2.1 0)) (C := RX12) (T := TX12) (N := 42) hx hb hts in_X12 hown hK hP 1 (sm_gX12 σ α) rfl 27 (by decide) k_0 (fun _ h9 => h9) rfl dX12_count_61 ?_
        refine lv_goto (tgt := 68) hx hb dX12_count_64 (by decide) ?_
        exact B68 σ (σ.2.1 0) hF H locs ls hP hS (lv_sub hl [] rfl)
    clear gh1
    obtain ⟨gh3, hF⟩ := hF
    by_cases h3 : x1 = 1
    · refine lv_tableIn (tgt := 69) hx hb dX12_count_14 (by rw [h3]; decide) (by rw [h3]; decide) (by rw [h3]; rfl) (by decide) ?_
      clear hF
      have hF := gh3 h3
      clear gh3
      refine lv_iload_n hx hb dX12_count_69 rfl (lv_at hl 0 rfl) ?_
      refine lv_if_eq (tgt := 81) hx hb dX12_count_70 (by decide) (fun h4 => ?_) (fun h4 => ?_)
      · replace hF := hF.1 h4
        refine lv_lconst (v := 0) hx hb dX12_count_81 (by decide) ?_
        exact B82 σ 0 hF H locs ls hP hS (lv_sub hl [] rfl)
      · replace hF := hF.2 h4
        refine lv_aload_n hx hb dX12_count_73 rfl (lv_at hl 1 rfl) ?_
        refine va_get (D := D) (ci := 12) (v := .int (σ.1 18)) (C := RX12) (T := TX12) (N := 42) hx hb hts in_X12 hown hK hP 1 (sm_gX12 σ α) rfl 28 (by decide) k_1 (fun _ h9 => h9) rfl dX12_count_74 ?_
        refine lv_i2l hx hb dX12_count_77 rfl ?_
        refine lv_goto (tgt := 82) hx hb dX12_count_78 (by decide) ?_
        exact B82 σ ((σ.1 18).toInt64) hF H locs ls hP hS (lv_sub hl [] rfl)
    clear gh3
    obtain ⟨gh5, hF⟩ := hF
    by_cases h5 : x1 = 2
    · refine lv_tableIn (tgt := 83) hx hb dX12_count_14 (by rw [h5]; decide) (by rw [h5]; decide) (by rw [h5]; rfl) (by decide) ?_
      clear hF
      have hF := gh5 h5
      clear gh5
      refine lv_iload_n hx hb dX12_count_83 rfl (lv_at hl 0 rfl) ?_
      refine lv_if_eq (tgt := 94) hx hb dX12_count_84 (by decide) (fun h6 => ?_) (fun h6 => ?_)
      · replace hF := hF.1 h6
        refine lv_lconst (v := 0) hx hb dX12_count_94 (by decide) ?_
        exact B95 σ 0 hF H locs ls hP hS (lv_sub hl [] rfl)
      · replace hF := hF.2 h6
        refine lv_aload_n hx hb dX12_count_87 rfl (lv_at hl 1 rfl) ?_
        refine va_get (D := D) (ci := 12) (v := .long (σ.2.1 1)) (C := RX12) (T := TX12) (N := 42) hx hb hts in_X12 hown hK hP 1 (sm_gX12 σ α) rfl 32 (by decide) k_2 (fun _ h9 => h9) rfl dX12_count_88 ?_
        refine lv_goto (tgt := 95) hx hb dX12_count_91 (by decide) ?_
        exact B95 σ (σ.2.1 1) hF H locs ls hP hS (lv_sub hl [] rfl)
    clear gh5
    obtain ⟨gh7, hF⟩ := hF
    by_cases h7 : x1 = 3
    · refine lv_tableIn (tgt := 96) hx hb dX12_count_14 (by rw [h7]; decide) (by rw [h7]; decide) (by rw [h7]; rfl) (by decide) ?_
      clear hF
      have hF := gh7 h7
      clear gh7
      refine lv_iload_n hx hb dX12_count_96 rfl (lv_at hl 0 rfl) ?_
      refine lv_if_eq (tgt := 108) hx hb dX12_count_97 (by decide) (fun h8 => ?_) (fun h8 => ?_)
      · replace hF := hF.1 h8
        refine lv_lconst (v := 0) hx hb dX12_count_108 (by decide) ?_
        exact B109 σ 0 hF H locs ls hP hS (lv_sub hl [] rfl)
      · replace hF := hF.2 h8
        refine lv_aload_n hx hb dX12_count_100 rfl (lv_at hl 1 rfl) ?_
        refine va_get (D := D) (ci := 12) (v := .int (σ.1 14)) (C := RX12) (T := TX12) (N := 42) hx hb hts in_X12 hown hK hP 1 (sm_gX12 σ α) rfl 18 (by decide) k_3 (fun _ h9 => h9) rfl dX12_count_101 ?_
        refine lv_i2l hx hb dX12_count_104 rfl ?_
        refine lv_goto (tgt := 109) hx hb dX12_count_105 (by decide) ?_
        exact B109 σ ((σ.1 14).toInt64) hF H locs ls hP hS (lv_sub hl [] rfl)
    clear gh7
    obtain ⟨gh9, hF⟩ := hF
    by_cases h9 : x1 = 4
    · refine lv_tableIn (tgt := 110) hx hb dX12_count_14 (by rw [h9]; decide) (by rw [h9]; decide) (by rw [h9]; rfl) (by decide) ?_
      clear hF
      have hF := gh9 h9
      clear gh9
      refine lv_iload_n hx hb dX12_count_110 rfl (lv_at hl 0 rfl) ?_
      refine lv_if_eq (tgt := 125) hx hb dX12_count_111 (by decide) (fun h10 => ?_) (fun h10 => ?_)
      · replace hF := hF.1 h10
        exact B125 σ hF H locs ls hP hS (lv_sub hl [] rfl)
      · replace hF := hF.2 h10
        refine lv_aload_n hx hb dX12_count_114 rfl (lv_at hl 1 rfl) ?_
        refine va_get (D := D) (ci := 12) (v := .int (σ.1 15)) (C := RX12) (T := TX12) (N := 42) hx hb hts in_X12 hown hK hP 1 (sm_gX12 σ α) rfl 24 (by decide) k_4 (fun _ h9 => h9) rfl dX12_count_115 ?_
        refine lv_if_eq (tgt := 125) hx hb dX12_count_118 (by decide) (fun h11 => ?_) (fun h11 => ?_)
        · replace hF := hF.1 h11
          exact B125 σ hF H locs ls hP hS (lv_sub hl [] rfl)
        · replace hF := hF.2 h11
          refine lv_lconst (v := 1) hx hb dX12_count_121 (by decide) ?_
          refine lv_goto (tgt := 126) hx hb dX12_count_122 (by decide) ?_
          exact B126 σ 1 hF H locs ls hP hS (lv_sub hl [] rfl)
    clear gh9
    obtain ⟨gh12, hF⟩ := hF
    by_cases h12 : x1 = 5
    · refine lv_tableIn (tgt := 127) hx hb dX12_count_14 (by rw [h12]; decide) (by rw [h12]; decide) (by rw [h12]; rfl) (by decide) ?_
      clear hF
      have hF := gh12 h12
      clear gh12
      refine lv_aload_n hx hb dX12_count_127 rfl (lv_at hl 1 rfl) ?_
      refine va_get (D := D) (ci := 12) (v := .ref (α.1 0)) (C := RX12) (T := TX12) (N := 42) hx hb hts in_X12 hown hK hP 1 (sm_gX12 σ α) rfl 0 (by decide) k_5 (fun _ h9 => h9) rfl dX12_count_128 ?_
      refine va_getN (D := D) (ci := 11) (v := .int (σ.1 4)) (C := RX11) (T := TX11) (N := 28) hx hb hts in_X11 hown hK hP 0 (sm_gX11 σ α) rfl 7 (by decide) (va_Nw.use rfl (hE.1 (.fieldLinkNest "SteadyMachineModel" 164 "SteadyMachineModel$Image" "there" "Z" "SteadyMachineModel") (by decide +kernel))) (fun _ h9 => h9) rfl dX12_count_131 ?_
      refine lv_if_eq (tgt := 148) hx hb dX12_count_134 (by decide) (fun h13 => ?_) (fun h13 => ?_)
      · replace hF := hF.1 h13
        refine lv_lconst (v := 0) hx hb dX12_count_148 (by decide) ?_
        exact B149 σ 0 hF H locs ls hP hS (lv_sub hl [] rfl)
      · replace hF := hF.2 h13
        refine lv_aload_n hx hb dX12_count_137 rfl (lv_at hl 1 rfl) ?_
        refine va_get (D := D) (ci := 12) (v := .ref (α.1 0)) (C := RX12) (T := TX12) (N := 42) hx hb hts in_X12 hown hK hP 1 (sm_gX12 σ α) rfl 0 (by decide) k_5 (fun _ h9 => h9) rfl dX12_count_138 ?_
        refine va_getN (D := D) (ci := 11) (v := .int (σ.1 5)) (C := RX11) (T := TX11) (N := 28) hx hb hts in_X11 hown hK hP 0 (sm_gX11 σ α) rfl 8 (by decide) (va_Nw.use rfl (hE.1 (.fieldLinkNest "SteadyMachineModel" 409 "SteadyMachineModel$Image" "classes" "I" "SteadyMachineModel") (by decide +kernel))) (fun _ h9 => h9) rfl dX12_count_141 ?_
        refine lv_i2l hx hb dX12_count_144 rfl ?_
        refine lv_goto (tgt := 149) hx hb dX12_count_145 (by decide) ?_
        exact B149 σ ((σ.1 5).toInt64) hF H locs ls hP hS (lv_sub hl [] rfl)
    clear gh12
    obtain ⟨gh14, hF⟩ := hF
    by_cases h14 : x1 = 6
    · refine lv_tableIn (tgt := 150) hx hb dX12_count_14 (by rw [h14]; decide) (by rw [h14]; decide) (by rw [h14]; rfl) (by decide) ?_
      clear hF
      have hF := gh14 h14
      clear gh14
      refine lv_aload_n hx hb dX12_count_150 rfl (lv_at hl 1 rfl) ?_
      refine va_get (D := D) (ci := 12) (v := .ref (α.1 0)) (C := RX12) (T := TX12) (N := 42) hx hb hts in_X12 hown hK hP 1 (sm_gX12 σ α) rfl 0 (by decide) k_5 (fun _ h9 => h9) rfl dX12_count_151 ?_
      refine va_getN (D := D) (ci := 11) (v := .int (σ.1 4)) (C := RX11) (T := TX11) (N := 28) hx hb hts in_X11 hown hK hP 0 (sm_gX11 σ α) rfl 7 (by decide) (va_Nw.use rfl (hE.1 (.fieldLinkNest "SteadyMachineModel" 164 "SteadyMachineModel$Image" "there" "Z" "SteadyMachineModel") (by decide +kernel))) (fun _ h9 => h9) rfl dX12_count_154 ?_
      refine lv_if_eq (tgt := 171) hx hb dX12_count_157 (by decide) (fun h15 => ?_) (fun h15 => ?_)
      · replace hF := hF.1 h15
        refine lv_lconst (v := 0) hx hb dX12_count_171 (by decide) ?_
        exact B172 σ 0 hF H locs ls hP hS (lv_sub hl [] rfl)
      · replace hF := hF.2 h15
        refine lv_aload_n hx hb dX12_count_160 rfl (lv_at hl 1 rfl) ?_
        refine va_get (D := D) (ci := 12) (v := .ref (α.1 0)) (C := RX12) (T := TX12) (N := 42) hx hb hts in_X12 hown hK hP 1 (sm_gX12 σ α) rfl 0 (by decide) k_5 (fun _ h9 => h9) rfl dX12_count_161 ?_
        refine va_getN (D := D) (ci := 11) (v := .int (σ.1 6)) (C := RX11) (T := TX11) (N := 28) hx hb hts in_X11 hown hK hP 0 (sm_gX11 σ α) rfl 15 (by decide) (va_Nw.use rfl (hE.1 (.fieldLinkNest "SteadyMachineModel" 158 "SteadyMachineModel$Image" "methods" "I" "SteadyMachineModel") (by decide +kernel))) (fun _ h9 => h9) rfl dX12_count_164 ?_
        refine lv_i2l hx hb dX12_count_167 rfl ?_
        refine lv_goto (tgt := 172) hx hb dX12_count_168 (by decide) ?_
        exact B172 σ ((σ.1 6).toInt64) hF H locs ls hP hS (lv_sub hl [] rfl)
    clear gh14
    refine lv_tableOut (tgt := 173) hx hb dX12_count_14 (by have q0 := lv_neT h1 (show Int32.toInt 0 = 0 by decide); have q1 := lv_neT h3 (show Int32.toInt 1 = 1 by decide); have q2 := lv_neT h5 (show Int32.toInt 2 = 2 by decide); have q3 := lv_neT h7 (show Int32.toInt 3 = 3 by decide); have q4 := lv_neT h9 (show Int32.toInt 4 = 4 by decide); have q5 := lv_neT h12 (show Int32.toInt 5 = 5 by decide); have q6 := lv_neT h14 (show Int32.toInt 6 = 6 by decide); omega) (by decide) ?_
    replace hF := hF h1 h3 h5 h7 h9 h12 h14
    refine lv_ldc2 (v := -1) hx hb hown k_6 dX12_count_173 ?_
    exact W.lret (v := (-1)) hx hb hr (fun t ht hW => ⟨⟨(-1), σ, rfl, hF, (by unfold sm_B; rw [ht]; exact hP)⟩, hS.F ht⟩) hS.2.2 dX12_count_176
  unfold mp_X12_count at hF
  revert hP hS
  generalize hLo : ([] : List Loc) = locs
  suffices h9 : ∀ (H : Heap) (locs : List Loc), va_P D vwCl (sm_wM σ α) H → va_S A s.heap H locs → W p l e (headSpec wp_X12_count { frames := 0, cells := 0, slots := 0, locals := 0 }).room s m ([.ref (α.1 1), .int p1] : List Value).toArray below meth c H locs 0 0 (MQ below (va_Ql K (sm_B sm_wM D α) A) ([.ref (α.1 1), .int p1] : List Value).toArray s 0 0 A) (F0 m 0 ls []) from fun hP hS => h9 s.heap locs hP hS
  intro H locs hP hS
  refine lv_aload_n hx hb dX12_count_0 rfl (lv_at hl 0 rfl) ?_
  refine va_get (D := D) (ci := 12) (v := .int (σ.1 17)) (C := RX12) (T := TX12) (N := 42) hx hb hts in_X12 hown hK hP 1 (sm_gX12 σ α) rfl 26 (by decide) k_7 (fun _ h9 => h9) rfl dX12_count_1 ?_
  refine lv_if_le (tgt := 11) hx hb dX12_count_4 (by decide) (fun h16 => ?_) (fun h16 => ?_)
  · replace hF := hF.1 h16
    refine lv_iconst (v := 0) hx hb dX12_count_11 (by decide) ?_
    exact B12 σ p1 0 hF H locs ls hP hS (lv_sub hl [0, 1] rfl)
  · replace hF := hF.2 h16
    refine lv_iconst (v := 1) hx hb dX12_count_7 (by decide) ?_
    refine lv_goto (tgt := 12) hx hb dX12_count_8 (by decide) ?_
    exact B12 σ p1 1 hF H locs ls hP hS (lv_sub hl [0, 1] rfl)
theorem dX12_out_0 : decode cX12_out 0 = .ok (.aload_n 0, 1) := by decide +kernel
theorem dX12_out_1 : decode cX12_out 1 = .ok (.getfield 152, 3) := by decide +kernel
theorem dX12_out_4 : decode cX12_out 4 = .ok (.ifCond .le 24, 3) := by decide +kernel
theorem dX12_out_7 : decode cX12_out 7 = .ok (.iload_n 1, 1) := by decide +kernel
theorem dX12_out_8 : decode cX12_out 8 = .ok (.ifCond .lt 20, 3) := by decide +kernel
theorem dX12_out_11 : decode cX12_out 11 = .ok (.iload_n 1, 1) := by decide +kernel
theorem dX12_out_12 : decode cX12_out 12 = .ok (.aload_n 0, 1) := by decide +kernel
theorem dX12_out_13 : decode cX12_out 13 = .ok (.getfield 268, 3) := by decide +kernel
theorem dX12_out_16 : decode cX12_out 16 = .ok (.if_icmp .ge 12, 3) := by decide +kernel
theorem dX12_out_19 : decode cX12_out 19 = .ok (.aload_n 0, 1) := by decide +kernel
theorem dX12_out_20 : decode cX12_out 20 = .ok (.getfield 224, 3) := by decide +kernel
theorem dX12_out_23 : decode cX12_out 23 = .ok (.iload_n 1, 1) := by decide +kernel
theorem dX12_out_24 : decode cX12_out 24 = .ok (.iaload, 1) := by decide +kernel
theorem dX12_out_25 : decode cX12_out 25 = .ok (.goto 4, 3) := by decide +kernel
theorem dX12_out_28 : decode cX12_out 28 = .ok (.iconst 0, 1) := by decide +kernel
theorem dX12_out_29 : decode cX12_out 29 = .ok (.ireturn, 1) := by decide +kernel
def wp_X12_out : List Cond := .code yX12_out cX12_out 2 (some .int) :: ([.fieldLink RX12 152 "SteadyMachineModel" "state" "I", .fieldLink RX12 268 "SteadyMachineModel" "outputs" "I", .fieldLink RX12 224 "SteadyMachineModel" "output" "[I"] ++ wsX120)
theorem wq_X12_out : wp_X12_out.all goodWord = true := wa_c rfl (wa_a (by decide +kernel) uq_X12)
theorem wt_X12_out : GoodIn lw_tbl wp_X12_out := wm_c (List.mem_of_getElem? (i := 1786) (by decide +kernel)) rfl (wm_a (goodIn_r _ [1516, 1521, 1523] (by decide +kernel) (by decide +kernel)) ut_X12)
theorem wi_X12_out_X12 : ∀ w ∈ wsX120, w ∈ wp_X12_out := fun w h => List.mem_cons_of_mem _ (List.mem_append_right _ h)
set_option maxHeartbeats 4000000 in
set_option maxRecDepth 100000 in
theorem c_X12_out (l : Launch) (D : va_G) (sz t0 : Nat) (σ : sm_S) (α : sm_A) (p1 : Int32) (K : Int32 → sm_S → Prop) (hF : mp_X12_out σ p1 K) : Met l yX12_out wp_X12_out { frames := 0, cells := 0, slots := 0, locals := 0 } (sm_P sm_wM sm_tM 40 D sz t0 σ α [.ref (α.1 1), .int p1]) (va_Qi K (sm_B sm_wM D α) (sm_a α 40 sz)) 0 0 (sm_a α 40 sz) := by
  refine Met.ofW (cc := cX12_out) (maxL := 2) (ret := (some .int)) (by decide) rfl ?_
  intro p e s m args below meth c s₁ B hml hv
  obtain ⟨rfl, hsz, hP, hK, hD0, hE⟩ := hv
  have hx := B.exec
  have hb := B.bytes
  have hr := B.returns
  have hts := atoms_spec (ws := wp_X12_out) B.pre
  have hown : s.vm.findClass RX12 = some m.cls := findClass_of_methodNamed B.named
  have hlocks := B.notSynchronized
  subst hsz
  have hD : sm_D (sm_a α 40 s.heap.size) α 40 := hD0.own
  have hA : ∀ q : Nat, s.heap.size ≤ q → sm_a α 40 s.heap.size q := fun q h => Or.inr h
  generalize hAe : sm_a α 40 s.heap.size = A at hD hA hE ⊢
  have hS : va_S A s.heap s.heap [] := va_S.rf
  have in_X12 : ∀ w ∈ wsX120, w ∈ wp_X12_out := wi_X12_out_X12
  have k_0 := hts (.fieldLink RX12 152 "SteadyMachineModel" "state" "I") (by decide +kernel)
  have k_1 := hts (.fieldLink RX12 268 "SteadyMachineModel" "outputs" "I") (by decide +kernel)
  have k_2 := hts (.fieldLink RX12 224 "SteadyMachineModel" "output" "[I") (by decide +kernel)
  have hl := lv_entry ([.ref (α.1 1), .int p1]) (n := 2) (Nat.le_of_ble_eq_true rfl)
  rw [lg_entry_eq]
  generalize (lg_sl ([.ref (α.1 1), .int p1]) ++ List.replicate (2 - (lg_sl ([.ref (α.1 1), .int p1])).length) Slot.unset).toArray = ls at hl ⊢
  have hl : lv_has ls 2 [(0, .ref (α.1 1)), (1, .int p1)] := hl
  have B29 : ∀ (σ : sm_S) (y0 : Int32), mp_X12_out_29 K σ y0 → sm_J p l e (headSpec wp_X12_out { frames := 0, cells := 0, slots := 0, locals := 0 }).room s m ([.ref (α.1 1), .int p1] : List Value).toArray below meth c (MQ below (va_Qi K (sm_B sm_wM D α) A) ([.ref (α.1 1), .int p1] : List Value).toArray s 0 0 A) D A 2 (sm_wM σ α) 29 [] [.int y0] := by
    intro σ y0 hF H locs ls hP hS hl
    unfold mp_X12_out_29 at hF
    exact W.iret (v := y0) hx hb hr (fun t ht hW => ⟨⟨y0, σ, rfl, hF, (by unfold sm_B; rw [ht]; exact hP)⟩, hS.F ht⟩) hS.2.2 dX12_out_29
  have B28 : ∀ (σ : sm_S), mp_X12_out_28 K σ → sm_J p l e (headSpec wp_X12_out { frames := 0, cells := 0, slots := 0, locals := 0 }).room s m ([.ref (α.1 1), .int p1] : List Value).toArray below meth c (MQ below (va_Qi K (sm_B sm_wM D α) A) ([.ref (α.1 1), .int p1] : List Value).toArray s 0 0 A) D A 2 (sm_wM σ α) 28 [] [] := by
    intro σ hF H locs ls hP hS hl
    unfold mp_X12_out_28 at hF
    refine lv_iconst (v := 0) hx hb dX12_out_28 (by decide) ?_
    exact B29 σ 0 hF H locs ls hP hS (lv_sub hl [] rfl)
  unfold mp_X12_out at hF
  revert hP hS
  generalize hLo : ([] : List Loc) = locs
  suffices h9 : ∀ (H : Heap) (locs : List Loc), va_P D vwCl (sm_wM σ α) H → va_S A s.heap H locs → W p l e (headSpec wp_X12_out { frames := 0, cells := 0, slots := 0, locals := 0 }).room s m ([.ref (α.1 1), .int p1] : List Value).toArray below meth c H locs 0 0 (MQ below (va_Qi K (sm_B sm_wM D α) A) ([.ref (α.1 1), .int p1] : List Value).toArray s 0 0 A) (F0 m 0 ls []) from fun hP hS => h9 s.heap locs hP hS
  intro H locs hP hS
  refine lv_aload_n hx hb dX12_out_0 rfl (lv_at hl 0 rfl) ?_
  refine va_get (D := D) (ci := 12) (v := .int (σ.1 17)) (C := RX12) (T := TX12) (N := 42) hx hb hts in_X12 hown hK hP 1 (sm_gX12 σ α) rfl 26 (by decide) k_0 (fun _ h9 => h9) rfl dX12_out_1 ?_
  refine lv_if_le (tgt := 28) hx hb dX12_out_4 (by decide) (fun h1 => ?_) (fun h1 => ?_)
  · replace hF := hF.1 h1
    exact B28 σ hF H locs ls hP hS (lv_sub hl [] rfl)
  · replace hF := hF.2 h1
    refine lv_iload_n hx hb dX12_out_7 rfl (lv_at hl 1 rfl) ?_
    refine lv_if_lt (tgt := 28) hx hb dX12_out_8 (by decide) (fun h2 => ?_) (fun h2 => ?_)
    · replace hF := hF.1 h2
      exact B28 σ hF H locs ls hP hS (lv_sub hl [] rfl)
    · replace hF := hF.2 h2
      refine lv_iload_n hx hb dX12_out_11 rfl (lv_at hl 1 rfl) ?_
      refine lv_aload_n hx hb dX12_out_12 rfl (lv_at hl 0 rfl) ?_
      refine va_get (D := D) (ci := 12) (v := .int (σ.1 20)) (C := RX12) (T := TX12) (N := 42) hx hb hts in_X12 hown hK hP 1 (sm_gX12 σ α) rfl 31 (by decide) k_1 (fun _ h9 => h9) rfl dX12_out_13 ?_
      refine lv_icmp_ge (tgt := 28) hx hb dX12_out_16 (by decide) (fun h3 => ?_) (fun h3 => ?_)
      · replace hF := hF.1 h3
        exact B28 σ hF H locs ls hP hS (lv_sub hl [] rfl)
      · replace hF := hF.2 h3
        refine lv_aload_n hx hb dX12_out_19 rfl (lv_at hl 0 rfl) ?_
        refine va_get (D := D) (ci := 12) (v := .ref (α.1 39)) (C := RX12) (T := TX12) (N := 42) hx hb hts in_X12 hown hK hP 1 (sm_gX12 σ α) rfl 33 (by decide) k_2 (fun _ h9 => h9) rfl dX12_out_20 ?_
        refine lv_iload_n hx hb dX12_out_23 rfl (lv_at hl 1 rfl) ?_
        obtain ⟨h4, hF⟩ := hF
        refine va_iald (n := (σ.2.2.1 39)) (f := (σ.2.2.2.1 39)) hx hb hK hP 39 37 (sm_aM39 σ α) (sm_yM39 α) h4 dX12_out_24 ?_
        refine lv_goto (tgt := 29) hx hb dX12_out_25 (by decide) ?_
        exact B29 σ ((σ.2.2.2.1 39) p1.toNatClampNeg) hF H locs ls hP hS (lv_sub hl [] rfl)
theorem dX12_frame_0 : decode cX12_frame 0 = .ok (.aload_n 0, 1) := by decide +kernel
theorem dX12_frame_1 : decode cX12_frame 1 = .ok (.getfield 152, 3) := by decide +kernel
theorem dX12_frame_4 : decode cX12_frame 4 = .ok (.ifCond .eq 15, 3) := by decide +kernel
theorem dX12_frame_7 : decode cX12_frame 7 = .ok (.iload_n 1, 1) := by decide +kernel
theorem dX12_frame_8 : decode cX12_frame 8 = .ok (.ifCond .lt 11, 3) := by decide +kernel
theorem dX12_frame_11 : decode cX12_frame 11 = .ok (.iload_n 1, 1) := by decide +kernel
theorem dX12_frame_12 : decode cX12_frame 12 = .ok (.aload_n 0, 1) := by decide +kernel
theorem dX12_frame_13 : decode cX12_frame 13 = .ok (.getfield 256, 3) := by decide +kernel
theorem dX12_frame_16 : decode cX12_frame 16 = .ok (.if_icmp .lt 5, 3) := by decide +kernel
theorem dX12_frame_19 : decode cX12_frame 19 = .ok (.iconst (-1), 1) := by decide +kernel
theorem dX12_frame_20 : decode cX12_frame 20 = .ok (.ireturn, 1) := by decide +kernel
theorem dX12_frame_21 : decode cX12_frame 21 = .ok (.aload_n 0, 1) := by decide +kernel
theorem dX12_frame_22 : decode cX12_frame 22 = .ok (.getfield 256, 3) := by decide +kernel
theorem dX12_frame_25 : decode cX12_frame 25 = .ok (.iconst 1, 1) := by decide +kernel
theorem dX12_frame_26 : decode cX12_frame 26 = .ok (.isub, 1) := by decide +kernel
theorem dX12_frame_27 : decode cX12_frame 27 = .ok (.iload_n 1, 1) := by decide +kernel
theorem dX12_frame_28 : decode cX12_frame 28 = .ok (.isub, 1) := by decide +kernel
theorem dX12_frame_29 : decode cX12_frame 29 = .ok (.istore_n 3, 1) := by decide +kernel
theorem dX12_frame_30 : decode cX12_frame 30 = .ok (.iload_n 2, 1) := by decide +kernel
theorem dX12_frame_31 : decode cX12_frame 31 = .ok (.ifCond .ne 12, 3) := by decide +kernel
theorem dX12_frame_34 : decode cX12_frame 34 = .ok (.aload_n 0, 1) := by decide +kernel
theorem dX12_frame_35 : decode cX12_frame 35 = .ok (.getfield 205, 3) := by decide +kernel
theorem dX12_frame_38 : decode cX12_frame 38 = .ok (.iload_n 3, 1) := by decide +kernel
theorem dX12_frame_39 : decode cX12_frame 39 = .ok (.iaload, 1) := by decide +kernel
theorem dX12_frame_40 : decode cX12_frame 40 = .ok (.goto 54, 3) := by decide +kernel
theorem dX12_frame_43 : decode cX12_frame 43 = .ok (.iload_n 2, 1) := by decide +kernel
theorem dX12_frame_44 : decode cX12_frame 44 = .ok (.iconst 1, 1) := by decide +kernel
theorem dX12_frame_45 : decode cX12_frame 45 = .ok (.if_icmp .ne 12, 3) := by decide +kernel
theorem dX12_frame_48 : decode cX12_frame 48 = .ok (.aload_n 0, 1) := by decide +kernel
theorem dX12_frame_49 : decode cX12_frame 49 = .ok (.getfield 208, 3) := by decide +kernel
theorem dX12_frame_52 : decode cX12_frame 52 = .ok (.iload_n 3, 1) := by decide +kernel
theorem dX12_frame_53 : decode cX12_frame 53 = .ok (.iaload, 1) := by decide +kernel
theorem dX12_frame_54 : decode cX12_frame 54 = .ok (.goto 40, 3) := by decide +kernel
theorem dX12_frame_57 : decode cX12_frame 57 = .ok (.iload_n 2, 1) := by decide +kernel
theorem dX12_frame_58 : decode cX12_frame 58 = .ok (.iconst 2, 1) := by decide +kernel
theorem dX12_frame_59 : decode cX12_frame 59 = .ok (.if_icmp .ne 12, 3) := by decide +kernel
theorem dX12_frame_62 : decode cX12_frame 62 = .ok (.aload_n 0, 1) := by decide +kernel
theorem dX12_frame_63 : decode cX12_frame 63 = .ok (.getfield 211, 3) := by decide +kernel
theorem dX12_frame_66 : decode cX12_frame 66 = .ok (.iload_n 3, 1) := by decide +kernel
theorem dX12_frame_67 : decode cX12_frame 67 = .ok (.iaload, 1) := by decide +kernel
theorem dX12_frame_68 : decode cX12_frame 68 = .ok (.goto 26, 3) := by decide +kernel
theorem dX12_frame_71 : decode cX12_frame 71 = .ok (.iload_n 2, 1) := by decide +kernel
theorem dX12_frame_72 : decode cX12_frame 72 = .ok (.iconst 3, 1) := by decide +kernel
theorem dX12_frame_73 : decode cX12_frame 73 = .ok (.if_icmp .ne 20, 3) := by decide +kernel
theorem dX12_frame_76 : decode cX12_frame 76 = .ok (.aload_n 0, 1) := by decide +kernel
theorem dX12_frame_77 : decode cX12_frame 77 = .ok (.getfield 10, 3) := by decide +kernel
theorem dX12_frame_80 : decode cX12_frame 80 = .ok (.getfield 27, 3) := by decide +kernel
theorem dX12_frame_83 : decode cX12_frame 83 = .ok (.aload_n 0, 1) := by decide +kernel
theorem dX12_frame_84 : decode cX12_frame 84 = .ok (.getfield 205, 3) := by decide +kernel
theorem dX12_frame_87 : decode cX12_frame 87 = .ok (.iload_n 3, 1) := by decide +kernel
theorem dX12_frame_88 : decode cX12_frame 88 = .ok (.iaload, 1) := by decide +kernel
theorem dX12_frame_89 : decode cX12_frame 89 = .ok (.iaload, 1) := by decide +kernel
theorem dX12_frame_90 : decode cX12_frame 90 = .ok (.goto 4, 3) := by decide +kernel
theorem dX12_frame_93 : decode cX12_frame 93 = .ok (.iconst (-1), 1) := by decide +kernel
theorem dX12_frame_94 : decode cX12_frame 94 = .ok (.ireturn, 1) := by decide +kernel
def wp_X12_frame : List Cond := .code yX12_frame cX12_frame 4 (some .int) :: (([.fieldLink RX12 152 "SteadyMachineModel" "state" "I", .fieldLink RX12 256 "SteadyMachineModel" "frames" "I", .fieldLink RX12 10 "SteadyMachineModel" "image" "LSteadyMachineModel$Image;", .fieldLink RX12 205 "SteadyMachineModel" "methodOf" "[I", .fieldLink RX12 211 "SteadyMachineModel" "highOf" "[I", .fieldLink RX12 208 "SteadyMachineModel" "placeOf" "[I"] ++ wsX110) ++ wsX120)
theorem wq_X12_frame : wp_X12_frame.all goodWord = true := wa_c rfl (wa_a (wa_a (by decide +kernel) uq_X11) uq_X12)
theorem wt_X12_frame : GoodIn lw_tbl wp_X12_frame := wm_c (List.mem_of_getElem? (i := 1790) (by decide +kernel)) rfl (wm_a (wm_a (goodIn_r _ [1516, 1508, 1490, 1509, 1511, 1510] (by decide +kernel) (by decide +kernel)) ut_X11) ut_X12)
theorem wi_X12_frame_X11 : ∀ w ∈ wsX110, w ∈ wp_X12_frame := fun w h => List.mem_cons_of_mem _ (List.mem_append_left _ (List.mem_append_right _ h))
theorem wi_X12_frame_X12 : ∀ w ∈ wsX120, w ∈ wp_X12_frame := fun w h => List.mem_cons_of_mem _ (List.mem_append_right _ h)
set_option maxHeartbeats 4000000 in
set_option maxRecDepth 100000 in
theorem c_X12_frame (l : Launch) (D : va_G) (sz t0 : Nat) (σ : sm_S) (α : sm_A) (p1 : Int32) (p2 : Int32) (K : Int32 → sm_S → Prop) (hF : mp_X12_frame σ p1 p2 K) : Met l yX12_frame wp_X12_frame { frames := 0, cells := 0, slots := 0, locals := 0 } (sm_P sm_wM sm_tM 40 D sz t0 σ α [.ref (α.1 1), .int p1, .int p2]) (va_Qi K (sm_B sm_wM D α) (sm_a α 40 sz)) 0 0 (sm_a α 40 sz) := by
  refine Met.ofW (cc := cX12_frame) (maxL := 4) (ret := (some .int)) (by decide) rfl ?_
  intro p e s m args below meth c s₁ B hml hv
  obtain ⟨rfl, hsz, hP, hK, hD0, hE⟩ := hv
  have hx := B.exec
  have hb := B.bytes
  have hr := B.returns
  have hts := atoms_spec (ws := wp_X12_frame) B.pre
  have hown : s.vm.findClass RX12 = some m.cls := findClass_of_methodNamed B.named
  have hlocks := B.notSynchronized
  subst hsz
  have hD : sm_D (sm_a α 40 s.heap.size) α 40 := hD0.own
  have hA : ∀ q : Nat, s.heap.size ≤ q → sm_a α 40 s.heap.size q := fun q h => Or.inr h
  generalize hAe : sm_a α 40 s.heap.size = A at hD hA hE ⊢
  have hS : va_S A s.heap s.heap [] := va_S.rf
  have in_X11 : ∀ w ∈ wsX110, w ∈ wp_X12_frame := wi_X12_frame_X11
  have in_X12 : ∀ w ∈ wsX120, w ∈ wp_X12_frame := wi_X12_frame_X12
  have k_0 := hts (.fieldLink RX12 152 "SteadyMachineModel" "state" "I") (by decide +kernel)
  have k_1 := hts (.fieldLink RX12 256 "SteadyMachineModel" "frames" "I") (by decide +kernel)
  have k_2 := hts (.fieldLink RX12 10 "SteadyMachineModel" "image" "LSteadyMachineModel$Image;") (by decide +kernel)
  have k_3 := hts (.fieldLink RX12 205 "SteadyMachineModel" "methodOf" "[I") (by decide +kernel)
  have k_4 := hts (.fieldLink RX12 211 "SteadyMachineModel" "highOf" "[I") (by decide +kernel)
  have k_5 := hts (.fieldLink RX12 208 "SteadyMachineModel" "placeOf" "[I") (by decide +kernel)
  have hl := lv_entry ([.ref (α.1 1), .int p1, .int p2]) (n := 4) (Nat.le_of_ble_eq_true rfl)
  rw [lg_entry_eq]
  generalize (lg_sl ([.ref (α.1 1), .int p1, .int p2]) ++ List.replicate (4 - (lg_sl ([.ref (α.1 1), .int p1, .int p2])).length) Slot.unset).toArray = ls at hl ⊢
  have hl : lv_has ls 4 [(0, .ref (α.1 1)), (1, .int p1), (2, .int p2)] := hl
  have B94 : ∀ (σ : sm_S) (y0 : Int32), mp_X12_frame_94 K σ y0 → sm_J p l e (headSpec wp_X12_frame { frames := 0, cells := 0, slots := 0, locals := 0 }).room s m ([.ref (α.1 1), .int p1, .int p2] : List Value).toArray below meth c (MQ below (va_Qi K (sm_B sm_wM D α) A) ([.ref (α.1 1), .int p1, .int p2] : List Value).toArray s 0 0 A) D A 4 (sm_wM σ α) 94 [] [.int y0] := by
    intro σ y0 hF H locs ls hP hS hl
    unfold mp_X12_frame_94 at hF
    exact W.iret (v := y0) hx hb hr (fun t ht hW => ⟨⟨y0, σ, rfl, hF, (by unfold sm_B; rw [ht]; exact hP)⟩, hS.F ht⟩) hS.2.2 dX12_frame_94
  have B19 : ∀ (σ : sm_S), mp_X12_frame_19 K σ → sm_J p l e (headSpec wp_X12_frame { frames := 0, cells := 0, slots := 0, locals := 0 }).room s m ([.ref (α.1 1), .int p1, .int p2] : List Value).toArray below meth c (MQ below (va_Qi K (sm_B sm_wM D α) A) ([.ref (α.1 1), .int p1, .int p2] : List Value).toArray s 0 0 A) D A 4 (sm_wM σ α) 19 [] [] := by
    intro σ hF H locs ls hP hS hl
    unfold mp_X12_frame_19 at hF
    refine lv_iconst (v := -1) hx hb dX12_frame_19 (by decide) ?_
    exact W.iret (v := (-1)) hx hb hr (fun t ht hW => ⟨⟨(-1), σ, rfl, hF, (by unfold sm_B; rw [ht]; exact hP)⟩, hS.F ht⟩) hS.2.2 dX12_frame_20
  unfold mp_X12_frame at hF
  revert hP hS
  generalize hLo : ([] : List Loc) = locs
  suffices h9 : ∀ (H : Heap) (locs : List Loc), va_P D vwCl (sm_wM σ α) H → va_S A s.heap H locs → W p l e (headSpec wp_X12_frame { frames := 0, cells := 0, slots := 0, locals := 0 }).room s m ([.ref (α.1 1), .int p1, .int p2] : List Value).toArray below meth c H locs 0 0 (MQ below (va_Qi K (sm_B sm_wM D α) A) ([.ref (α.1 1), .int p1, .int p2] : List Value).toArray s 0 0 A) (F0 m 0 ls []) from fun hP hS => h9 s.heap locs hP hS
  intro H locs hP hS
  refine lv_aload_n hx hb dX12_frame_0 rfl (lv_at hl 0 rfl) ?_
  refine va_get (D := D) (ci := 12) (v := .int (σ.1 17)) (C := RX12) (T := TX12) (N := 42) hx hb hts in_X12 hown hK hP 1 (sm_gX12 σ α) rfl 26 (by decide) k_0 (fun _ h9 => h9) rfl dX12_frame_1 ?_
  refine lv_if_eq (tgt := 19) hx hb dX12_frame_4 (by decide) (fun h1 => ?_) (fun h1 => ?_)
  · replace hF := hF.1 h1
    exact B19 σ hF H locs ls hP hS (lv_sub hl [] rfl)
  · replace hF := hF.2 h1
    refine lv_iload_n hx hb dX12_frame_7 rfl (lv_at hl 1 rfl) ?_
    refine lv_if_lt (tgt := 19) hx hb dX12_frame_8 (by decide) (fun h2 => ?_) (fun h2 => ?_)
    · replace hF := hF.1 h2
      exact B19 σ hF H locs ls hP hS (lv_sub hl [] rfl)
    · replace hF := hF.2 h2
      refine lv_iload_n hx hb dX12_frame_11 rfl (lv_at hl 1 rfl) ?_
      refine lv_aload_n hx hb dX12_frame_12 rfl (lv_at hl 0 rfl) ?_
      refine va_get (D := D) (ci := 12) (v := .int (σ.1 14)) (C := RX12) (T := TX12) (N := 42) hx hb hts in_X12 hown hK hP 1 (sm_gX12 σ α) rfl 18 (by decide) k_1 (fun _ h9 => h9) rfl dX12_frame_13 ?_
      refine lv_icmp_lt (tgt := 21) hx hb dX12_frame_16 (by decide) (fun h3 => ?_) (fun h3 => ?_)
      · replace hF := hF.1 h3
        refine lv_aload_n hx hb dX12_frame_21 rfl (lv_at hl 0 rfl) ?_
        refine va_get (D := D) (ci := 12) (v := .int (σ.1 14)) (C := RX12) (T := TX12) (N := 42) hx hb hts in_X12 hown hK hP 1 (sm_gX12 σ α) rfl 18 (by decide) k_1 (fun _ h9 => h9) rfl dX12_frame_22 ?_
        refine lv_iconst (v := 1) hx hb dX12_frame_25 (by decide) ?_
        refine lv_isub hx hb dX12_frame_26 ?_
        refine lv_iload_n hx hb dX12_frame_27 rfl (lv_at hl 1 rfl) ?_
        refine lv_isub hx hb dX12_frame_28 ?_
        refine lv_topi (fun v4 ev4 => ?_)
        replace hF := hF v4 ev4
        refine lv_istore_n (lv' := [(3, .int v4), (0, .ref (α.1 1)), (1, .int p1), (2, .int p2)]) hx hb dX12_frame_29 rfl hl (by decide) rfl (fun ls hl => ?_)
        refine lv_iload_n hx hb dX12_frame_30 rfl (lv_at hl 3 rfl) ?_
        refine lv_if_ne (tgt := 43) hx hb dX12_frame_31 (by decide) (fun h5 => ?_) (fun h5 => ?_)
        · replace hF := hF.1 h5
          refine lv_iload_n hx hb dX12_frame_43 rfl (lv_at hl 3 rfl) ?_
          refine lv_iconst (v := 1) hx hb dX12_frame_44 (by decide) ?_
          refine lv_icmp_ne (tgt := 57) hx hb dX12_frame_45 (by decide) (fun h6 => ?_) (fun h6 => ?_)
          · replace hF := hF.1 h6
            refine lv_iload_n hx hb dX12_frame_57 rfl (lv_at hl 3 rfl) ?_
            refine lv_iconst (v := 2) hx hb dX12_frame_58 (by decide) ?_
            refine lv_icmp_ne (tgt := 71) hx hb dX12_frame_59 (by decide) (fun h7 => ?_) (fun h7 => ?_)
            · replace hF := hF.1 h7
              refine lv_iload_n hx hb dX12_frame_71 rfl (lv_at hl 3 rfl) ?_
              refine lv_iconst (v := 3) hx hb dX12_frame_72 (by decide) ?_
              refine lv_icmp_ne (tgt := 93) hx hb dX12_frame_73 (by decide) (fun h8 => ?_) (fun h8 => ?_)
              · replace hF := hF.1 h8
                refine lv_iconst (v := -1) hx hb dX12_frame_93 (by decide) ?_
                exact B94 σ (-1) hF H locs ls hP hS (lv_sub hl [] rfl)
              · replace hF := hF.2 h8
                refine lv_aload_n hx hb dX12_frame_76 rfl (lv_at hl 1 rfl) ?_
                refine va_get (D := D) (ci := 12) (v := .ref (α.1 0)) (C := RX12) (T := TX12) (N := 42) hx hb hts in_X12 hown hK hP 1 (sm_gX12 σ α) rfl 0 (by decide) k_2 (fun _ h9 => h9) rfl dX12_frame_77 ?_
                refine va_getN (D := D) (ci := 11) (v := .ref (α.1 15)) (C := RX11) (T := TX11) (N := 28) hx hb hts in_X11 hown hK hP 0 (sm_gX11 σ α) rfl 20 (by decide) (va_Nw.use rfl (hE.1 (.fieldLinkNest "SteadyMachineModel" 27 "SteadyMachineModel$Image" "locals" "[I" "SteadyMachineModel") (by decide +kernel))) (fun _ h9 => h9) rfl dX12_frame_80 ?_
                refine lv_aload_n hx hb dX12_frame_83 rfl (lv_at hl 1 rfl) ?_
                refine va_get (D := D) (ci := 12) (v := .ref (α.1 33)) (C := RX12) (T := TX12) (N := 42) hx hb hts in_X12 hown hK hP 1 (sm_gX12 σ α) rfl 19 (by decide) k_3 (fun _ h9 => h9) rfl dX12_frame_84 ?_
                refine lv_iload_n hx hb dX12_frame_87 rfl (lv_at hl 0 rfl) ?_
                obtain ⟨h9, hF⟩ := hF
                refine va_iald (n := (σ.2.2.1 33)) (f := (σ.2.2.2.1 33)) hx hb hK hP 33 31 (sm_aM33 σ α) (sm_yM33 α) h9 dX12_frame_88 ?_
                obtain ⟨h10, hF⟩ := hF
                refine va_iald (n := (σ.2.2.1 15)) (f := (σ.2.2.2.1 15)) hx hb hK hP 15 13 (sm_aM15 σ α) (sm_yM15 α) h10 dX12_frame_89 ?_
                refine lv_goto (tgt := 94) hx hb dX12_frame_90 (by decide) ?_
                exact B94 σ ((σ.2.2.2.1 15) ((σ.2.2.2.1 33) v4.toNatClampNeg).toNatClampNeg) hF H locs ls hP hS (lv_sub hl [] rfl)
            · replace hF := hF.2 h7
              refine lv_aload_n hx hb dX12_frame_62 rfl (lv_at hl 1 rfl) ?_
              refine va_get (D := D) (ci := 12) (v := .ref (α.1 35)) (C := RX12) (T := TX12) (N := 42) hx hb hts in_X12 hown hK hP 1 (sm_gX12 σ α) rfl 21 (by decide) k_4 (fun _ h9 => h9) rfl dX12_frame_63 ?_
              refine lv_iload_n hx hb dX12_frame_66 rfl (lv_at hl 0 rfl) ?_
              obtain ⟨h11, hF⟩ := hF
              refine va_iald (n := (σ.2.2.1 35)) (f := (σ.2.2.2.1 35)) hx hb hK hP 35 33 (sm_aM35 σ α) (sm_yM35 α) h11 dX12_frame_67 ?_
              refine lv_goto (tgt := 94) hx hb dX12_frame_68 (by decide) ?_
              exact B94 σ ((σ.2.2.2.1 35) v4.toNatClampNeg) hF H locs ls hP hS (lv_sub hl [] rfl)
          · replace hF := hF.2 h6
            refine lv_aload_n hx hb dX12_frame_48 rfl (lv_at hl 1 rfl) ?_
            refine va_get (D := D) (ci := 12) (v := .ref (α.1 34)) (C := RX12) (T := TX12) (N := 42) hx hb hts in_X12 hown hK hP 1 (sm_gX12 σ α) rfl 20 (by decide) k_5 (fun _ h9 => h9) rfl dX12_frame_49 ?_
            refine lv_iload_n hx hb dX12_frame_52 rfl (lv_at hl 0 rfl) ?_
            obtain ⟨h12, hF⟩ := hF
            refine va_iald (n := (σ.2.2.1 34)) (f := (σ.2.2.2.1 34)) hx hb hK hP 34 32 (sm_aM34 σ α) (sm_yM34 α) h12 dX12_frame_53 ?_
            refine lv_goto (tgt := 94) hx hb dX12_frame_54 (by decide) ?_
            exact B94 σ ((σ.2.2.2.1 34) v4.toNatClampNeg) hF H locs ls hP hS (lv_sub hl [] rfl)
        · replace hF := hF.2 h5
          refine lv_aload_n hx hb dX12_frame_34 rfl (lv_at hl 1 rfl) ?_
          refine va_get (D := D) (ci := 12) (v := .ref (α.1 33)) (C := RX12) (T := TX12) (N := 42) hx hb hts in_X12 hown hK hP 1 (sm_gX12 σ α) rfl 19 (by decide) k_3 (fun _ h9 => h9) rfl dX12_frame_35 ?_
          refine lv_iload_n hx hb dX12_frame_38 rfl (lv_at hl 0 rfl) ?_
          obtain ⟨h13, hF⟩ := hF
          refine va_iald (n := (σ.2.2.1 33)) (f := (σ.2.2.2.1 33)) hx hb hK hP 33 31 (sm_aM33 σ α) (sm_yM33 α) h13 dX12_frame_39 ?_
          refine lv_goto (tgt := 94) hx hb dX12_frame_40 (by decide) ?_
          exact B94 σ ((σ.2.2.2.1 33) v4.toNatClampNeg) hF H locs ls hP hS (lv_sub hl [] rfl)
      · replace hF := hF.2 h3
        exact B19 σ hF H locs ls hP hS (lv_sub hl [] rfl)
theorem dX12_placeOfValue_0 : decode cX12_placeOfValue 0 = .ok (.aload_n 0, 1) := by decide +kernel
theorem dX12_placeOfValue_1 : decode cX12_placeOfValue 1 = .ok (.getfield 152, 3) := by decide +kernel
theorem dX12_placeOfValue_4 : decode cX12_placeOfValue 4 = .ok (.ifCond .eq 19, 3) := by decide +kernel
theorem dX12_placeOfValue_7 : decode cX12_placeOfValue 7 = .ok (.iload_n 1, 1) := by decide +kernel
theorem dX12_placeOfValue_8 : decode cX12_placeOfValue 8 = .ok (.ifCond .lt 15, 3) := by decide +kernel
theorem dX12_placeOfValue_11 : decode cX12_placeOfValue 11 = .ok (.iload_n 1, 1) := by decide +kernel
theorem dX12_placeOfValue_12 : decode cX12_placeOfValue 12 = .ok (.aload_n 0, 1) := by decide +kernel
theorem dX12_placeOfValue_13 : decode cX12_placeOfValue 13 = .ok (.getfield 256, 3) := by decide +kernel
theorem dX12_placeOfValue_16 : decode cX12_placeOfValue 16 = .ok (.if_icmp .ge 7, 3) := by decide +kernel
theorem dX12_placeOfValue_19 : decode cX12_placeOfValue 19 = .ok (.iload_n 2, 1) := by decide +kernel
theorem dX12_placeOfValue_20 : decode cX12_placeOfValue 20 = .ok (.ifCond .ge 5, 3) := by decide +kernel
theorem dX12_placeOfValue_23 : decode cX12_placeOfValue 23 = .ok (.iconst (-1), 1) := by decide +kernel
theorem dX12_placeOfValue_24 : decode cX12_placeOfValue 24 = .ok (.ireturn, 1) := by decide +kernel
theorem dX12_placeOfValue_25 : decode cX12_placeOfValue 25 = .ok (.aload_n 0, 1) := by decide +kernel
theorem dX12_placeOfValue_26 : decode cX12_placeOfValue 26 = .ok (.getfield 256, 3) := by decide +kernel
theorem dX12_placeOfValue_29 : decode cX12_placeOfValue 29 = .ok (.iconst 1, 1) := by decide +kernel
theorem dX12_placeOfValue_30 : decode cX12_placeOfValue 30 = .ok (.isub, 1) := by decide +kernel
theorem dX12_placeOfValue_31 : decode cX12_placeOfValue 31 = .ok (.iload_n 1, 1) := by decide +kernel
theorem dX12_placeOfValue_32 : decode cX12_placeOfValue 32 = .ok (.isub, 1) := by decide +kernel
theorem dX12_placeOfValue_33 : decode cX12_placeOfValue 33 = .ok (.istore_n 3, 1) := by decide +kernel
theorem dX12_placeOfValue_34 : decode cX12_placeOfValue 34 = .ok (.iload_n 2, 1) := by decide +kernel
theorem dX12_placeOfValue_35 : decode cX12_placeOfValue 35 = .ok (.aload_n 0, 1) := by decide +kernel
theorem dX12_placeOfValue_36 : decode cX12_placeOfValue 36 = .ok (.getfield 10, 3) := by decide +kernel
theorem dX12_placeOfValue_39 : decode cX12_placeOfValue 39 = .ok (.getfield 27, 3) := by decide +kernel
theorem dX12_placeOfValue_42 : decode cX12_placeOfValue 42 = .ok (.aload_n 0, 1) := by decide +kernel
theorem dX12_placeOfValue_43 : decode cX12_placeOfValue 43 = .ok (.getfield 205, 3) := by decide +kernel
theorem dX12_placeOfValue_46 : decode cX12_placeOfValue 46 = .ok (.iload_n 3, 1) := by decide +kernel
theorem dX12_placeOfValue_47 : decode cX12_placeOfValue 47 = .ok (.iaload, 1) := by decide +kernel
theorem dX12_placeOfValue_48 : decode cX12_placeOfValue 48 = .ok (.iaload, 1) := by decide +kernel
theorem dX12_placeOfValue_49 : decode cX12_placeOfValue 49 = .ok (.aload_n 0, 1) := by decide +kernel
theorem dX12_placeOfValue_50 : decode cX12_placeOfValue 50 = .ok (.getfield 211, 3) := by decide +kernel
theorem dX12_placeOfValue_53 : decode cX12_placeOfValue 53 = .ok (.iload_n 3, 1) := by decide +kernel
theorem dX12_placeOfValue_54 : decode cX12_placeOfValue 54 = .ok (.iaload, 1) := by decide +kernel
theorem dX12_placeOfValue_55 : decode cX12_placeOfValue 55 = .ok (.iadd, 1) := by decide +kernel
theorem dX12_placeOfValue_56 : decode cX12_placeOfValue 56 = .ok (.if_icmp .ge 12, 3) := by decide +kernel
theorem dX12_placeOfValue_59 : decode cX12_placeOfValue 59 = .ok (.bipush 12, 2) := by decide +kernel
theorem dX12_placeOfValue_61 : decode cX12_placeOfValue 61 = .ok (.iload_n 3, 1) := by decide +kernel
theorem dX12_placeOfValue_62 : decode cX12_placeOfValue 62 = .ok (.imul, 1) := by decide +kernel
theorem dX12_placeOfValue_63 : decode cX12_placeOfValue 63 = .ok (.iload_n 2, 1) := by decide +kernel
theorem dX12_placeOfValue_64 : decode cX12_placeOfValue 64 = .ok (.iadd, 1) := by decide +kernel
theorem dX12_placeOfValue_65 : decode cX12_placeOfValue 65 = .ok (.goto 4, 3) := by decide +kernel
theorem dX12_placeOfValue_68 : decode cX12_placeOfValue 68 = .ok (.iconst (-1), 1) := by decide +kernel
theorem dX12_placeOfValue_69 : decode cX12_placeOfValue 69 = .ok (.ireturn, 1) := by decide +kernel
def wp_X12_placeOfValue : List Cond := .code yX12_placeOfValue cX12_placeOfValue 4 (some .int) :: (([.fieldLink RX12 152 "SteadyMachineModel" "state" "I", .fieldLink RX12 256 "SteadyMachineModel" "frames" "I", .fieldLink RX12 10 "SteadyMachineModel" "image" "LSteadyMachineModel$Image;", .fieldLink RX12 205 "SteadyMachineModel" "methodOf" "[I", .fieldLink RX12 211 "SteadyMachineModel" "highOf" "[I"] ++ wsX110) ++ wsX120)
theorem wq_X12_placeOfValue : wp_X12_placeOfValue.all goodWord = true := wa_c rfl (wa_a (wa_a (by decide +kernel) uq_X11) uq_X12)
theorem wt_X12_placeOfValue : GoodIn lw_tbl wp_X12_placeOfValue := wm_c (List.mem_of_getElem? (i := 1798) (by decide +kernel)) rfl (wm_a (wm_a (goodIn_r _ [1516, 1508, 1490, 1509, 1511] (by decide +kernel) (by decide +kernel)) ut_X11) ut_X12)
theorem wi_X12_placeOfValue_X11 : ∀ w ∈ wsX110, w ∈ wp_X12_placeOfValue := fun w h => List.mem_cons_of_mem _ (List.mem_append_left _ (List.mem_append_right _ h))
theorem wi_X12_placeOfValue_X12 : ∀ w ∈ wsX120, w ∈ wp_X12_placeOfValue := fun w h => List.mem_cons_of_mem _ (List.mem_append_right _ h)
set_option maxHeartbeats 4000000 in
set_option maxRecDepth 100000 in
theorem c_X12_placeOfValue (l : Launch) (D : va_G) (sz t0 : Nat) (σ : sm_S) (α : sm_A) (p1 : Int32) (p2 : Int32) (K : Int32 → sm_S → Prop) (hF : mp_X12_placeOfValue σ p1 p2 K) : Met l yX12_placeOfValue wp_X12_placeOfValue { frames := 0, cells := 0, slots := 0, locals := 0 } (sm_P sm_wM sm_tM 40 D sz t0 σ α [.ref (α.1 1), .int p1, .int p2]) (va_Qi K (sm_B sm_wM D α) (sm_a α 40 sz)) 0 0 (sm_a α 40 sz) := by
  refine Met.ofW (cc := cX12_placeOfValue) (maxL := 4) (ret := (some .int)) (by decide) rfl ?_
  intro p e s m args below meth c s₁ B hml hv
  obtain ⟨rfl, hsz, hP, hK, hD0, hE⟩ := hv
  have hx := B.exec
  have hb := B.bytes
  have hr := B.returns
  have hts := atoms_spec (ws := wp_X12_placeOfValue) B.pre
  have hown : s.vm.findClass RX12 = some m.cls := findClass_of_methodNamed B.named
  have hlocks := B.notSynchronized
  subst hsz
  have hD : sm_D (sm_a α 40 s.heap.size) α 40 := hD0.own
  have hA : ∀ q : Nat, s.heap.size ≤ q → sm_a α 40 s.heap.size q := fun q h => Or.inr h
  generalize hAe : sm_a α 40 s.heap.size = A at hD hA hE ⊢
  have hS : va_S A s.heap s.heap [] := va_S.rf
  have in_X11 : ∀ w ∈ wsX110, w ∈ wp_X12_placeOfValue := wi_X12_placeOfValue_X11
  have in_X12 : ∀ w ∈ wsX120, w ∈ wp_X12_placeOfValue := wi_X12_placeOfValue_X12
  have k_0 := hts (.fieldLink RX12 152 "SteadyMachineModel" "state" "I") (by decide +kernel)
  have k_1 := hts (.fieldLink RX12 256 "SteadyMachineModel" "frames" "I") (by decide +kernel)
  have k_2 := hts (.fieldLink RX12 10 "SteadyMachineModel" "image" "LSteadyMachineModel$Image;") (by decide +kernel)
  have k_3 := hts (.fieldLink RX12 205 "SteadyMachineModel" "methodOf" "[I") (by decide +kernel)
  have k_4 := hts (.fieldLink RX12 211 "SteadyMachineModel" "highOf" "[I") (by decide +kernel)
  have hl := lv_entry ([.ref (α.1 1), .int p1, .int p2]) (n := 4) (Nat.le_of_ble_eq_true rfl)
  rw [lg_entry_eq]
  generalize (lg_sl ([.ref (α.1 1), .int p1, .int p2]) ++ List.replicate (4 - (lg_sl ([.ref (α.1 1), .int p1, .int p2])).length) Slot.unset).toArray = ls at hl ⊢
  have hl : lv_has ls 4 [(0, .ref (α.1 1)), (1, .int p1), (2, .int p2)] := hl
  have B69 : ∀ (σ : sm_S) (y0 : Int32), mp_X12_placeOfValue_69 K σ y0 → sm_J p l e (headSpec wp_X12_placeOfValue { frames := 0, cells := 0, slots := 0, locals := 0 }).room s m ([.ref (α.1 1), .int p1, .int p2] : List Value).toArray below meth c (MQ below (va_Qi K (sm_B sm_wM D α) A) ([.ref (α.1 1), .int p1, .int p2] : List Value).toArray s 0 0 A) D A 4 (sm_wM σ α) 69 [] [.int y0] := by
    intro σ y0 hF H locs ls hP hS hl
    unfold mp_X12_placeOfValue_69 at hF
    exact W.iret (v := y0) hx hb hr (fun t ht hW => ⟨⟨y0, σ, rfl, hF, (by unfold sm_B; rw [ht]; exact hP)⟩, hS.F ht⟩) hS.2.2 dX12_placeOfValue_69
  have B23 : ∀ (σ : sm_S), mp_X12_placeOfValue_23 K σ → sm_J p l e (headSpec wp_X12_placeOfValue { frames := 0, cells := 0, slots := 0, locals := 0 }).room s m ([.ref (α.1 1), .int p1, .int p2] : List Value).toArray below meth c (MQ below (va_Qi K (sm_B sm_wM D α) A) ([.ref (α.1 1), .int p1, .int p2] : List Value).toArray s 0 0 A) D A 4 (sm_wM σ α) 23 [] [] := by
    intro σ hF H locs ls hP hS hl
    unfold mp_X12_placeOfValue_23 at hF
    refine lv_iconst (v := -1) hx hb dX12_placeOfValue_23 (by decide) ?_
    exact W.iret (v := (-1)) hx hb hr (fun t ht hW => ⟨⟨(-1), σ, rfl, hF, (by unfold sm_B; rw [ht]; exact hP)⟩, hS.F ht⟩) hS.2.2 dX12_placeOfValue_24
  unfold mp_X12_placeOfValue at hF
  revert hP hS
  generalize hLo : ([] : List Loc) = locs
  suffices h9 : ∀ (H : Heap) (locs : List Loc), va_P D vwCl (sm_wM σ α) H → va_S A s.heap H locs → W p l e (headSpec wp_X12_placeOfValue { frames := 0, cells := 0, slots := 0, locals := 0 }).room s m ([.ref (α.1 1), .int p1, .int p2] : List Value).toArray below meth c H locs 0 0 (MQ below (va_Qi K (sm_B sm_wM D α) A) ([.ref (α.1 1), .int p1, .int p2] : List Value).toArray s 0 0 A) (F0 m 0 ls []) from fun hP hS => h9 s.heap locs hP hS
  intro H locs hP hS
  refine lv_aload_n hx hb dX12_placeOfValue_0 rfl (lv_at hl 0 rfl) ?_
  refine va_get (D := D) (ci := 12) (v := .int (σ.1 17)) (C := RX12) (T := TX12) (N := 42) hx hb hts in_X12 hown hK hP 1 (sm_gX12 σ α) rfl 26 (by decide) k_0 (fun _ h9 => h9) rfl dX12_placeOfValue_1 ?_
  refine lv_if_eq (tgt := 23) hx hb dX12_placeOfValue_4 (by decide) (fun h1 => ?_) (fun h1 => ?_)
  · replace hF := hF.1 h1
    exact B23 σ hF H locs ls hP hS (lv_sub hl [] rfl)
  · replace hF := hF.2 h1
    refine lv_iload_n hx hb dX12_placeOfValue_7 rfl (lv_at hl 1 rfl) ?_
    refine lv_if_lt (tgt := 23) hx hb dX12_placeOfValue_8 (by decide) (fun h2 => ?_) (fun h2 => ?_)
    · replace hF := hF.1 h2
      exact B23 σ hF H locs ls hP hS (lv_sub hl [] rfl)
    · replace hF := hF.2 h2
      refine lv_iload_n hx hb dX12_placeOfValue_11 rfl (lv_at hl 1 rfl) ?_
      refine lv_aload_n hx hb dX12_placeOfValue_12 rfl (lv_at hl 0 rfl) ?_
      refine va_get (D := D) (ci := 12) (v := .int (σ.1 14)) (C := RX12) (T := TX12) (N := 42) hx hb hts in_X12 hown hK hP 1 (sm_gX12 σ α) rfl 18 (by decide) k_1 (fun _ h9 => h9) rfl dX12_placeOfValue_13 ?_
      refine lv_icmp_ge (tgt := 23) hx hb dX12_placeOfValue_16 (by decide) (fun h3 => ?_) (fun h3 => ?_)
      · replace hF := hF.1 h3
        exact B23 σ hF H locs ls hP hS (lv_sub hl [] rfl)
      · replace hF := hF.2 h3
        refine lv_iload_n hx hb dX12_placeOfValue_19 rfl (lv_at hl 2 rfl) ?_
        refine lv_if_ge (tgt := 25) hx hb dX12_placeOfValue_20 (by decide) (fun h4 => ?_) (fun h4 => ?_)
        · replace hF := hF.1 h4
          refine lv_aload_n hx hb dX12_placeOfValue_25 rfl (lv_at hl 0 rfl) ?_
          refine va_get (D := D) (ci := 12) (v := .int (σ.1 14)) (C := RX12) (T := TX12) (N := 42) hx hb hts in_X12 hown hK hP 1 (sm_gX12 σ α) rfl 18 (by decide) k_1 (fun _ h9 => h9) rfl dX12_placeOfValue_26 ?_
          refine lv_iconst (v := 1) hx hb dX12_placeOfValue_29 (by decide) ?_
          refine lv_isub hx hb dX12_placeOfValue_30 ?_
          refine lv_iload_n hx hb dX12_placeOfValue_31 rfl (lv_at hl 1 rfl) ?_
          refine lv_isub hx hb dX12_placeOfValue_32 ?_
          refine lv_topi (fun v5 ev5 => ?_)
          replace hF := hF v5 ev5
          refine lv_istore_n (lv' := [(3, .int v5), (0, .ref (α.1 1)), (1, .int p1), (2, .int p2)]) hx hb dX12_placeOfValue_33 rfl hl (by decide) rfl (fun ls hl => ?_)
          refine lv_iload_n hx hb dX12_placeOfValue_34 rfl (lv_at hl 3 rfl) ?_
          refine lv_aload_n hx hb dX12_placeOfValue_35 rfl (lv_at hl 1 rfl) ?_
          refine va_get (D := D) (ci := 12) (v := .ref (α.1 0)) (C := RX12) (T := TX12) (N := 42) hx hb hts in_X12 hown hK hP 1 (sm_gX12 σ α) rfl 0 (by decide) k_2 (fun _ h9 => h9) rfl dX12_placeOfValue_36 ?_
          refine va_getN (D := D) (ci := 11) (v := .ref (α.1 15)) (C := RX11) (T := TX11) (N := 28) hx hb hts in_X11 hown hK hP 0 (sm_gX11 σ α) rfl 20 (by decide) (va_Nw.use rfl (hE.1 (.fieldLinkNest "SteadyMachineModel" 27 "SteadyMachineModel$Image" "locals" "[I" "SteadyMachineModel") (by decide +kernel))) (fun _ h9 => h9) rfl dX12_placeOfValue_39 ?_
          refine lv_aload_n hx hb dX12_placeOfValue_42 rfl (lv_at hl 1 rfl) ?_
          refine va_get (D := D) (ci := 12) (v := .ref (α.1 33)) (C := RX12) (T := TX12) (N := 42) hx hb hts in_X12 hown hK hP 1 (sm_gX12 σ α) rfl 19 (by decide) k_3 (fun _ h9 => h9) rfl dX12_placeOfValue_43 ?_
          refine lv_iload_n hx hb dX12_placeOfValue_46 rfl (lv_at hl 0 rfl) ?_
          obtain ⟨h6, hF⟩ := hF
          refine va_iald (n := (σ.2.2.1 33)) (f := (σ.2.2.2.1 33)) hx hb hK hP 33 31 (sm_aM33 σ α) (sm_yM33 α) h6 dX12_placeOfValue_47 ?_
          obtain ⟨h7, hF⟩ := hF
          refine va_iald (n := (σ.2.2.1 15)) (f := (σ.2.2.2.1 15)) hx hb hK hP 15 13 (sm_aM15 σ α) (sm_yM15 α) h7 dX12_placeOfValue_48 ?_
          refine lv_aload_n hx hb dX12_placeOfValue_49 rfl (lv_at hl 1 rfl) ?_
          refine va_get (D := D) (ci := 12) (v := .ref (α.1 35)) (C := RX12) (T := TX12) (N := 42) hx hb hts in_X12 hown hK hP 1 (sm_gX12 σ α) rfl 21 (by decide) k_4 (fun _ h9 => h9) rfl dX12_placeOfValue_50 ?_
          refine lv_iload_n hx hb dX12_placeOfValue_53 rfl (lv_at hl 0 rfl) ?_
          obtain ⟨h8, hF⟩ := hF
          refine va_iald (n := (σ.2.2.1 35)) (f := (σ.2.2.2.1 35)) hx hb hK hP 35 33 (sm_aM35 σ α) (sm_yM35 α) h8 dX12_placeOfValue_54 ?_
          refine lv_iadd hx hb dX12_placeOfValue_55 ?_
          refine lv_icmp_ge (tgt := 68) hx hb dX12_placeOfValue_56 (by decide) (fun h9 => ?_) (fun h9 => ?_)
          · replace hF := hF.1 h9
            refine lv_iconst (v := -1) hx hb dX12_placeOfValue_68 (by decide) ?_
            exact B69 σ (-1) hF H locs ls hP hS (lv_sub hl [] rfl)
          · replace hF := hF.2 h9
            refine lv_bipush (v := 12) hx hb dX12_placeOfValue_59 (by decide) ?_
            refine lv_iload_n hx hb dX12_placeOfValue_61 rfl (lv_at hl 0 rfl) ?_
            refine lv_imul hx hb dX12_placeOfValue_62 ?_
            refine lv_iload_n hx hb dX12_placeOfValue_63 rfl (lv_at hl 3 rfl) ?_
            refine lv_iadd hx hb dX12_placeOfValue_64 ?_
            refine lv_goto (tgt := 69) hx hb dX12_placeOfValue_65 (by decide) ?_
            exact B69 σ ((12 * v5) + p2) hF H locs ls hP hS (lv_sub hl [] rfl)
        · replace hF := hF.2 h4
          exact B23 σ hF H locs ls hP hS (lv_sub hl [] rfl)
theorem dX12_value__0 : decode cX12_value_ 0 = .ok (.iload_n 1, 1) := by decide +kernel
theorem dX12_value__1 : decode cX12_value_ 1 = .ok (.iconst (-1), 1) := by decide +kernel
theorem dX12_value__2 : decode cX12_value_ 2 = .ok (.if_icmp .ne 25, 3) := by decide +kernel
theorem dX12_value__5 : decode cX12_value_ 5 = .ok (.iload_n 2, 1) := by decide +kernel
theorem dX12_value__6 : decode cX12_value_ 6 = .ok (.ifCond .ne 21, 3) := by decide +kernel
theorem dX12_value__9 : decode cX12_value_ 9 = .ok (.aload_n 0, 1) := by decide +kernel
theorem dX12_value__10 : decode cX12_value_ 10 = .ok (.getfield 152, 3) := by decide +kernel
theorem dX12_value__13 : decode cX12_value_ 13 = .ok (.ifCond .le 14, 3) := by decide +kernel
theorem dX12_value__16 : decode cX12_value_ 16 = .ok (.aload_n 0, 1) := by decide +kernel
theorem dX12_value__17 : decode cX12_value_ 17 = .ok (.getfield 259, 3) := by decide +kernel
theorem dX12_value__20 : decode cX12_value_ 20 = .ok (.ifCond .eq 7, 3) := by decide +kernel
theorem dX12_value__23 : decode cX12_value_ 23 = .ok (.iconst 1, 1) := by decide +kernel
theorem dX12_value__24 : decode cX12_value_ 24 = .ok (.goto 4, 3) := by decide +kernel
theorem dX12_value__27 : decode cX12_value_ 27 = .ok (.iconst 0, 1) := by decide +kernel
theorem dX12_value__28 : decode cX12_value_ 28 = .ok (.istore 6, 2) := by decide +kernel
theorem dX12_value__30 : decode cX12_value_ 30 = .ok (.iload 6, 2) := by decide +kernel
theorem dX12_value__32 : decode cX12_value_ 32 = .ok (.ifCond .eq 7, 3) := by decide +kernel
theorem dX12_value__35 : decode cX12_value_ 35 = .ok (.iconst (-1), 1) := by decide +kernel
theorem dX12_value__36 : decode cX12_value_ 36 = .ok (.goto 9, 3) := by decide +kernel
theorem dX12_value__39 : decode cX12_value_ 39 = .ok (.aload_n 0, 1) := by decide +kernel
theorem dX12_value__40 : decode cX12_value_ 40 = .ok (.iload_n 1, 1) := by decide +kernel
theorem dX12_value__41 : decode cX12_value_ 41 = .ok (.iload_n 2, 1) := by decide +kernel
theorem dX12_value__42 : decode cX12_value_ 42 = .ok (.invokevirtual 414, 3) := by decide +kernel
theorem dX12_value__45 : decode cX12_value_ 45 = .ok (.istore 7, 2) := by decide +kernel
theorem dX12_value__47 : decode cX12_value_ 47 = .ok (.iload 6, 2) := by decide +kernel
theorem dX12_value__49 : decode cX12_value_ 49 = .ok (.ifCond .ne 9, 3) := by decide +kernel
theorem dX12_value__52 : decode cX12_value_ 52 = .ok (.iload 7, 2) := by decide +kernel
theorem dX12_value__54 : decode cX12_value_ 54 = .ok (.iconst (-1), 1) := by decide +kernel
theorem dX12_value__55 : decode cX12_value_ 55 = .ok (.if_icmp .eq 14, 3) := by decide +kernel
theorem dX12_value__58 : decode cX12_value_ 58 = .ok (.iload 5, 2) := by decide +kernel
theorem dX12_value__60 : decode cX12_value_ 60 = .ok (.ifCond .lt 9, 3) := by decide +kernel
theorem dX12_value__63 : decode cX12_value_ 63 = .ok (.iload 5, 2) := by decide +kernel
theorem dX12_value__65 : decode cX12_value_ 65 = .ok (.iconst 2, 1) := by decide +kernel
theorem dX12_value__66 : decode cX12_value_ 66 = .ok (.if_icmp .le 7, 3) := by decide +kernel
theorem dX12_value__69 : decode cX12_value_ 69 = .ok (.ldc2_w 412, 3) := by decide +kernel
theorem dX12_value__72 : decode cX12_value_ 72 = .ok (.lreturn, 1) := by decide +kernel
theorem dX12_value__73 : decode cX12_value_ 73 = .ok (.iload 6, 2) := by decide +kernel
theorem dX12_value__75 : decode cX12_value_ 75 = .ok (.ifCond .eq 10, 3) := by decide +kernel
theorem dX12_value__78 : decode cX12_value_ 78 = .ok (.aload_n 0, 1) := by decide +kernel
theorem dX12_value__79 : decode cX12_value_ 79 = .ok (.getfield 301, 3) := by decide +kernel
theorem dX12_value__82 : decode cX12_value_ 82 = .ok (.goto 10, 3) := by decide +kernel
theorem dX12_value__85 : decode cX12_value_ 85 = .ok (.aload_n 0, 1) := by decide +kernel
theorem dX12_value__86 : decode cX12_value_ 86 = .ok (.getfield 215, 3) := by decide +kernel
theorem dX12_value__89 : decode cX12_value_ 89 = .ok (.iload 7, 2) := by decide +kernel
theorem dX12_value__91 : decode cX12_value_ 91 = .ok (.iaload, 1) := by decide +kernel
theorem dX12_value__92 : decode cX12_value_ 92 = .ok (.istore 8, 2) := by decide +kernel
theorem dX12_value__94 : decode cX12_value_ 94 = .ok (.iload 6, 2) := by decide +kernel
theorem dX12_value__96 : decode cX12_value_ 96 = .ok (.ifCond .ne 13, 3) := by decide +kernel
theorem dX12_value__99 : decode cX12_value_ 99 = .ok (.aload_n 0, 1) := by decide +kernel
theorem dX12_value__100 : decode cX12_value_ 100 = .ok (.getfield 218, 3) := by decide +kernel
theorem dX12_value__103 : decode cX12_value_ 103 = .ok (.iload 7, 2) := by decide +kernel
theorem dX12_value__105 : decode cX12_value_ 105 = .ok (.baload, 1) := by decide +kernel
theorem dX12_value__106 : decode cX12_value_ 106 = .ok (.ifCond .eq 7, 3) := by decide +kernel
theorem dX12_value__109 : decode cX12_value_ 109 = .ok (.iconst 1, 1) := by decide +kernel
theorem dX12_value__110 : decode cX12_value_ 110 = .ok (.goto 4, 3) := by decide +kernel
theorem dX12_value__113 : decode cX12_value_ 113 = .ok (.iconst 0, 1) := by decide +kernel
theorem dX12_value__114 : decode cX12_value_ 114 = .ok (.istore 9, 2) := by decide +kernel
theorem dX12_value__116 : decode cX12_value_ 116 = .ok (.lload_n 3, 1) := by decide +kernel
theorem dX12_value__117 : decode cX12_value_ 117 = .ok (.lstore 10, 2) := by decide +kernel
theorem dX12_value__119 : decode cX12_value_ 119 = .ok (.lload 10, 2) := by decide +kernel
theorem dX12_value__121 : decode cX12_value_ 121 = .ok (.ldc2_w 417, 3) := by decide +kernel
theorem dX12_value__124 : decode cX12_value_ 124 = .ok (.land, 1) := by decide +kernel
theorem dX12_value__125 : decode cX12_value_ 125 = .ok (.lconst 0, 1) := by decide +kernel
theorem dX12_value__126 : decode cX12_value_ 126 = .ok (.lcmp, 1) := by decide +kernel
theorem dX12_value__127 : decode cX12_value_ 127 = .ok (.ifCond .eq 195, 3) := by decide +kernel
theorem dX12_value__130 : decode cX12_value_ 130 = .ok (.lload 10, 2) := by decide +kernel
theorem dX12_value__132 : decode cX12_value_ 132 = .ok (.ldc2_w 417, 3) := by decide +kernel
theorem dX12_value__135 : decode cX12_value_ 135 = .ok (.land, 1) := by decide +kernel
theorem dX12_value__136 : decode cX12_value_ 136 = .ok (.l2i, 1) := by decide +kernel
theorem dX12_value__137 : decode cX12_value_ 137 = .ok (.iconst 1, 1) := by decide +kernel
theorem dX12_value__138 : decode cX12_value_ 138 = .ok (.isub, 1) := by decide +kernel
theorem dX12_value__139 : decode cX12_value_ 139 = .ok (.istore 12, 2) := by decide +kernel
theorem dX12_value__141 : decode cX12_value_ 141 = .ok (.iload 9, 2) := by decide +kernel
theorem dX12_value__143 : decode cX12_value_ 143 = .ok (.ifCond .eq 9, 3) := by decide +kernel
theorem dX12_value__146 : decode cX12_value_ 146 = .ok (.iload 8, 2) := by decide +kernel
theorem dX12_value__148 : decode cX12_value_ 148 = .ok (.iconst (-1), 1) := by decide +kernel
theorem dX12_value__149 : decode cX12_value_ 149 = .ok (.if_icmp .ne 7, 3) := by decide +kernel
theorem dX12_value__152 : decode cX12_value_ 152 = .ok (.ldc2_w 412, 3) := by decide +kernel
theorem dX12_value__155 : decode cX12_value_ 155 = .ok (.lreturn, 1) := by decide +kernel
theorem dX12_value__156 : decode cX12_value_ 156 = .ok (.aload_n 0, 1) := by decide +kernel
theorem dX12_value__157 : decode cX12_value_ 157 = .ok (.getfield 180, 3) := by decide +kernel
theorem dX12_value__160 : decode cX12_value_ 160 = .ok (.iload 8, 2) := by decide +kernel
theorem dX12_value__162 : decode cX12_value_ 162 = .ok (.baload, 1) := by decide +kernel
theorem dX12_value__163 : decode cX12_value_ 163 = .ok (.ifCond .ne 78, 3) := by decide +kernel
theorem dX12_value__166 : decode cX12_value_ 166 = .ok (.iload 12, 2) := by decide +kernel
theorem dX12_value__168 : decode cX12_value_ 168 = .ok (.aload_n 0, 1) := by decide +kernel
theorem dX12_value__169 : decode cX12_value_ 169 = .ok (.getfield 10, 3) := by decide +kernel
theorem dX12_value__172 : decode cX12_value_ 172 = .ok (.getfield 292, 3) := by decide +kernel
theorem dX12_value__175 : decode cX12_value_ 175 = .ok (.aload_n 0, 1) := by decide +kernel
theorem dX12_value__176 : decode cX12_value_ 176 = .ok (.getfield 183, 3) := by decide +kernel
theorem dX12_value__179 : decode cX12_value_ 179 = .ok (.iload 8, 2) := by decide +kernel
theorem dX12_value__181 : decode cX12_value_ 181 = .ok (.iaload, 1) := by decide +kernel
theorem dX12_value__182 : decode cX12_value_ 182 = .ok (.iaload, 1) := by decide +kernel
theorem dX12_value__183 : decode cX12_value_ 183 = .ok (.if_icmp .lt 7, 3) := by decide +kernel
theorem dX12_value__186 : decode cX12_value_ 186 = .ok (.ldc2_w 412, 3) := by decide +kernel
theorem dX12_value__189 : decode cX12_value_ 189 = .ok (.lreturn, 1) := by decide +kernel
theorem dX12_value__190 : decode cX12_value_ 190 = .ok (.aload_n 0, 1) := by decide +kernel
theorem dX12_value__191 : decode cX12_value_ 191 = .ok (.getfield 10, 3) := by decide +kernel
theorem dX12_value__194 : decode cX12_value_ 194 = .ok (.getfield 99, 3) := by decide +kernel
theorem dX12_value__197 : decode cX12_value_ 197 = .ok (.bipush 15, 2) := by decide +kernel
theorem dX12_value__199 : decode cX12_value_ 199 = .ok (.aload_n 0, 1) := by decide +kernel
theorem dX12_value__200 : decode cX12_value_ 200 = .ok (.getfield 183, 3) := by decide +kernel
theorem dX12_value__203 : decode cX12_value_ 203 = .ok (.iload 8, 2) := by decide +kernel
theorem dX12_value__205 : decode cX12_value_ 205 = .ok (.iaload, 1) := by decide +kernel
theorem dX12_value__206 : decode cX12_value_ 206 = .ok (.imul, 1) := by decide +kernel
theorem dX12_value__207 : decode cX12_value_ 207 = .ok (.iload 12, 2) := by decide +kernel
theorem dX12_value__209 : decode cX12_value_ 209 = .ok (.iadd, 1) := by decide +kernel
theorem dX12_value__210 : decode cX12_value_ 210 = .ok (.iaload, 1) := by decide +kernel
theorem dX12_value__211 : decode cX12_value_ 211 = .ok (.ifCond .le 7, 3) := by decide +kernel
theorem dX12_value__214 : decode cX12_value_ 214 = .ok (.iconst 1, 1) := by decide +kernel
theorem dX12_value__215 : decode cX12_value_ 215 = .ok (.goto 4, 3) := by decide +kernel
theorem dX12_value__218 : decode cX12_value_ 218 = .ok (.iconst 0, 1) := by decide +kernel
theorem dX12_value__219 : decode cX12_value_ 219 = .ok (.istore 9, 2) := by decide +kernel
theorem dX12_value__221 : decode cX12_value_ 221 = .ok (.aload_n 0, 1) := by decide +kernel
theorem dX12_value__222 : decode cX12_value_ 222 = .ok (.getfield 199, 3) := by decide +kernel
theorem dX12_value__225 : decode cX12_value_ 225 = .ok (.aload_n 0, 1) := by decide +kernel
theorem dX12_value__226 : decode cX12_value_ 226 = .ok (.getfield 192, 3) := by decide +kernel
theorem dX12_value__229 : decode cX12_value_ 229 = .ok (.iload 8, 2) := by decide +kernel
theorem dX12_value__231 : decode cX12_value_ 231 = .ok (.iaload, 1) := by decide +kernel
theorem dX12_value__232 : decode cX12_value_ 232 = .ok (.iload 12, 2) := by decide +kernel
theorem dX12_value__234 : decode cX12_value_ 234 = .ok (.iadd, 1) := by decide +kernel
theorem dX12_value__235 : decode cX12_value_ 235 = .ok (.iaload, 1) := by decide +kernel
theorem dX12_value__236 : decode cX12_value_ 236 = .ok (.istore 8, 2) := by decide +kernel
theorem dX12_value__238 : decode cX12_value_ 238 = .ok (.goto 74, 3) := by decide +kernel
theorem dX12_value__241 : decode cX12_value_ 241 = .ok (.iload 12, 2) := by decide +kernel
theorem dX12_value__243 : decode cX12_value_ 243 = .ok (.aload_n 0, 1) := by decide +kernel
theorem dX12_value__244 : decode cX12_value_ 244 = .ok (.getfield 183, 3) := by decide +kernel
theorem dX12_value__247 : decode cX12_value_ 247 = .ok (.iload 8, 2) := by decide +kernel
theorem dX12_value__249 : decode cX12_value_ 249 = .ok (.iaload, 1) := by decide +kernel
theorem dX12_value__250 : decode cX12_value_ 250 = .ok (.if_icmp .lt 7, 3) := by decide +kernel
theorem dX12_value__253 : decode cX12_value_ 253 = .ok (.ldc2_w 412, 3) := by decide +kernel
theorem dX12_value__256 : decode cX12_value_ 256 = .ok (.lreturn, 1) := by decide +kernel
theorem dX12_value__257 : decode cX12_value_ 257 = .ok (.aload_n 0, 1) := by decide +kernel
theorem dX12_value__258 : decode cX12_value_ 258 = .ok (.getfield 189, 3) := by decide +kernel
theorem dX12_value__261 : decode cX12_value_ 261 = .ok (.iload 8, 2) := by decide +kernel
theorem dX12_value__263 : decode cX12_value_ 263 = .ok (.baload, 1) := by decide +kernel
theorem dX12_value__264 : decode cX12_value_ 264 = .ok (.ifCond .le 7, 3) := by decide +kernel
theorem dX12_value__267 : decode cX12_value_ 267 = .ok (.iconst 1, 1) := by decide +kernel
theorem dX12_value__268 : decode cX12_value_ 268 = .ok (.goto 4, 3) := by decide +kernel
theorem dX12_value__271 : decode cX12_value_ 271 = .ok (.iconst 0, 1) := by decide +kernel
theorem dX12_value__272 : decode cX12_value_ 272 = .ok (.istore 9, 2) := by decide +kernel
theorem dX12_value__274 : decode cX12_value_ 274 = .ok (.aload_n 0, 1) := by decide +kernel
theorem dX12_value__275 : decode cX12_value_ 275 = .ok (.iload 8, 2) := by decide +kernel
theorem dX12_value__277 : decode cX12_value_ 277 = .ok (.iload 12, 2) := by decide +kernel
theorem dX12_value__279 : decode cX12_value_ 279 = .ok (.invokevirtual 403, 3) := by decide +kernel
theorem dX12_value__282 : decode cX12_value_ 282 = .ok (.istore 13, 2) := by decide +kernel
theorem dX12_value__284 : decode cX12_value_ 284 = .ok (.iload 13, 2) := by decide +kernel
theorem dX12_value__286 : decode cX12_value_ 286 = .ok (.iconst (-1), 1) := by decide +kernel
theorem dX12_value__287 : decode cX12_value_ 287 = .ok (.if_icmp .ne 16, 3) := by decide +kernel
theorem dX12_value__290 : decode cX12_value_ 290 = .ok (.iload 9, 2) := by decide +kernel
theorem dX12_value__292 : decode cX12_value_ 292 = .ok (.ifCond .eq 7, 3) := by decide +kernel
theorem dX12_value__295 : decode cX12_value_ 295 = .ok (.iconst (-1), 1) := by decide +kernel
theorem dX12_value__296 : decode cX12_value_ 296 = .ok (.goto 14, 3) := by decide +kernel
theorem dX12_value__299 : decode cX12_value_ 299 = .ok (.iconst 0, 1) := by decide +kernel
theorem dX12_value__300 : decode cX12_value_ 300 = .ok (.goto 10, 3) := by decide +kernel
theorem dX12_value__303 : decode cX12_value_ 303 = .ok (.aload_n 0, 1) := by decide +kernel
theorem dX12_value__304 : decode cX12_value_ 304 = .ok (.getfield 199, 3) := by decide +kernel
theorem dX12_value__307 : decode cX12_value_ 307 = .ok (.iload 13, 2) := by decide +kernel
theorem dX12_value__309 : decode cX12_value_ 309 = .ok (.iaload, 1) := by decide +kernel
theorem dX12_value__310 : decode cX12_value_ 310 = .ok (.istore 8, 2) := by decide +kernel
theorem dX12_value__312 : decode cX12_value_ 312 = .ok (.lload 10, 2) := by decide +kernel
theorem dX12_value__314 : decode cX12_value_ 314 = .ok (.bipush 12, 2) := by decide +kernel
theorem dX12_value__316 : decode cX12_value_ 316 = .ok (.lushr, 1) := by decide +kernel
theorem dX12_value__317 : decode cX12_value_ 317 = .ok (.lstore 10, 2) := by decide +kernel
theorem dX12_value__319 : decode cX12_value_ 319 = .ok (.goto (-200), 3) := by decide +kernel
theorem dX12_value__322 : decode cX12_value_ 322 = .ok (.iload 9, 2) := by decide +kernel
theorem dX12_value__324 : decode cX12_value_ 324 = .ok (.ifCond .ne 17, 3) := by decide +kernel
theorem dX12_value__327 : decode cX12_value_ 327 = .ok (.iload 5, 2) := by decide +kernel
theorem dX12_value__329 : decode cX12_value_ 329 = .ok (.iconst 1, 1) := by decide +kernel
theorem dX12_value__330 : decode cX12_value_ 330 = .ok (.if_icmp .ne 9, 3) := by decide +kernel
theorem dX12_value__333 : decode cX12_value_ 333 = .ok (.iload 8, 2) := by decide +kernel
theorem dX12_value__335 : decode cX12_value_ 335 = .ok (.i2l, 1) := by decide +kernel
theorem dX12_value__336 : decode cX12_value_ 336 = .ok (.goto 4, 3) := by decide +kernel
theorem dX12_value__339 : decode cX12_value_ 339 = .ok (.lconst 0, 1) := by decide +kernel
theorem dX12_value__340 : decode cX12_value_ 340 = .ok (.lreturn, 1) := by decide +kernel
theorem dX12_value__341 : decode cX12_value_ 341 = .ok (.iload 8, 2) := by decide +kernel
theorem dX12_value__343 : decode cX12_value_ 343 = .ok (.iconst (-1), 1) := by decide +kernel
theorem dX12_value__344 : decode cX12_value_ 344 = .ok (.if_icmp .ne 14, 3) := by decide +kernel
theorem dX12_value__347 : decode cX12_value_ 347 = .ok (.iload 5, 2) := by decide +kernel
theorem dX12_value__349 : decode cX12_value_ 349 = .ok (.ifCond .ne 7, 3) := by decide +kernel
theorem dX12_value__352 : decode cX12_value_ 352 = .ok (.lconst 1, 1) := by decide +kernel
theorem dX12_value__353 : decode cX12_value_ 353 = .ok (.goto 4, 3) := by decide +kernel
theorem dX12_value__356 : decode cX12_value_ 356 = .ok (.lconst 0, 1) := by decide +kernel
theorem dX12_value__357 : decode cX12_value_ 357 = .ok (.lreturn, 1) := by decide +kernel
theorem dX12_value__358 : decode cX12_value_ 358 = .ok (.aload_n 0, 1) := by decide +kernel
theorem dX12_value__359 : decode cX12_value_ 359 = .ok (.getfield 180, 3) := by decide +kernel
theorem dX12_value__362 : decode cX12_value_ 362 = .ok (.iload 8, 2) := by decide +kernel
theorem dX12_value__364 : decode cX12_value_ 364 = .ok (.baload, 1) := by decide +kernel
theorem dX12_value__365 : decode cX12_value_ 365 = .ok (.ifCond .ne 7, 3) := by decide +kernel
theorem dX12_value__368 : decode cX12_value_ 368 = .ok (.iconst 1, 1) := by decide +kernel
theorem dX12_value__369 : decode cX12_value_ 369 = .ok (.goto 4, 3) := by decide +kernel
theorem dX12_value__372 : decode cX12_value_ 372 = .ok (.iconst 0, 1) := by decide +kernel
theorem dX12_value__373 : decode cX12_value_ 373 = .ok (.istore 10, 2) := by decide +kernel
theorem dX12_value__375 : decode cX12_value_ 375 = .ok (.iload 5, 2) := by decide +kernel
theorem dX12_value__377 : decode cX12_value_ 377 = .ok (.ifCond .ne 36, 3) := by decide +kernel
theorem dX12_value__380 : decode cX12_value_ 380 = .ok (.iload 10, 2) := by decide +kernel
theorem dX12_value__382 : decode cX12_value_ 382 = .ok (.ifCond .eq 9, 3) := by decide +kernel
theorem dX12_value__385 : decode cX12_value_ 385 = .ok (.ldc2_w 419, 3) := by decide +kernel
theorem dX12_value__388 : decode cX12_value_ 388 = .ok (.goto 67, 3) := by decide +kernel
theorem dX12_value__391 : decode cX12_value_ 391 = .ok (.aload_n 0, 1) := by decide +kernel
theorem dX12_value__392 : decode cX12_value_ 392 = .ok (.getfield 189, 3) := by decide +kernel
theorem dX12_value__395 : decode cX12_value_ 395 = .ok (.iload 8, 2) := by decide +kernel
theorem dX12_value__397 : decode cX12_value_ 397 = .ok (.baload, 1) := by decide +kernel
theorem dX12_value__398 : decode cX12_value_ 398 = .ok (.ifCond .ne 9, 3) := by decide +kernel
theorem dX12_value__401 : decode cX12_value_ 401 = .ok (.ldc2_w 421, 3) := by decide +kernel
theorem dX12_value__404 : decode cX12_value_ 404 = .ok (.goto 51, 3) := by decide +kernel
theorem dX12_value__407 : decode cX12_value_ 407 = .ok (.ldc2_w 423, 3) := by decide +kernel
theorem dX12_value__410 : decode cX12_value_ 410 = .ok (.goto 45, 3) := by decide +kernel
theorem dX12_value__413 : decode cX12_value_ 413 = .ok (.iload 5, 2) := by decide +kernel
theorem dX12_value__415 : decode cX12_value_ 415 = .ok (.iconst 1, 1) := by decide +kernel
theorem dX12_value__416 : decode cX12_value_ 416 = .ok (.if_icmp .ne 14, 3) := by decide +kernel
theorem dX12_value__419 : decode cX12_value_ 419 = .ok (.aload_n 0, 1) := by decide +kernel
theorem dX12_value__420 : decode cX12_value_ 420 = .ok (.getfield 183, 3) := by decide +kernel
theorem dX12_value__423 : decode cX12_value_ 423 = .ok (.iload 8, 2) := by decide +kernel
theorem dX12_value__425 : decode cX12_value_ 425 = .ok (.iaload, 1) := by decide +kernel
theorem dX12_value__426 : decode cX12_value_ 426 = .ok (.i2l, 1) := by decide +kernel
theorem dX12_value__427 : decode cX12_value_ 427 = .ok (.goto 28, 3) := by decide +kernel
theorem dX12_value__430 : decode cX12_value_ 430 = .ok (.iload 10, 2) := by decide +kernel
theorem dX12_value__432 : decode cX12_value_ 432 = .ok (.ifCond .eq 22, 3) := by decide +kernel
theorem dX12_value__435 : decode cX12_value_ 435 = .ok (.aload_n 0, 1) := by decide +kernel
theorem dX12_value__436 : decode cX12_value_ 436 = .ok (.getfield 10, 3) := by decide +kernel
theorem dX12_value__439 : decode cX12_value_ 439 = .ok (.getfield 292, 3) := by decide +kernel
theorem dX12_value__442 : decode cX12_value_ 442 = .ok (.aload_n 0, 1) := by decide +kernel
theorem dX12_value__443 : decode cX12_value_ 443 = .ok (.getfield 183, 3) := by decide +kernel
theorem dX12_value__446 : decode cX12_value_ 446 = .ok (.iload 8, 2) := by decide +kernel
theorem dX12_value__448 : decode cX12_value_ 448 = .ok (.iaload, 1) := by decide +kernel
theorem dX12_value__449 : decode cX12_value_ 449 = .ok (.iaload, 1) := by decide +kernel
theorem dX12_value__450 : decode cX12_value_ 450 = .ok (.i2l, 1) := by decide +kernel
theorem dX12_value__451 : decode cX12_value_ 451 = .ok (.goto 4, 3) := by decide +kernel
theorem dX12_value__454 : decode cX12_value_ 454 = .ok (.lconst 0, 1) := by decide +kernel
theorem dX12_value__455 : decode cX12_value_ 455 = .ok (.lreturn, 1) := by decide +kernel
def wp_X12_value_ : List Cond := .code yX12_value_ cX12_value_ 14 (some .long) :: (((([.fieldLink RX12 10 "SteadyMachineModel" "image" "LSteadyMachineModel$Image;", .fieldLink RX12 183 "SteadyMachineModel" "infos" "[I", .fieldLink RX12 189 "SteadyMachineModel" "itemTypes" "[B", .constantLong RX12 423 (4), .constantLong RX12 421 (3), .constantLong RX12 419 (2), .fieldLink RX12 199 "SteadyMachineModel" "cells" "[I", .fieldLink RX12 192 "SteadyMachineModel" "begins" "[I", .constantLong RX12 412 (-1), .constantLong RX12 417 (4095), .fieldLink RX12 180 "SteadyMachineModel" "sorts" "[B", .fieldLink RX12 218 "SteadyMachineModel" "isThing" "[Z", .fieldLink RX12 215 "SteadyMachineModel" "valueAt" "[I", .fieldLink RX12 301 "SteadyMachineModel" "flying" "I", .fieldLink RX12 152 "SteadyMachineModel" "state" "I", .fieldLink RX12 259 "SteadyMachineModel" "flies" "Z"] ++ (wsV RX12 403 RX12 yX12_itemCell wp_X12_itemCell)) ++ (wsV RX12 414 RX12 yX12_placeOfValue wp_X12_placeOfValue)) ++ wsX110) ++ wsX120)
theorem wq_X12_value_ : wp_X12_value_.all goodWord = true := wa_c rfl (wa_a (wa_a (wa_a (wa_a (by decide +kernel) (wa_V wq_X12_itemCell)) (wa_V wq_X12_placeOfValue)) uq_X11) uq_X12)
set_option maxRecDepth 200000 in
theorem wt_X12_value_ : GoodIn lw_tbl wp_X12_value_ := wm_c (List.mem_of_getElem? (i := 1794) rfl) rfl (wm_a (wm_a (wm_a (wm_a (goodIn_r _ [1490, 1499, 1501, 1802, 1801, 1800, 1506, 1502, 1782, 1799, 1498, 1513, 1512, 1515, 1516, 1514] (by decide +kernel) (by decide +kernel)) (wm_a (goodIn_r _ [1760, 1762, 132, 147] (by decide +kernel) (by decide +kernel)) wt_X12_itemCell)) (wm_a (goodIn_r _ [1795, 1797, 134, 147] (by decide +kernel) (by decide +kernel)) wt_X12_placeOfValue)) ut_X11) ut_X12)
theorem wg_X12_value__X12_itemCell_403 : GoodIn wp_X12_value_ (wsV RX12 403 RX12 yX12_itemCell wp_X12_itemCell) := goodIn_sub (fun w h => List.mem_cons_of_mem _ (List.mem_append_left _ (List.mem_append_left _ (List.mem_append_left _ (List.mem_append_right _ h))))) (wa_V wq_X12_itemCell)
theorem wg_X12_value__X12_placeOfValue_414 : GoodIn wp_X12_value_ (wsV RX12 414 RX12 yX12_placeOfValue wp_X12_placeOfValue) := goodIn_sub (fun w h => List.mem_cons_of_mem _ (List.mem_append_left _ (List.mem_append_left _ (List.mem_append_right _ h)))) (wa_V wq_X12_placeOfValue)
theorem wi_X12_value__X11 : ∀ w ∈ wsX110, w ∈ wp_X12_value_ := fun w h => List.mem_cons_of_mem _ (List.mem_append_left _ (List.mem_append_right _ h))
theorem wi_X12_value__X12 : ∀ w ∈ wsX120, w ∈ wp_X12_value_ := fun w h => List.mem_cons_of_mem _ (List.mem_append_right _ h)
set_option maxHeartbeats 4000000 in
set_option maxRecDepth 100000 in
theorem c_X12_value_ (l : Launch) (D : va_G) (sz t0 : Nat) (σ : sm_S) (α : sm_A) (p1 : Int32) (p2 : Int32) (p3 : Int64) (p4 : Int32) (K : Int64 → sm_S → Prop) (hF : mp_X12_value_ σ p1 p2 p3 p4 K) : Met l yX12_value_ wp_X12_value_ { frames := 2, cells := 0, slots := 0, locals := 46 } (sm_P sm_wM sm_tM 40 D sz t0 σ α [.ref (α.1 1), .int p1, .int p2, .long p3, .int p4]) (va_Ql K (sm_B sm_wM D α) (sm_a α 40 sz)) 0 0 (sm_a α 40 sz) := by
  refine Met.ofW (cc := cX12_value_) (maxL := 14) (ret := (some .long)) (by decide) rfl ?_
  intro p e s m args below meth c s₁ B hml hv
  obtain ⟨rfl, hsz, hP, hK, hD0, hE⟩ := hv
  have hx := B.exec
  have hb := B.bytes
  have hr := B.returns
  have hts := atoms_spec (ws := wp_X12_value_) B.pre
  have hown : s.vm.findClass RX12 = some m.cls := findClass_of_methodNamed B.named
  have hlocks := B.notSynchronized
  subst hsz
  have hD : sm_D (sm_a α 40 s.heap.size) α 40 := hD0.own
  have hA : ∀ q : Nat, s.heap.size ≤ q → sm_a α 40 s.heap.size q := fun q h => Or.inr h
  generalize hAe : sm_a α 40 s.heap.size = A at hD hA hE ⊢
  have hS : va_S A s.heap s.heap [] := va_S.rf
  have in_X11 : ∀ w ∈ wsX110, w ∈ wp_X12_value_ := wi_X12_value__X11
  have in_X12 : ∀ w ∈ wsX120, w ∈ wp_X12_value_ := wi_X12_value__X12
  have k_0 := hts (.fieldLink RX12 10 "SteadyMachineModel" "image" "LSteadyMachineModel$Image;") (by decide +kernel)
  have k_1 := hts (.fieldLink RX12 183 "SteadyMachineModel" "infos" "[I") (by decide +kernel)
  have k_2 := hts (.fieldLink RX12 189 "SteadyMachineModel" "itemTypes" "[B") (by decide +kernel)
  have k_3 := hts (.constantLong RX12 423 (4)) (by decide +kernel)
  have k_4 := hts (.constantLong RX12 421 (3)) (by decide +kernel)
  have k_5 := hts (.constantLong RX12 419 (2)) (by decide +kernel)
  have k_6 := hts (.fieldLink RX12 199 "SteadyMachineModel" "cells" "[I") (by decide +kernel)
  have k_7 := hts (.fieldLink RX12 192 "SteadyMachineModel" "begins" "[I") (by decide +kernel)
  have k_8 := hts (.constantLong RX12 412 (-1)) (by decide +kernel)
  have k_9 := hts (.constantLong RX12 417 (4095)) (by decide +kernel)
  have k_10 := hts (.fieldLink RX12 180 "SteadyMachineModel" "sorts" "[B") (by decide +kernel)
  have k_11 := hts (.fieldLink RX12 218 "SteadyMachineModel" "isThing" "[Z") (by decide +kernel)
  have k_12 := hts (.fieldLink RX12 215 "SteadyMachineModel" "valueAt" "[I") (by decide +kernel)
  have k_13 := hts (.fieldLink RX12 301 "SteadyMachineModel" "flying" "I") (by decide +kernel)
  have k_14 := hts (.fieldLink RX12 152 "SteadyMachineModel" "state" "I") (by decide +kernel)
  have k_15 := hts (.fieldLink RX12 259 "SteadyMachineModel" "flies" "Z") (by decide +kernel)
  have hl := lv_entry ([.ref (α.1 1), .int p1, .int p2, .long p3, .int p4]) (n := 14) (Nat.le_of_ble_eq_true rfl)
  rw [lg_entry_eq]
  generalize (lg_sl ([.ref (α.1 1), .int p1, .int p2, .long p3, .int p4]) ++ List.replicate (14 - (lg_sl ([.ref (α.1 1), .int p1, .int p2, .long p3, .int p4])).length) Slot.unset).toArray = ls at hl ⊢
  have hl : lv_has ls 14 [(0, .ref (α.1 1)), (1, .int p1), (2, .int p2), (3, .long p3), (5, .int p4)] := hl
  have B455 : ∀ (σ : sm_S) (y0 : Int64), mp_X12_value__455 K σ y0 → sm_J p l e (headSpec wp_X12_value_ { frames := 2, cells := 0, slots := 0, locals := 46 }).room s m ([.ref (α.1 1), .int p1, .int p2, .long p3, .int p4] : List Value).toArray below meth c (MQ below (va_Ql K (sm_B sm_wM D α) A) ([.ref (α.1 1), .int p1, .int p2, .long p3, .int p4] : List Value).toArray s 0 0 A) D A 14 (sm_wM σ α) 455 [] [.long y0] := by
    intro σ y0 hF H locs ls hP hS hl
    unfold mp_X12_value__455 at hF
    exact W.lret (v := y0) hx hb hr (fun t ht hW => ⟨⟨y0, σ, rfl, hF, (by unfold sm_B; rw [ht]; exact hP)⟩, hS.F ht⟩) hS.2.2 dX12_value__455
  have B373 : ∀ (σ : sm_S) (x5 : Int32) (x8 : Int32) (y0 : Int32), mp_X12_value__373 K σ x5 x8 y0 → sm_J p l e (headSpec wp_X12_value_ { frames := 2, cells := 0, slots := 0, locals := 46 }).room s m ([.ref (α.1 1), .int p1, .int p2, .long p3, .int p4] : List Value).toArray below meth c (MQ below (va_Ql K (sm_B sm_wM D α) A) ([.ref (α.1 1), .int p1, .int p2, .long p3, .int p4] : List Value).toArray s 0 0 A) D A 14 (sm_wM σ α) 373 [(0, .ref (α.1 1)), (5, .int x5), (8, .int x8)] [.int y0] := by
    intro σ x5 x8 y0 hF H locs ls hP hS hl
    unfold mp_X12_value__373 at hF
    refine lv_istore (lv' := [(10, .int y0), (0, .ref (α.1 1)), (5, .int x5), (8, .int x8)]) hx hb dX12_value__373 hl (by decide) rfl (fun ls hl => ?_)
    refine lv_iload hx hb dX12_value__375 (lv_at hl 2 rfl) ?_
    refine lv_if_ne (tgt := 413) hx hb dX12_value__377 (by decide) (fun h1 => ?_) (fun h1 => ?_)
    · replace hF := hF.1 h1
      refine lv_iload hx hb dX12_value__413 (lv_at hl 2 rfl) ?_
      refine lv_iconst (v := 1) hx hb dX12_value__415 (by decide) ?_
      refine lv_icmp_ne (tgt := 430) hx hb dX12_value__416 (by decide) (fun h2 => ?_) (fun h2 => ?_)
      · replace hF := hF.1 h2
        refine lv_iload hx hb dX12_value__430 (lv_at hl 0 rfl) ?_
        refine lv_if_eq (tgt := 454) hx hb dX12_value__432 (by decide) (fun h3 => ?_) (fun h3 => ?_)
        · replace hF := hF.1 h3
          refine lv_lconst (v := 0) hx hb dX12_value__454 (by decide) ?_
          exact B455 σ 0 hF H locs ls hP hS (lv_sub hl [] rfl)
        · replace hF := hF.2 h3
          refine lv_aload_n hx hb dX12_value__435 rfl (lv_at hl 1 rfl) ?_
          refine va_get (D := D) (ci := 12) (v := .ref (α.1 0)) (C := RX12) (T := TX12) (N := 42) hx hb hts in_X12 hown hK hP 1 (sm_gX12 σ α) rfl 0 (by decide) k_0 (fun _ h9 => h9) rfl dX12_value__436 ?_
          refine va_getN (D := D) (ci := 11) (v := .ref (α.1 6)) (C := RX11) (T := TX11) (N := 28) hx hb hts in_X11 hown hK hP 0 (sm_gX11 σ α) rfl 10 (by decide) (va_Nw.use rfl (hE.1 (.fieldLinkNest "SteadyMachineModel" 292 "SteadyMachineModel$Image" "fieldCounts" "[I" "SteadyMachineModel") (by decide +kernel))) (fun _ h9 => h9) rfl dX12_value__439 ?_
          refine lv_aload_n hx hb dX12_value__442 rfl (lv_at hl 1 rfl) ?_
          refine va_get (D := D) (ci := 12) (v := .ref (α.1 26)) (C := RX12) (T := TX12) (N := 42) hx hb hts in_X12 hown hK hP 1 (sm_gX12 σ α) rfl 9 (by decide) k_1 (fun _ h9 => h9) rfl dX12_value__443 ?_
          refine lv_iload hx hb dX12_value__446 (lv_at hl 3 rfl) ?_
          obtain ⟨h4, hF⟩ := hF
          refine va_iald (n := (σ.2.2.1 26)) (f := (σ.2.2.2.1 26)) hx hb hK hP 26 24 (sm_aM26 σ α) (sm_yM26 α) h4 dX12_value__448 ?_
          obtain ⟨h5, hF⟩ := hF
          refine va_iald (n := (σ.2.2.1 6)) (f := (σ.2.2.2.1 6)) hx hb hK hP 6 4 (sm_aM6 σ α) (sm_yM6 α) h5 dX12_value__449 ?_
          refine lv_i2l hx hb dX12_value__450 rfl ?_
          refine lv_goto (tgt := 455) hx hb dX12_value__451 (by decide) ?_
          exact B455 σ (((σ.2.2.2.1 6) ((σ.2.2.2.1 26) x8.toNatClampNeg).toNatClampNeg).toInt64) hF H locs ls hP hS (lv_sub hl [] rfl)
      · replace hF := hF.2 h2
        refine lv_aload_n hx hb dX12_value__419 rfl (lv_at hl 1 rfl) ?_
        refine va_get (D := D) (ci := 12) (v := .ref (α.1 26)) (C := RX12) (T := TX12) (N := 42) hx hb hts in_X12 hown hK hP 1 (sm_gX12 σ α) rfl 9 (by decide) k_1 (fun _ h9 => h9) rfl dX12_value__420 ?_
        refine lv_iload hx hb dX12_value__423 (lv_at hl 3 rfl) ?_
        obtain ⟨h6, hF⟩ := hF
        refine va_iald (n := (σ.2.2.1 26)) (f := (σ.2.2.2.1 26)) hx hb hK hP 26 24 (sm_aM26 σ α) (sm_yM26 α) h6 dX12_value__425 ?_
        refine lv_i2l hx hb dX12_value__426 rfl ?_
        refine lv_goto (tgt := 455) hx hb dX12_value__427 (by decide) ?_
        exact B455 σ (((σ.2.2.2.1 26) x8.toNatClampNeg).toInt64) hF H locs ls hP hS (lv_sub hl [] rfl)
    · replace hF := hF.2 h1
      refine lv_iload hx hb dX12_value__380 (lv_at hl 0 rfl) ?_
      refine lv_if_eq (tgt := 391) hx hb dX12_value__382 (by decide) (fun h7 => ?_) (fun h7 => ?_)
      · replace hF := hF.1 h7
        refine lv_aload_n hx hb dX12_value__391 rfl (lv_at hl 1 rfl) ?_
        refine va_get (D := D) (ci := 12) (v := .ref (α.1 28)) (C := RX12) (T := TX12) (N := 42) hx hb hts in_X12 hown hK hP 1 (sm_gX12 σ α) rfl 11 (by decide) k_2 (fun _ h9 => h9) rfl dX12_value__392 ?_
        refine lv_iload hx hb dX12_value__395 (lv_at hl 3 rfl) ?_
        obtain ⟨h8, hF⟩ := hF
        refine va_bald (n := (σ.2.2.1 28)) (f := (σ.2.2.2.1 28)) hx hb hK hP 28 26 (sm_aM28 σ α) (sm_yM28 α) h8 dX12_value__397 ?_
        refine lv_if_ne (tgt := 407) hx hb dX12_value__398 (by decide) (fun h9 => ?_) (fun h9 => ?_)
        · replace hF := hF.1 h9
          refine lv_ldc2 (v := 4) hx hb hown k_3 dX12_value__407 ?_
          refine lv_goto (tgt := 455) hx hb dX12_value__410 (by decide) ?_
          exact B455 σ 4 hF H locs ls hP hS (lv_sub hl [] rfl)
        · replace hF := hF.2 h9
          refine lv_ldc2 (v := 3) hx hb hown k_4 dX12_value__401 ?_
          refine lv_goto (tgt := 455) hx hb dX12_value__404 (by decide) ?_
          exact B455 σ 3 hF H locs ls hP hS (lv_sub hl [] rfl)
      · replace hF := hF.2 h7
        refine lv_ldc2 (v := 2) hx hb hown k_5 dX12_value__385 ?_
        refine lv_goto (tgt := 455) hx hb dX12_value__388 (by decide) ?_
        exact B455 σ 2 hF H locs ls hP hS (lv_sub hl [] rfl)
  have B357 : ∀ (σ : sm_S) (y0 : Int64), mp_X12_value__357 K σ y0 → sm_J p l e (headSpec wp_X12_value_ { frames := 2, cells := 0, slots := 0, locals := 46 }).room s m ([.ref (α.1 1), .int p1, .int p2, .long p3, .int p4] : List Value).toArray below meth c (MQ below (va_Ql K (sm_B sm_wM D α) A) ([.ref (α.1 1), .int p1, .int p2, .long p3, .int p4] : List Value).toArray s 0 0 A) D A 14 (sm_wM σ α) 357 [] [.long y0] := by
    intro σ y0 hF H locs ls hP hS hl
    unfold mp_X12_value__357 at hF
    exact W.lret (v := y0) hx hb hr (fun t ht hW => ⟨⟨y0, σ, rfl, hF, (by unfold sm_B; rw [ht]; exact hP)⟩, hS.F ht⟩) hS.2.2 dX12_value__357
  have B340 : ∀ (σ : sm_S) (y0 : Int64), mp_X12_value__340 K σ y0 → sm_J p l e (headSpec wp_X12_value_ { frames := 2, cells := 0, slots := 0, locals := 46 }).room s m ([.ref (α.1 1), .int p1, .int p2, .long p3, .int p4] : List Value).toArray below meth c (MQ below (va_Ql K (sm_B sm_wM D α) A) ([.ref (α.1 1), .int p1, .int p2, .long p3, .int p4] : List Value).toArray s 0 0 A) D A 14 (sm_wM σ α) 340 [] [.long y0] := by
    intro σ y0 hF H locs ls hP hS hl
    unfold mp_X12_value__340 at hF
    exact W.lret (v := y0) hx hb hr (fun t ht hW => ⟨⟨y0, σ, rfl, hF, (by unfold sm_B; rw [ht]; exact hP)⟩, hS.F ht⟩) hS.2.2 dX12_value__340
  have B312 : ∀ (L119 : sm_S → Int32 → Int32 → Int32 → Int64 → Prop) (hL119 : ∀ (σ : sm_S) (x5 : Int32) (x8 : Int32) (x9 : Int32) (x10 : Int64), L119 σ x5 x8 x9 x10 → sm_J p l e (headSpec wp_X12_value_ { frames := 2, cells := 0, slots := 0, locals := 46 }).room s m ([.ref (α.1 1), .int p1, .int p2, .long p3, .int p4] : List Value).toArray below meth c (MQ below (va_Ql K (sm_B sm_wM D α) A) ([.ref (α.1 1), .int p1, .int p2, .long p3, .int p4] : List Value).toArray s 0 0 A) D A 14 (sm_wM σ α) 119 [(0, .ref (α.1 1)), (5, .int x5), (8, .int x8), (9, .int x9), (10, .long x10)] []) (σ : sm_S) (x5 : Int32) (x8 : Int32) (x9 : Int32) (x10 : Int64), mp_X12_value__312 L119 K σ x5 x8 x9 x10 → sm_J p l e (headSpec wp_X12_value_ { frames := 2, cells := 0, slots := 0, locals := 46 }).room s m ([.ref (α.1 1), .int p1, .int p2, .long p3, .int p4] : List Value).toArray below meth c (MQ below (va_Ql K (sm_B sm_wM D α) A) ([.ref (α.1 1), .int p1, .int p2, .long p3, .int p4] : List Value).toArray s 0 0 A) D A 14 (sm_wM σ α) 312 [(0, .ref (α.1 1)), (5, .int x5), (8, .int x8), (9, .int x9), (10, .long x10)] [] := by
    intro L119 hL119 σ x5 x8 x9 x10 hF H locs ls hP hS hl
    unfold mp_X12_value__312 at hF
    refine lv_lload hx hb dX12_value__312 (lv_at hl 4 rfl) ?_
    refine lv_bipush (v := 12) hx hb dX12_value__314 (by decide) ?_
    refine lv_lushr hx hb dX12_value__316 rfl ?_
    refine lv_topl (fun v10 ev10 => ?_)
    replace hF := hF v10 ev10
    refine lv_lstore (lv' := [(10, .long v10), (0, .ref (α.1 1)), (5, .int x5), (8, .int x8), (9, .int x9)]) hx hb dX12_value__317 hl (by decide) rfl (fun ls hl => ?_)
    refine lv_goto (tgt := 119) hx hb dX12_value__319 (by decide) ?_
    exact hL119 σ x5 x8 x9 v10 hF H locs ls hP hS (lv_sub hl [1, 2, 3, 4, 0] rfl)
  have B310 : ∀ (L119 : sm_S → Int32 → Int32 → Int32 → Int64 → Prop) (hL119 : ∀ (σ : sm_S) (x5 : Int32) (x8 : Int32) (x9 : Int32) (x10 : Int64), L119 σ x5 x8 x9 x10 → sm_J p l e (headSpec wp_X12_value_ { frames := 2, cells := 0, slots := 0, locals := 46 }).room s m ([.ref (α.1 1), .int p1, .int p2, .long p3, .int p4] : List Value).toArray below meth c (MQ below (va_Ql K (sm_B sm_wM D α) A) ([.ref (α.1 1), .int p1, .int p2, .long p3, .int p4] : List Value).toArray s 0 0 A) D A 14 (sm_wM σ α) 119 [(0, .ref (α.1 1)), (5, .int x5), (8, .int x8), (9, .int x9), (10, .long x10)] []) (σ : sm_S) (x5 : Int32) (x9 : Int32) (x10 : Int64) (y0 : Int32), mp_X12_value__310 L119 K σ x5 x9 x10 y0 → sm_J p l e (headSpec wp_X12_value_ { frames := 2, cells := 0, slots := 0, locals := 46 }).room s m ([.ref (α.1 1), .int p1, .int p2, .long p3, .int p4] : List Value).toArray below meth c (MQ below (va_Ql K (sm_B sm_wM D α) A) ([.ref (α.1 1), .int p1, .int p2, .long p3, .int p4] : List Value).toArray s 0 0 A) D A 14 (sm_wM σ α) 310 [(0, .ref (α.1 1)), (5, .int x5), (9, .int x9), (10, .long x10)] [.int y0] := by
    intro L119 hL119 σ x5 x9 x10 y0 hF H locs ls hP hS hl
    unfold mp_X12_value__310 at hF
    refine lv_istore (lv' := [(8, .int y0), (0, .ref (α.1 1)), (5, .int x5), (9, .int x9), (10, .long x10)]) hx hb dX12_value__310 hl (by decide) rfl (fun ls hl => ?_)
    exact B312 L119 hL119 σ x5 y0 x9 x10 hF H locs ls hP hS (lv_sub hl [1, 2, 0, 3, 4] rfl)
  have B272 : ∀ (L119 : sm_S → Int32 → Int32 → Int32 → Int64 → Prop) (hL119 : ∀ (σ : sm_S) (x5 : Int32) (x8 : Int32) (x9 : Int32) (x10 : Int64), L119 σ x5 x8 x9 x10 → sm_J p l e (headSpec wp_X12_value_ { frames := 2, cells := 0, slots := 0, locals := 46 }).room s m ([.ref (α.1 1), .int p1, .int p2, .long p3, .int p4] : List Value).toArray below meth c (MQ below (va_Ql K (sm_B sm_wM D α) A) ([.ref (α.1 1), .int p1, .int p2, .long p3, .int p4] : List Value).toArray s 0 0 A) D A 14 (sm_wM σ α) 119 [(0, .ref (α.1 1)), (5, .int x5), (8, .int x8), (9, .int x9), (10, .long x10)] []) (σ : sm_S) (x5 : Int32) (x8 : Int32) (x10 : Int64) (x12 : Int32) (y0 : Int32), mp_X12_value__272 L119 K σ x5 x8 x10 x12 y0 → sm_J p l e (headSpec wp_X12_value_ { frames := 2, cells := 0, slots := 0, locals := 46 }).room s m ([.ref (α.1 1), .int p1, .int p2, .long p3, .int p4] : List Value).toArray below meth c (MQ below (va_Ql K (sm_B sm_wM D α) A) ([.ref (α.1 1), .int p1, .int p2, .long p3, .int p4] : List Value).toArray s 0 0 A) D A 14 (sm_wM σ α) 272 [(0, .ref (α.1 1)), (5, .int x5), (8, .int x8), (10, .long x10), (12, .int x12)] [.int y0] := by
    intro L119 hL119 σ x5 x8 x10 x12 y0 hF H locs ls hP hS hl
    unfold mp_X12_value__272 at hF
    refine lv_istore (lv' := [(9, .int y0), (0, .ref (α.1 1)), (5, .int x5), (8, .int x8), (10, .long x10), (12, .int x12)]) hx hb dX12_value__272 hl (by decide) rfl (fun ls hl => ?_)
    refine lv_aload_n hx hb dX12_value__274 rfl (lv_at hl 1 rfl) ?_
    refine lv_iload hx hb dX12_value__275 (lv_at hl 3 rfl) ?_
    refine lv_iload hx hb dX12_value__277 (lv_at hl 5 rfl) ?_
    refine sm_vi (As := [.int x8, .int x12]) (rest := []) hP hK hD hE hS hA ⟨hx, hb, hml, hown, hts⟩ hl.1 (c_X12_itemCell l D H.size t0 σ α x8 x12 _ hF) (cwV 2 hts wg_X12_value__X12_itemCell_403 rfl rfl rfl (by decide +kernel) ⟨Nat.le_of_ble_eq_true rfl, Nat.le_of_ble_eq_true rfl⟩) (va_recv hK hP (ci := 12) (q0 := 1) rfl (sm_gX12 σ α)) rfl rfl (Nat.le_of_ble_eq_true rfl) dX12_value__279 ⟨Nat.zero_le _, Nat.zero_le _⟩ (fun r12 σ11 H locs hF hP hS => ?_)
    refine lv_istore (lv' := [(13, .int r12), (9, .int y0), (0, .ref (α.1 1)), (5, .int x5), (8, .int x8), (10, .long x10), (12, .int x12)]) hx hb dX12_value__282 hl (by decide) rfl (fun ls hl => ?_)
    refine lv_iload hx hb dX12_value__284 (lv_at hl 0 rfl) ?_
    refine lv_iconst (v := -1) hx hb dX12_value__286 (by decide) ?_
    refine lv_icmp_ne (tgt := 303) hx hb dX12_value__287 (by decide) (fun h13 => ?_) (fun h13 => ?_)
    · replace hF := hF.1 h13
      refine lv_aload_n hx hb dX12_value__303 rfl (lv_at hl 2 rfl) ?_
      refine va_get (D := D) (ci := 12) (v := .ref (α.1 31)) (C := RX12) (T := TX12) (N := 42) hx hb hts in_X12 hown hK hP 1 (sm_gX12 σ11 α) rfl 16 (by decide) k_6 (fun _ h9 => h9) rfl dX12_value__304 ?_
      refine lv_iload hx hb dX12_value__307 (lv_at hl 0 rfl) ?_
      obtain ⟨h14, hF⟩ := hF
      refine va_iald (n := (σ11.2.2.1 31)) (f := (σ11.2.2.2.1 31)) hx hb hK hP 31 29 (sm_aM31 σ11 α) (sm_yM31 α) h14 dX12_value__309 ?_
      exact B310 L119 hL119 σ11 x5 y0 x10 ((σ11.2.2.2.1 31) r12.toNatClampNeg) hF H locs ls hP hS (lv_sub hl [2, 3, 1, 5] rfl)
    · replace hF := hF.2 h13
      refine lv_iload hx hb dX12_value__290 (lv_at hl 1 rfl) ?_
      refine lv_if_eq (tgt := 299) hx hb dX12_value__292 (by decide) (fun h15 => ?_) (fun h15 => ?_)
      · replace hF := hF.1 h15
        refine lv_iconst (v := 0) hx hb dX12_value__299 (by decide) ?_
        refine lv_goto (tgt := 310) hx hb dX12_value__300 (by decide) ?_
        exact B310 L119 hL119 σ11 x5 y0 x10 0 hF H locs ls hP hS (lv_sub hl [2, 3, 1, 5] rfl)
      · replace hF := hF.2 h15
        refine lv_iconst (v := -1) hx hb dX12_value__295 (by decide) ?_
        refine lv_goto (tgt := 310) hx hb dX12_value__296 (by decide) ?_
        exact B310 L119 hL119 σ11 x5 y0 x10 (-1) hF H locs ls hP hS (lv_sub hl [2, 3, 1, 5] rfl)
  have B219 : ∀ (L119 : sm_S → Int32 → Int32 → Int32 → Int64 → Prop) (hL119 : ∀ (σ : sm_S) (x5 : Int32) (x8 : Int32) (x9 : Int32) (x10 : Int64), L119 σ x5 x8 x9 x10 → sm_J p l e (headSpec wp_X12_value_ { frames := 2, cells := 0, slots := 0, locals := 46 }).room s m ([.ref (α.1 1), .int p1, .int p2, .long p3, .int p4] : List Value).toArray below meth c (MQ below (va_Ql K (sm_B sm_wM D α) A) ([.ref (α.1 1), .int p1, .int p2, .long p3, .int p4] : List Value).toArray s 0 0 A) D A 14 (sm_wM σ α) 119 [(0, .ref (α.1 1)), (5, .int x5), (8, .int x8), (9, .int x9), (10, .long x10)] []) (σ : sm_S) (x5 : Int32) (x8 : Int32) (x10 : Int64) (x12 : Int32) (y0 : Int32), mp_X12_value__219 L119 K σ x5 x8 x10 x12 y0 → sm_J p l e (headSpec wp_X12_value_ { frames := 2, cells := 0, slots := 0, locals := 46 }).room s m ([.ref (α.1 1), .int p1, .int p2, .long p3, .int p4] : List Value).toArray below meth c (MQ below (va_Ql K (sm_B sm_wM D α) A) ([.ref (α.1 1), .int p1, .int p2, .long p3, .int p4] : List Value).toArray s 0 0 A) D A 14 (sm_wM σ α) 219 [(0, .ref (α.1 1)), (5, .int x5), (8, .int x8), (10, .long x10), (12, .int x12)] [.int y0] := by
    intro L119 hL119 σ x5 x8 x10 x12 y0 hF H locs ls hP hS hl
    unfold mp_X12_value__219 at hF
    refine lv_istore (lv' := [(9, .int y0), (0, .ref (α.1 1)), (5, .int x5), (8, .int x8), (10, .long x10), (12, .int x12)]) hx hb dX12_value__219 hl (by decide) rfl (fun ls hl => ?_)
    refine lv_aload_n hx hb dX12_value__221 rfl (lv_at hl 1 rfl) ?_
    refine va_get (D := D) (ci := 12) (v := .ref (α.1 31)) (C := RX12) (T := TX12) (N := 42) hx hb hts in_X12 hown hK hP 1 (sm_gX12 σ α) rfl 16 (by decide) k_6 (fun _ h9 => h9) rfl dX12_value__222 ?_
    refine lv_aload_n hx hb dX12_value__225 rfl (lv_at hl 1 rfl) ?_
    refine va_get (D := D) (ci := 12) (v := .ref (α.1 29)) (C := RX12) (T := TX12) (N := 42) hx hb hts in_X12 hown hK hP 1 (sm_gX12 σ α) rfl 12 (by decide) k_7 (fun _ h9 => h9) rfl dX12_value__226 ?_
    refine lv_iload hx hb dX12_value__229 (lv_at hl 3 rfl) ?_
    obtain ⟨h16, hF⟩ := hF
    refine va_iald (n := (σ.2.2.1 29)) (f := (σ.2.2.2.1 29)) hx hb hK hP 29 27 (sm_aM29 σ α) (sm_yM29 α) h16 dX12_value__231 ?_
    refine lv_iload hx hb dX12_value__232 (lv_at hl 5 rfl) ?_
    refine lv_iadd hx hb dX12_value__234 ?_
    obtain ⟨h17, hF⟩ := hF
    refine va_iald (n := (σ.2.2.1 31)) (f := (σ.2.2.2.1 31)) hx hb hK hP 31 29 (sm_aM31 σ α) (sm_yM31 α) h17 dX12_value__235 ?_
    refine lv_topi (fun v18 ev18 => ?_)
    replace hF := hF v18 ev18
    refine lv_istore (lv' := [(8, .int v18), (9, .int y0), (0, .ref (α.1 1)), (5, .int x5), (10, .long x10), (12, .int x12)]) hx hb dX12_value__236 hl (by decide) rfl (fun ls hl => ?_)
    refine lv_goto (tgt := 312) hx hb dX12_value__238 (by decide) ?_
    exact B312 L119 hL119 σ x5 v18 y0 x10 hF H locs ls hP hS (lv_sub hl [2, 3, 0, 1, 4] rfl)
  have B152 : ∀ (L119 : sm_S → Int32 → Int32 → Int32 → Int64 → Prop) (hL119 : ∀ (σ : sm_S) (x5 : Int32) (x8 : Int32) (x9 : Int32) (x10 : Int64), L119 σ x5 x8 x9 x10 → sm_J p l e (headSpec wp_X12_value_ { frames := 2, cells := 0, slots := 0, locals := 46 }).room s m ([.ref (α.1 1), .int p1, .int p2, .long p3, .int p4] : List Value).toArray below meth c (MQ below (va_Ql K (sm_B sm_wM D α) A) ([.ref (α.1 1), .int p1, .int p2, .long p3, .int p4] : List Value).toArray s 0 0 A) D A 14 (sm_wM σ α) 119 [(0, .ref (α.1 1)), (5, .int x5), (8, .int x8), (9, .int x9), (10, .long x10)] []) (σ : sm_S), mp_X12_value__152 L119 K σ → sm_J p l e (headSpec wp_X12_value_ { frames := 2, cells := 0, slots := 0, locals := 46 }).room s m ([.ref (α.1 1), .int p1, .int p2, .long p3, .int p4] : List Value).toArray below meth c (MQ below (va_Ql K (sm_B sm_wM D α) A) ([.ref (α.1 1), .int p1, .int p2, .long p3, .int p4] : List Value).toArray s 0 0 A) D A 14 (sm_wM σ α) 152 [] [] := by
    intro L119 hL119 σ hF H locs ls hP hS hl
    unfold mp_X12_value__152 at hF
    refine lv_ldc2 (v := -1) hx hb hown k_8 dX12_value__152 ?_
    exact W.lret (v := (-1)) hx hb hr (fun t ht hW => ⟨⟨(-1), σ, rfl, hF, (by unfold sm_B; rw [ht]; exact hP)⟩, hS.F ht⟩) hS.2.2 dX12_value__155
  have B119 : ∀ (n : Nat) (σ : sm_S) (x5 : Int32) (x8 : Int32) (x9 : Int32) (x10 : Int64), mp_X12_value__119 K n σ x5 x8 x9 x10 → sm_J p l e (headSpec wp_X12_value_ { frames := 2, cells := 0, slots := 0, locals := 46 }).room s m ([.ref (α.1 1), .int p1, .int p2, .long p3, .int p4] : List Value).toArray below meth c (MQ below (va_Ql K (sm_B sm_wM D α) A) ([.ref (α.1 1), .int p1, .int p2, .long p3, .int p4] : List Value).toArray s 0 0 A) D A 14 (sm_wM σ α) 119 [(0, .ref (α.1 1)), (5, .int x5), (8, .int x8), (9, .int x9), (10, .long x10)] [] := by
    intro n119
    induction n119 with
    | zero =>
      intro σ x5 x8 x9 x10 hF
      exact hF.elim
    | succ n119 ih119 =>
      intro σ x5 x8 x9 x10 hF H locs ls hP hS hl
      unfold mp_X12_value__119 at hF
      refine lv_lload hx hb dX12_value__119 (lv_at hl 4 rfl) ?_
      refine lv_ldc2 (v := 4095) hx hb hown k_9 dX12_value__121 ?_
      refine lv_land hx hb dX12_value__124 ?_
      refine lv_lconst (v := 0) hx hb dX12_value__125 (by decide) ?_
      refine W.lcmp hx hb dX12_value__126 ?_
      refine lv_if_eq (tgt := 322) hx hb dX12_value__127 (by decide) (fun h19 => ?_) (fun h19 => ?_)
      · replace hF := hF.1 h19
        refine lv_iload hx hb dX12_value__322 (lv_at hl 3 rfl) ?_
        refine lv_if_ne (tgt := 341) hx hb dX12_value__324 (by decide) (fun h20 => ?_) (fun h20 => ?_)
        · replace hF := hF.1 h20
          refine lv_iload hx hb dX12_value__341 (lv_at hl 2 rfl) ?_
          refine lv_iconst (v := -1) hx hb dX12_value__343 (by decide) ?_
          refine lv_icmp_ne (tgt := 358) hx hb dX12_value__344 (by decide) (fun h21 => ?_) (fun h21 => ?_)
          · replace hF := hF.1 h21
            refine lv_aload_n hx hb dX12_value__358 rfl (lv_at hl 0 rfl) ?_
            refine va_get (D := D) (ci := 12) (v := .ref (α.1 25)) (C := RX12) (T := TX12) (N := 42) hx hb hts in_X12 hown hK hP 1 (sm_gX12 σ α) rfl 8 (by decide) k_10 (fun _ h9 => h9) rfl dX12_value__359 ?_
            refine lv_iload hx hb dX12_value__362 (lv_at hl 2 rfl) ?_
            obtain ⟨h22, hF⟩ := hF
            refine va_bald (n := (σ.2.2.1 25)) (f := (σ.2.2.2.1 25)) hx hb hK hP 25 23 (sm_aM25 σ α) (sm_yM25 α) h22 dX12_value__364 ?_
            refine lv_if_ne (tgt := 372) hx hb dX12_value__365 (by decide) (fun h23 => ?_) (fun h23 => ?_)
            · replace hF := hF.1 h23
              refine lv_iconst (v := 0) hx hb dX12_value__372 (by decide) ?_
              exact B373 σ x5 x8 0 hF H locs ls hP hS (lv_sub hl [0, 1, 2] rfl)
            · replace hF := hF.2 h23
              refine lv_iconst (v := 1) hx hb dX12_value__368 (by decide) ?_
              refine lv_goto (tgt := 373) hx hb dX12_value__369 (by decide) ?_
              exact B373 σ x5 x8 1 hF H locs ls hP hS (lv_sub hl [0, 1, 2] rfl)
          · replace hF := hF.2 h21
            refine lv_iload hx hb dX12_value__347 (lv_at hl 1 rfl) ?_
            refine lv_if_ne (tgt := 356) hx hb dX12_value__349 (by decide) (fun h24 => ?_) (fun h24 => ?_)
            · replace hF := hF.1 h24
              refine lv_lconst (v := 0) hx hb dX12_value__356 (by decide) ?_
              exact B357 σ 0 hF H locs ls hP hS (lv_sub hl [] rfl)
            · replace hF := hF.2 h24
              refine lv_lconst (v := 1) hx hb dX12_value__352 (by decide) ?_
              refine lv_goto (tgt := 357) hx hb dX12_value__353 (by decide) ?_
              exact B357 σ 1 hF H locs ls hP hS (lv_sub hl [] rfl)
        · replace hF := hF.2 h20
          refine lv_iload hx hb dX12_value__327 (lv_at hl 1 rfl) ?_
          refine lv_iconst (v := 1) hx hb dX12_value__329 (by decide) ?_
          refine lv_icmp_ne (tgt := 339) hx hb dX12_value__330 (by decide) (fun h25 => ?_) (fun h25 => ?_)
          · replace hF := hF.1 h25
            refine lv_lconst (v := 0) hx hb dX12_value__339 (by decide) ?_
            exact B340 σ 0 hF H locs ls hP hS (lv_sub hl [] rfl)
          · replace hF := hF.2 h25
            refine lv_iload hx hb dX12_value__333 (lv_at hl 2 rfl) ?_
            refine lv_i2l hx hb dX12_value__335 rfl ?_
            refine lv_goto (tgt := 340) hx hb dX12_value__336 (by decide) ?_
            exact B340 σ x8.toInt64 hF H locs ls hP hS (lv_sub hl [] rfl)
      · replace hF := hF.2 h19
        refine lv_lload hx hb dX12_value__130 (lv_at hl 4 rfl) ?_
        refine lv_ldc2 (v := 4095) hx hb hown k_9 dX12_value__132 ?_
        refine lv_land hx hb dX12_value__135 ?_
        refine lv_l2i hx hb dX12_value__136 rfl ?_
        refine lv_iconst (v := 1) hx hb dX12_value__137 (by decide) ?_
        refine lv_isub hx hb dX12_value__138 ?_
        refine lv_topi (fun v26 ev26 => ?_)
        replace hF := hF v26 ev26
        refine lv_istore (lv' := [(12, .int v26), (0, .ref (α.1 1)), (5, .int x5), (8, .int x8), (9, .int x9), (10, .long x10)]) hx hb dX12_value__139 hl (by decide) rfl (fun ls hl => ?_)
        refine lv_iload hx hb dX12_value__141 (lv_at hl 4 rfl) ?_
        refine lv_if_eq (tgt := 152) hx hb dX12_value__143 (by decide) (fun h27 => ?_) (fun h27 => ?_)
        · replace hF := hF.1 h27
          exact B152 (mp_X12_value__119 K n119) ih119 σ hF H locs ls hP hS (lv_sub hl [] rfl)
        · replace hF := hF.2 h27
          refine lv_iload hx hb dX12_value__146 (lv_at hl 3 rfl) ?_
          refine lv_iconst (v := -1) hx hb dX12_value__148 (by decide) ?_
          refine lv_icmp_ne (tgt := 156) hx hb dX12_value__149 (by decide) (fun h28 => ?_) (fun h28 => ?_)
          · replace hF := hF.1 h28
            refine lv_aload_n hx hb dX12_value__156 rfl (lv_at hl 1 rfl) ?_
            refine va_get (D := D) (ci := 12) (v := .ref (α.1 25)) (C := RX12) (T := TX12) (N := 42) hx hb hts in_X12 hown hK hP 1 (sm_gX12 σ α) rfl 8 (by decide) k_10 (fun _ h9 => h9) rfl dX12_value__157 ?_
            refine lv_iload hx hb dX12_value__160 (lv_at hl 3 rfl) ?_
            obtain ⟨h29, hF⟩ := hF
            refine va_bald (n := (σ.2.2.1 25)) (f := (σ.2.2.2.1 25)) hx hb hK hP 25 23 (sm_aM25 σ α) (sm_yM25 α) h29 dX12_value__162 ?_
            refine lv_if_ne (tgt := 241) hx hb dX12_value__163 (by decide) (fun h30 => ?_) (fun h30 => ?_)
            · replace hF := hF.1 h30
              refine lv_iload hx hb dX12_value__241 (lv_at hl 0 rfl) ?_
              refine lv_aload_n hx hb dX12_value__243 rfl (lv_at hl 1 rfl) ?_
              refine va_get (D := D) (ci := 12) (v := .ref (α.1 26)) (C := RX12) (T := TX12) (N := 42) hx hb hts in_X12 hown hK hP 1 (sm_gX12 σ α) rfl 9 (by decide) k_1 (fun _ h9 => h9) rfl dX12_value__244 ?_
              refine lv_iload hx hb dX12_value__247 (lv_at hl 3 rfl) ?_
              obtain ⟨h31, hF⟩ := hF
              refine va_iald (n := (σ.2.2.1 26)) (f := (σ.2.2.2.1 26)) hx hb hK hP 26 24 (sm_aM26 σ α) (sm_yM26 α) h31 dX12_value__249 ?_
              refine lv_icmp_lt (tgt := 257) hx hb dX12_value__250 (by decide) (fun h32 => ?_) (fun h32 => ?_)
              · replace hF := hF.1 h32
                refine lv_aload_n hx hb dX12_value__257 rfl (lv_at hl 1 rfl) ?_
                refine va_get (D := D) (ci := 12) (v := .ref (α.1 28)) (C := RX12) (T := TX12) (N := 42) hx hb hts in_X12 hown hK hP 1 (sm_gX12 σ α) rfl 11 (by decide) k_2 (fun _ h9 => h9) rfl dX12_value__258 ?_
                refine lv_iload hx hb dX12_value__261 (lv_at hl 3 rfl) ?_
                obtain ⟨h33, hF⟩ := hF
                refine va_bald (n := (σ.2.2.1 28)) (f := (σ.2.2.2.1 28)) hx hb hK hP 28 26 (sm_aM28 σ α) (sm_yM28 α) h33 dX12_value__263 ?_
                refine lv_if_le (tgt := 271) hx hb dX12_value__264 (by decide) (fun h34 => ?_) (fun h34 => ?_)
                · replace hF := hF.1 h34
                  refine lv_iconst (v := 0) hx hb dX12_value__271 (by decide) ?_
                  exact B272 (mp_X12_value__119 K n119) ih119 σ x5 x8 x10 v26 0 hF H locs ls hP hS (lv_sub hl [1, 2, 3, 5, 0] rfl)
                · replace hF := hF.2 h34
                  refine lv_iconst (v := 1) hx hb dX12_value__267 (by decide) ?_
                  refine lv_goto (tgt := 272) hx hb dX12_value__268 (by decide) ?_
                  exact B272 (mp_X12_value__119 K n119) ih119 σ x5 x8 x10 v26 1 hF H locs ls hP hS (lv_sub hl [1, 2, 3, 5, 0] rfl)
              · replace hF := hF.2 h32
                refine lv_ldc2 (v := -1) hx hb hown k_8 dX12_value__253 ?_
                exact W.lret (v := (-1)) hx hb hr (fun t ht hW => ⟨⟨(-1), σ, rfl, hF, (by unfold sm_B; rw [ht]; exact hP)⟩, hS.F ht⟩) hS.2.2 dX12_value__256
            · replace hF := hF.2 h30
              refine lv_iload hx hb dX12_value__166 (lv_at hl 0 rfl) ?_
              refine lv_aload_n hx hb dX12_value__168 rfl (lv_at hl 1 rfl) ?_
              refine va_get (D := D) (ci := 12) (v := .ref (α.1 0)) (C := RX12) (T := TX12) (N := 42) hx hb hts in_X12 hown hK hP 1 (sm_gX12 σ α) rfl 0 (by decide) k_0 (fun _ h9 => h9) rfl dX12_value__169 ?_
              refine va_getN (D := D) (ci := 11) (v := .ref (α.1 6)) (C := RX11) (T := TX11) (N := 28) hx hb hts in_X11 hown hK hP 0 (sm_gX11 σ α) rfl 10 (by decide) (va_Nw.use rfl (hE.1 (.fieldLinkNest "SteadyMachineModel" 292 "SteadyMachineModel$Image" "fieldCounts" "[I" "SteadyMachineModel") (by decide +kernel))) (fun _ h9 => h9) rfl dX12_value__172 ?_
              refine lv_aload_n hx hb dX12_value__175 rfl (lv_at hl 1 rfl) ?_
              refine va_get (D := D) (ci := 12) (v := .ref (α.1 26)) (C := RX12) (T := TX12) (N := 42) hx hb hts in_X12 hown hK hP 1 (sm_gX12 σ α) rfl 9 (by decide) k_1 (fun _ h9 => h9) rfl dX12_value__176 ?_
              refine lv_iload hx hb dX12_value__179 (lv_at hl 3 rfl) ?_
              obtain ⟨h35, hF⟩ := hF
              refine va_iald (n := (σ.2.2.1 26)) (f := (σ.2.2.2.1 26)) hx hb hK hP 26 24 (sm_aM26 σ α) (sm_yM26 α) h35 dX12_value__181 ?_
              obtain ⟨h36, hF⟩ := hF
              refine va_iald (n := (σ.2.2.1 6)) (f := (σ.2.2.2.1 6)) hx hb hK hP 6 4 (sm_aM6 σ α) (sm_yM6 α) h36 dX12_value__182 ?_
              refine lv_icmp_lt (tgt := 190) hx hb dX12_value__183 (by decide) (fun h37 => ?_) (fun h37 => ?_)
              · replace hF := hF.1 h37
                refine lv_aload_n hx hb dX12_value__190 rfl (lv_at hl 1 rfl) ?_
                refine va_get (D := D) (ci := 12) (v := .ref (α.1 0)) (C := RX12) (T := TX12) (N := 42) hx hb hts in_X12 hown hK hP 1 (sm_gX12 σ α) rfl 0 (by decide) k_0 (fun _ h9 => h9) rfl dX12_value__191 ?_
                refine va_getN (D := D) (ci := 11) (v := .ref (α.1 7)) (C := RX11) (T := TX11) (N := 28) hx hb hts in_X11 hown hK hP 0 (sm_gX11 σ α) rfl 11 (by decide) (va_Nw.use rfl (hE.1 (.fieldLinkNest "SteadyMachineModel" 99 "SteadyMachineModel$Image" "fieldTypes" "[I" "SteadyMachineModel") (by decide +kernel))) (fun _ h9 => h9) rfl dX12_value__194 ?_
                refine lv_bipush (v := 15) hx hb dX12_value__197 (by decide) ?_
                refine lv_aload_n hx hb dX12_value__199 rfl (lv_at hl 1 rfl) ?_
                refine va_get (D := D) (ci := 12) (v := .ref (α.1 26)) (C := RX12) (T := TX12) (N := 42) hx hb hts in_X12 hown hK hP 1 (sm_gX12 σ α) rfl 9 (by decide) k_1 (fun _ h9 => h9) rfl dX12_value__200 ?_
                refine lv_iload hx hb dX12_value__203 (lv_at hl 3 rfl) ?_
                obtain ⟨h38, hF⟩ := hF
                refine va_iald (n := (σ.2.2.1 26)) (f := (σ.2.2.2.1 26)) hx hb hK hP 26 24 (sm_aM26 σ α) (sm_yM26 α) h38 dX12_value__205 ?_
                refine lv_imul hx hb dX12_value__206 ?_
                refine lv_iload hx hb dX12_value__207 (lv_at hl 0 rfl) ?_
                refine lv_iadd hx hb dX12_value__209 ?_
                obtain ⟨h39, hF⟩ := hF
                refine va_iald (n := (σ.2.2.1 7)) (f := (σ.2.2.2.1 7)) hx hb hK hP 7 5 (sm_aM7 σ α) (sm_yM7 α) h39 dX12_value__210 ?_
                refine lv_if_le (tgt := 218) hx hb dX12_value__211 (by decide) (fun h40 => ?_) (fun h40 => ?_)
                · replace hF := hF.1 h40
                  refine lv_iconst (v := 0) hx hb dX12_value__218 (by decide) ?_
                  exact B219 (mp_X12_value__119 K n119) ih119 σ x5 x8 x10 v26 0 hF H locs ls hP hS (lv_sub hl [1, 2, 3, 5, 0] rfl)
                · replace hF := hF.2 h40
                  refine lv_iconst (v := 1) hx hb dX12_value__214 (by decide) ?_
                  refine lv_goto (tgt := 219) hx hb dX12_value__215 (by decide) ?_
                  exact B219 (mp_X12_value__119 K n119) ih119 σ x5 x8 x10 v26 1 hF H locs ls hP hS (lv_sub hl [1, 2, 3, 5, 0] rfl)
              · replace hF := hF.2 h37
                refine lv_ldc2 (v := -1) hx hb hown k_8 dX12_value__186 ?_
                exact W.lret (v := (-1)) hx hb hr (fun t ht hW => ⟨⟨(-1), σ, rfl, hF, (by unfold sm_B; rw [ht]; exact hP)⟩, hS.F ht⟩) hS.2.2 dX12_value__189
          · replace hF := hF.2 h28
            exact B152 (mp_X12_value__119 K n119) ih119 σ hF H locs ls hP hS (lv_sub hl [] rfl)
  have B114 : ∀ (σ : sm_S) (x3 : Int64) (x5 : Int32) (x8 : Int32) (y0 : Int32), mp_X12_value__114 K σ x3 x5 x8 y0 → sm_J p l e (headSpec wp_X12_value_ { frames := 2, cells := 0, slots := 0, locals := 46 }).room s m ([.ref (α.1 1), .int p1, .int p2, .long p3, .int p4] : List Value).toArray below meth c (MQ below (va_Ql K (sm_B sm_wM D α) A) ([.ref (α.1 1), .int p1, .int p2, .long p3, .int p4] : List Value).toArray s 0 0 A) D A 14 (sm_wM σ α) 114 [(0, .ref (α.1 1)), (3, .long x3), (5, .int x5), (8, .int x8)] [.int y0] := by
    intro σ x3 x5 x8 y0 hF H locs ls hP hS hl
    unfold mp_X12_value__114 at hF
    refine lv_istore (lv' := [(9, .int y0), (0, .ref (α.1 1)), (3, .long x3), (5, .int x5), (8, .int x8)]) hx hb dX12_value__114 hl (by decide) rfl (fun ls hl => ?_)
    refine lv_lload_n hx hb dX12_value__116 rfl (lv_at hl 2 rfl) ?_
    refine lv_lstore (lv' := [(10, .long x3), (9, .int y0), (0, .ref (α.1 1)), (3, .long x3), (5, .int x5), (8, .int x8)]) hx hb dX12_value__117 hl (by decide) rfl (fun ls hl => ?_)
    obtain ⟨n119, hF⟩ := hF
    exact B119 n119 σ x5 x8 y0 x3 hF H locs ls hP hS (lv_sub hl [2, 4, 5, 1, 0] rfl)
  have B109 : ∀ (σ : sm_S) (x3 : Int64) (x5 : Int32) (x8 : Int32), mp_X12_value__109 K σ x3 x5 x8 → sm_J p l e (headSpec wp_X12_value_ { frames := 2, cells := 0, slots := 0, locals := 46 }).room s m ([.ref (α.1 1), .int p1, .int p2, .long p3, .int p4] : List Value).toArray below meth c (MQ below (va_Ql K (sm_B sm_wM D α) A) ([.ref (α.1 1), .int p1, .int p2, .long p3, .int p4] : List Value).toArray s 0 0 A) D A 14 (sm_wM σ α) 109 [(0, .ref (α.1 1)), (3, .long x3), (5, .int x5), (8, .int x8)] [] := by
    intro σ x3 x5 x8 hF H locs ls hP hS hl
    unfold mp_X12_value__109 at hF
    refine lv_iconst (v := 1) hx hb dX12_value__109 (by decide) ?_
    refine lv_goto (tgt := 114) hx hb dX12_value__110 (by decide) ?_
    exact B114 σ x3 x5 x8 1 hF H locs ls hP hS (lv_sub hl [0, 1, 2, 3] rfl)
  have B92 : ∀ (σ : sm_S) (x3 : Int64) (x5 : Int32) (x6 : Int32) (x7 : Int32) (y0 : Int32), mp_X12_value__92 K σ x3 x5 x6 x7 y0 → sm_J p l e (headSpec wp_X12_value_ { frames := 2, cells := 0, slots := 0, locals := 46 }).room s m ([.ref (α.1 1), .int p1, .int p2, .long p3, .int p4] : List Value).toArray below meth c (MQ below (va_Ql K (sm_B sm_wM D α) A) ([.ref (α.1 1), .int p1, .int p2, .long p3, .int p4] : List Value).toArray s 0 0 A) D A 14 (sm_wM σ α) 92 [(0, .ref (α.1 1)), (3, .long x3), (5, .int x5), (6, .int x6), (7, .int x7)] [.int y0] := by
    intro σ x3 x5 x6 x7 y0 hF H locs ls hP hS hl
    unfold mp_X12_value__92 at hF
    refine lv_istore (lv' := [(8, .int y0), (0, .ref (α.1 1)), (3, .long x3), (5, .int x5), (6, .int x6), (7, .int x7)]) hx hb dX12_value__92 hl (by decide) rfl (fun ls hl => ?_)
    refine lv_iload hx hb dX12_value__94 (lv_at hl 4 rfl) ?_
    refine lv_if_ne (tgt := 109) hx hb dX12_value__96 (by decide) (fun h41 => ?_) (fun h41 => ?_)
    · replace hF := hF.1 h41
      exact B109 σ x3 x5 y0 hF H locs ls hP hS (lv_sub hl [1, 2, 3, 0] rfl)
    · replace hF := hF.2 h41
      refine lv_aload_n hx hb dX12_value__99 rfl (lv_at hl 1 rfl) ?_
      refine va_get (D := D) (ci := 12) (v := .ref (α.1 37)) (C := RX12) (T := TX12) (N := 42) hx hb hts in_X12 hown hK hP 1 (sm_gX12 σ α) rfl 23 (by decide) k_11 (fun _ h9 => h9) rfl dX12_value__100 ?_
      refine lv_iload hx hb dX12_value__103 (lv_at hl 5 rfl) ?_
      obtain ⟨h42, hF⟩ := hF
      refine va_zald (n := (σ.2.2.1 37)) (f := (σ.2.2.2.1 37)) hx hb hK hP 37 35 (sm_aM37 σ α) (sm_yM37 α) h42 dX12_value__105 ?_
      refine lv_if_eq (tgt := 113) hx hb dX12_value__106 (by decide) (fun h43 => ?_) (fun h43 => ?_)
      · replace hF := hF.1 h43
        refine lv_iconst (v := 0) hx hb dX12_value__113 (by decide) ?_
        exact B114 σ x3 x5 y0 0 hF H locs ls hP hS (lv_sub hl [1, 2, 3, 0] rfl)
      · replace hF := hF.2 h43
        exact B109 σ x3 x5 y0 hF H locs ls hP hS (lv_sub hl [1, 2, 3, 0] rfl)
  have B69 : ∀ (σ : sm_S), mp_X12_value__69 K σ → sm_J p l e (headSpec wp_X12_value_ { frames := 2, cells := 0, slots := 0, locals := 46 }).room s m ([.ref (α.1 1), .int p1, .int p2, .long p3, .int p4] : List Value).toArray below meth c (MQ below (va_Ql K (sm_B sm_wM D α) A) ([.ref (α.1 1), .int p1, .int p2, .long p3, .int p4] : List Value).toArray s 0 0 A) D A 14 (sm_wM σ α) 69 [] [] := by
    intro σ hF H locs ls hP hS hl
    unfold mp_X12_value__69 at hF
    refine lv_ldc2 (v := -1) hx hb hown k_8 dX12_value__69 ?_
    exact W.lret (v := (-1)) hx hb hr (fun t ht hW => ⟨⟨(-1), σ, rfl, hF, (by unfold sm_B; rw [ht]; exact hP)⟩, hS.F ht⟩) hS.2.2 dX12_value__72
  have B58 : ∀ (σ : sm_S) (x3 : Int64) (x5 : Int32) (x6 : Int32) (x7 : Int32), mp_X12_value__58 K σ x3 x5 x6 x7 → sm_J p l e (headSpec wp_X12_value_ { frames := 2, cells := 0, slots := 0, locals := 46 }).room s m ([.ref (α.1 1), .int p1, .int p2, .long p3, .int p4] : List Value).toArray below meth c (MQ below (va_Ql K (sm_B sm_wM D α) A) ([.ref (α.1 1), .int p1, .int p2, .long p3, .int p4] : List Value).toArray s 0 0 A) D A 14 (sm_wM σ α) 58 [(0, .ref (α.1 1)), (3, .long x3), (5, .int x5), (6, .int x6), (7, .int x7)] [] := by
    intro σ x3 x5 x6 x7 hF H locs ls hP hS hl
    unfold mp_X12_value__58 at hF
    refine lv_iload hx hb dX12_value__58 (lv_at hl 2 rfl) ?_
    refine lv_if_lt (tgt := 69) hx hb dX12_value__60 (by decide) (fun h44 => ?_) (fun h44 => ?_)
    · replace hF := hF.1 h44
      exact B69 σ hF H locs ls hP hS (lv_sub hl [] rfl)
    · replace hF := hF.2 h44
      refine lv_iload hx hb dX12_value__63 (lv_at hl 2 rfl) ?_
      refine lv_iconst (v := 2) hx hb dX12_value__65 (by decide) ?_
      refine lv_icmp_le (tgt := 73) hx hb dX12_value__66 (by decide) (fun h45 => ?_) (fun h45 => ?_)
      · replace hF := hF.1 h45
        refine lv_iload hx hb dX12_value__73 (lv_at hl 3 rfl) ?_
        refine lv_if_eq (tgt := 85) hx hb dX12_value__75 (by decide) (fun h46 => ?_) (fun h46 => ?_)
        · replace hF := hF.1 h46
          refine lv_aload_n hx hb dX12_value__85 rfl (lv_at hl 0 rfl) ?_
          refine va_get (D := D) (ci := 12) (v := .ref (α.1 36)) (C := RX12) (T := TX12) (N := 42) hx hb hts in_X12 hown hK hP 1 (sm_gX12 σ α) rfl 22 (by decide) k_12 (fun _ h9 => h9) rfl dX12_value__86 ?_
          refine lv_iload hx hb dX12_value__89 (lv_at hl 4 rfl) ?_
          obtain ⟨h47, hF⟩ := hF
          refine va_iald (n := (σ.2.2.1 36)) (f := (σ.2.2.2.1 36)) hx hb hK hP 36 34 (sm_aM36 σ α) (sm_yM36 α) h47 dX12_value__91 ?_
          exact B92 σ x3 x5 x6 x7 ((σ.2.2.2.1 36) x7.toNatClampNeg) hF H locs ls hP hS (lv_sub hl [0, 1, 2, 3, 4] rfl)
        · replace hF := hF.2 h46
          refine lv_aload_n hx hb dX12_value__78 rfl (lv_at hl 0 rfl) ?_
          refine va_get (D := D) (ci := 12) (v := .int (σ.1 16)) (C := RX12) (T := TX12) (N := 42) hx hb hts in_X12 hown hK hP 1 (sm_gX12 σ α) rfl 25 (by decide) k_13 (fun _ h9 => h9) rfl dX12_value__79 ?_
          refine lv_goto (tgt := 92) hx hb dX12_value__82 (by decide) ?_
          exact B92 σ x3 x5 x6 x7 (σ.1 16) hF H locs ls hP hS (lv_sub hl [0, 1, 2, 3, 4] rfl)
      · replace hF := hF.2 h45
        exact B69 σ hF H locs ls hP hS (lv_sub hl [] rfl)
  have B45 : ∀ (σ : sm_S) (x3 : Int64) (x5 : Int32) (x6 : Int32) (y0 : Int32), mp_X12_value__45 K σ x3 x5 x6 y0 → sm_J p l e (headSpec wp_X12_value_ { frames := 2, cells := 0, slots := 0, locals := 46 }).room s m ([.ref (α.1 1), .int p1, .int p2, .long p3, .int p4] : List Value).toArray below meth c (MQ below (va_Ql K (sm_B sm_wM D α) A) ([.ref (α.1 1), .int p1, .int p2, .long p3, .int p4] : List Value).toArray s 0 0 A) D A 14 (sm_wM σ α) 45 [(0, .ref (α.1 1)), (3, .long x3), (5, .int x5), (6, .int x6)] [.int y0] := by
    intro σ x3 x5 x6 y0 hF H locs ls hP hS hl
    unfold mp_X12_value__45 at hF
    refine lv_istore (lv' := [(7, .int y0), (0, .ref (α.1 1)), (3, .long x3), (5, .int x5), (6, .int x6)]) hx hb dX12_value__45 hl (by decide) rfl (fun ls hl => ?_)
    refine lv_iload hx hb dX12_value__47 (lv_at hl 4 rfl) ?_
    refine lv_if_ne (tgt := 58) hx hb dX12_value__49 (by decide) (fun h48 => ?_) (fun h48 => ?_)
    · replace hF := hF.1 h48
      exact B58 σ x3 x5 x6 y0 hF H locs ls hP hS (lv_sub hl [1, 2, 3, 4, 0] rfl)
    · replace hF := hF.2 h48
      refine lv_iload hx hb dX12_value__52 (lv_at hl 0 rfl) ?_
      refine lv_iconst (v := -1) hx hb dX12_value__54 (by decide) ?_
      refine lv_icmp_eq (tgt := 69) hx hb dX12_value__55 (by decide) (fun h49 => ?_) (fun h49 => ?_)
      · replace hF := hF.1 h49
        exact B69 σ hF H locs ls hP hS (lv_sub hl [] rfl)
      · replace hF := hF.2 h49
        exact B58 σ x3 x5 x6 y0 hF H locs ls hP hS (lv_sub hl [1, 2, 3, 4, 0] rfl)
  have B28 : ∀ (σ : sm_S) (x1 : Int32) (x2 : Int32) (x3 : Int64) (x5 : Int32) (y0 : Int32), mp_X12_value__28 K σ x1 x2 x3 x5 y0 → sm_J p l e (headSpec wp_X12_value_ { frames := 2, cells := 0, slots := 0, locals := 46 }).room s m ([.ref (α.1 1), .int p1, .int p2, .long p3, .int p4] : List Value).toArray below meth c (MQ below (va_Ql K (sm_B sm_wM D α) A) ([.ref (α.1 1), .int p1, .int p2, .long p3, .int p4] : List Value).toArray s 0 0 A) D A 14 (sm_wM σ α) 28 [(0, .ref (α.1 1)), (1, .int x1), (2, .int x2), (3, .long x3), (5, .int x5)] [.int y0] := by
    intro σ x1 x2 x3 x5 y0 hF H locs ls hP hS hl
    unfold mp_X12_value__28 at hF
    refine lv_istore (lv' := [(6, .int y0), (0, .ref (α.1 1)), (1, .int x1), (2, .int x2), (3, .long x3), (5, .int x5)]) hx hb dX12_value__28 hl (by decide) rfl (fun ls hl => ?_)
    refine lv_iload hx hb dX12_value__30 (lv_at hl 0 rfl) ?_
    refine lv_if_eq (tgt := 39) hx hb dX12_value__32 (by decide) (fun h50 => ?_) (fun h50 => ?_)
    · replace hF := hF.1 h50
      refine lv_aload_n hx hb dX12_value__39 rfl (lv_at hl 1 rfl) ?_
      refine lv_iload_n hx hb dX12_value__40 rfl (lv_at hl 2 rfl) ?_
      refine lv_iload_n hx hb dX12_value__41 rfl (lv_at hl 3 rfl) ?_
      refine sm_vi (As := [.int x1, .int x2]) (rest := []) hP hK hD hE hS hA ⟨hx, hb, hml, hown, hts⟩ hl.1 (c_X12_placeOfValue l D H.size t0 σ α x1 x2 _ hF) (cwV 2 hts wg_X12_value__X12_placeOfValue_414 rfl rfl rfl (by decide +kernel) ⟨Nat.le_of_ble_eq_true rfl, Nat.le_of_ble_eq_true rfl⟩) (va_recv hK hP (ci := 12) (q0 := 1) rfl (sm_gX12 σ α)) rfl rfl (Nat.le_of_ble_eq_true rfl) dX12_value__42 ⟨Nat.zero_le _, Nat.zero_le _⟩ (fun r52 σ51 H locs hF hP hS => ?_)
      exact B45 σ51 x3 x5 y0 r52 hF H locs ls hP hS (lv_sub hl [1, 4, 5, 0] rfl)
    · replace hF := hF.2 h50
      refine lv_iconst (v := -1) hx hb dX12_value__35 (by decide) ?_
      refine lv_goto (tgt := 45) hx hb dX12_value__36 (by decide) ?_
      exact B45 σ x3 x5 y0 (-1) hF H locs ls hP hS (lv_sub hl [1, 4, 5, 0] rfl)
  have B27 : ∀ (σ : sm_S) (x1 : Int32) (x2 : Int32) (x3 : Int64) (x5 : Int32), mp_X12_value__27 K σ x1 x2 x3 x5 → sm_J p l e (headSpec wp_X12_value_ { frames := 2, cells := 0, slots := 0, locals := 46 }).room s m ([.ref (α.1 1), .int p1, .int p2, .long p3, .int p4] : List Value).toArray below meth c (MQ below (va_Ql K (sm_B sm_wM D α) A) ([.ref (α.1 1), .int p1, .int p2, .long p3, .int p4] : List Value).toArray s 0 0 A) D A 14 (sm_wM σ α) 27 [(0, .ref (α.1 1)), (1, .int x1), (2, .int x2), (3, .long x3), (5, .int x5)] [] := by
    intro σ x1 x2 x3 x5 hF H locs ls hP hS hl
    unfold mp_X12_value__27 at hF
    refine lv_iconst (v := 0) hx hb dX12_value__27 (by decide) ?_
    exact B28 σ x1 x2 x3 x5 0 hF H locs ls hP hS (lv_sub hl [0, 1, 2, 3, 4] rfl)
  unfold mp_X12_value_ at hF
  revert hP hS
  generalize hLo : ([] : List Loc) = locs
  suffices h9 : ∀ (H : Heap) (locs : List Loc), va_P D vwCl (sm_wM σ α) H → va_S A s.heap H locs → W p l e (headSpec wp_X12_value_ { frames := 2, cells := 0, slots := 0, locals := 46 }).room s m ([.ref (α.1 1), .int p1, .int p2, .long p3, .int p4] : List Value).toArray below meth c H locs 0 0 (MQ below (va_Ql K (sm_B sm_wM D α) A) ([.ref (α.1 1), .int p1, .int p2, .long p3, .int p4] : List Value).toArray s 0 0 A) (F0 m 0 ls []) from fun hP hS => h9 s.heap locs hP hS
  intro H locs hP hS
  refine lv_iload_n hx hb dX12_value__0 rfl (lv_at hl 1 rfl) ?_
  refine lv_iconst (v := -1) hx hb dX12_value__1 (by decide) ?_
  refine lv_icmp_ne (tgt := 27) hx hb dX12_value__2 (by decide) (fun h53 => ?_) (fun h53 => ?_)
  · replace hF := hF.1 h53
    exact B27 σ p1 p2 p3 p4 hF H locs ls hP hS (lv_sub hl [0, 1, 2, 3, 4] rfl)
  · replace hF := hF.2 h53
    refine lv_iload_n hx hb dX12_value__5 rfl (lv_at hl 2 rfl) ?_
    refine lv_if_ne (tgt := 27) hx hb dX12_value__6 (by decide) (fun h54 => ?_) (fun h54 => ?_)
    · replace hF := hF.1 h54
      exact B27 σ p1 p2 p3 p4 hF H locs ls hP hS (lv_sub hl [0, 1, 2, 3, 4] rfl)
    · replace hF := hF.2 h54
      refine lv_aload_n hx hb dX12_value__9 rfl (lv_at hl 0 rfl) ?_
      refine va_get (D := D) (ci := 12) (v := .int (σ.1 17)) (C := RX12) (T := TX12) (N := 42) hx hb hts in_X12 hown hK hP 1 (sm_gX12 σ α) rfl 26 (by decide) k_14 (fun _ h9 => h9) rfl dX12_value__10 ?_
      refine lv_if_le (tgt := 27) hx hb dX12_value__13 (by decide) (fun h55 => ?_) (fun h55 => ?_)
      · replace hF := hF.1 h55
        exact B27 σ p1 p2 p3 p4 hF H locs ls hP hS (lv_sub hl [0, 1, 2, 3, 4] rfl)
      · replace hF := hF.2 h55
        refine lv_aload_n hx hb dX12_value__16 rfl (lv_at hl 0 rfl) ?_
        refine va_get (D := D) (ci := 12) (v := .int (σ.1 15)) (C := RX12) (T := TX12) (N := 42) hx hb hts in_X12 hown hK hP 1 (sm_gX12 σ α) rfl 24 (by decide) k_15 (fun _ h9 => h9) rfl dX12_value__17 ?_
        refine lv_if_eq (tgt := 27) hx hb dX12_value__20 (by decide) (fun h56 => ?_) (fun h56 => ?_)
        · replace hF := hF.1 h56
          exact B27 σ p1 p2 p3 p4 hF H locs ls hP hS (lv_sub hl [0, 1, 2, 3, 4] rfl)
        · replace hF := hF.2 h56
          refine lv_iconst (v := 1) hx hb dX12_value__23 (by decide) ?_
          refine lv_goto (tgt := 28) hx hb dX12_value__24 (by decide) ?_
          exact B28 σ p1 p2 p3 p4 1 hF H locs ls hP hS (lv_sub hl [0, 1, 2, 3, 4] rfl)
theorem dX12_same_0 : decode cX12_same 0 = .ok (.aload_n 0, 1) := by decide +kernel
theorem dX12_same_1 : decode cX12_same 1 = .ok (.iconst 0, 1) := by decide +kernel
theorem dX12_same_2 : decode cX12_same 2 = .ok (.iload_n 1, 1) := by decide +kernel
theorem dX12_same_3 : decode cX12_same 3 = .ok (.invokevirtual 414, 3) := by decide +kernel
theorem dX12_same_6 : decode cX12_same 6 = .ok (.istore_n 3, 1) := by decide +kernel
theorem dX12_same_7 : decode cX12_same 7 = .ok (.aload_n 0, 1) := by decide +kernel
theorem dX12_same_8 : decode cX12_same 8 = .ok (.iconst 0, 1) := by decide +kernel
theorem dX12_same_9 : decode cX12_same 9 = .ok (.iload_n 2, 1) := by decide +kernel
theorem dX12_same_10 : decode cX12_same 10 = .ok (.invokevirtual 414, 3) := by decide +kernel
theorem dX12_same_13 : decode cX12_same 13 = .ok (.istore 4, 2) := by decide +kernel
theorem dX12_same_15 : decode cX12_same 15 = .ok (.iload_n 3, 1) := by decide +kernel
theorem dX12_same_16 : decode cX12_same 16 = .ok (.iconst (-1), 1) := by decide +kernel
theorem dX12_same_17 : decode cX12_same 17 = .ok (.if_icmp .eq 48, 3) := by decide +kernel
theorem dX12_same_20 : decode cX12_same 20 = .ok (.iload 4, 2) := by decide +kernel
theorem dX12_same_22 : decode cX12_same 22 = .ok (.iconst (-1), 1) := by decide +kernel
theorem dX12_same_23 : decode cX12_same 23 = .ok (.if_icmp .eq 42, 3) := by decide +kernel
theorem dX12_same_26 : decode cX12_same 26 = .ok (.aload_n 0, 1) := by decide +kernel
theorem dX12_same_27 : decode cX12_same 27 = .ok (.getfield 218, 3) := by decide +kernel
theorem dX12_same_30 : decode cX12_same 30 = .ok (.iload_n 3, 1) := by decide +kernel
theorem dX12_same_31 : decode cX12_same 31 = .ok (.baload, 1) := by decide +kernel
theorem dX12_same_32 : decode cX12_same 32 = .ok (.ifCond .eq 33, 3) := by decide +kernel
theorem dX12_same_35 : decode cX12_same 35 = .ok (.aload_n 0, 1) := by decide +kernel
theorem dX12_same_36 : decode cX12_same 36 = .ok (.getfield 218, 3) := by decide +kernel
theorem dX12_same_39 : decode cX12_same 39 = .ok (.iload 4, 2) := by decide +kernel
theorem dX12_same_41 : decode cX12_same 41 = .ok (.baload, 1) := by decide +kernel
theorem dX12_same_42 : decode cX12_same 42 = .ok (.ifCond .eq 23, 3) := by decide +kernel
theorem dX12_same_45 : decode cX12_same 45 = .ok (.aload_n 0, 1) := by decide +kernel
theorem dX12_same_46 : decode cX12_same 46 = .ok (.getfield 215, 3) := by decide +kernel
theorem dX12_same_49 : decode cX12_same 49 = .ok (.iload_n 3, 1) := by decide +kernel
theorem dX12_same_50 : decode cX12_same 50 = .ok (.iaload, 1) := by decide +kernel
theorem dX12_same_51 : decode cX12_same 51 = .ok (.aload_n 0, 1) := by decide +kernel
theorem dX12_same_52 : decode cX12_same 52 = .ok (.getfield 215, 3) := by decide +kernel
theorem dX12_same_55 : decode cX12_same 55 = .ok (.iload 4, 2) := by decide +kernel
theorem dX12_same_57 : decode cX12_same 57 = .ok (.iaload, 1) := by decide +kernel
theorem dX12_same_58 : decode cX12_same 58 = .ok (.if_icmp .ne 7, 3) := by decide +kernel
theorem dX12_same_61 : decode cX12_same 61 = .ok (.iconst 1, 1) := by decide +kernel
theorem dX12_same_62 : decode cX12_same 62 = .ok (.goto 4, 3) := by decide +kernel
theorem dX12_same_65 : decode cX12_same 65 = .ok (.iconst 0, 1) := by decide +kernel
theorem dX12_same_66 : decode cX12_same 66 = .ok (.ireturn, 1) := by decide +kernel
def wp_X12_same : List Cond := .code yX12_same cX12_same 5 (some .boolean) :: (([.fieldLink RX12 218 "SteadyMachineModel" "isThing" "[Z", .fieldLink RX12 215 "SteadyMachineModel" "valueAt" "[I"] ++ (wsV RX12 414 RX12 yX12_placeOfValue wp_X12_placeOfValue)) ++ wsX120)
theorem wq_X12_same : wp_X12_same.all goodWord = true := wa_c rfl (wa_a (wa_a (by decide +kernel) (wa_V wq_X12_placeOfValue)) uq_X12)
theorem wt_X12_same : GoodIn lw_tbl wp_X12_same := wm_c (List.mem_of_getElem? (i := 1806) (by decide +kernel)) rfl (wm_a (wm_a (goodIn_r _ [1513, 1512] (by decide +kernel) (by decide +kernel)) (wm_a (goodIn_r _ [1795, 1797, 134, 147] (by decide +kernel) (by decide +kernel)) wt_X12_placeOfValue)) ut_X12)
theorem wg_X12_same_X12_placeOfValue_414 : GoodIn wp_X12_same (wsV RX12 414 RX12 yX12_placeOfValue wp_X12_placeOfValue) := goodIn_sub (fun w h => List.mem_cons_of_mem _ (List.mem_append_left _ (List.mem_append_right _ h))) (wa_V wq_X12_placeOfValue)
theorem wi_X12_same_X12 : ∀ w ∈ wsX120, w ∈ wp_X12_same := fun w h => List.mem_cons_of_mem _ (List.mem_append_right _ h)
set_option maxHeartbeats 4000000 in
set_option maxRecDepth 100000 in
theorem c_X12_same (l : Launch) (D : va_G) (sz t0 : Nat) (σ : sm_S) (α : sm_A) (p1 : Int32) (p2 : Int32) (K : Int32 → sm_S → Prop) (hF : mp_X12_same σ p1 p2 K) : Met l yX12_same wp_X12_same { frames := 1, cells := 0, slots := 0, locals := 23 } (sm_P sm_wM sm_tM 40 D sz t0 σ α [.ref (α.1 1), .int p1, .int p2]) (va_Qi K (sm_B sm_wM D α) (sm_a α 40 sz)) 0 0 (sm_a α 40 sz) := by
  refine Met.ofW (cc := cX12_same) (maxL := 5) (ret := (some .boolean)) (by decide) rfl ?_
  intro p e s m args below meth c s₁ B hml hv
  obtain ⟨rfl, hsz, hP, hK, hD0, hE⟩ := hv
  have hx := B.exec
  have hb := B.bytes
  have hr := B.returns
  have hts := atoms_spec (ws := wp_X12_same) B.pre
  have hown : s.vm.findClass RX12 = some m.cls := findClass_of_methodNamed B.named
  have hlocks := B.notSynchronized
  subst hsz
  have hD : sm_D (sm_a α 40 s.heap.size) α 40 := hD0.own
  have hA : ∀ q : Nat, s.heap.size ≤ q → sm_a α 40 s.heap.size q := fun q h => Or.inr h
  generalize hAe : sm_a α 40 s.heap.size = A at hD hA hE ⊢
  have hS : va_S A s.heap s.heap [] := va_S.rf
  have in_X12 : ∀ w ∈ wsX120, w ∈ wp_X12_same := wi_X12_same_X12
  have k_0 := hts (.fieldLink RX12 218 "SteadyMachineModel" "isThing" "[Z") (by decide +kernel)
  have k_1 := hts (.fieldLink RX12 215 "SteadyMachineModel" "valueAt" "[I") (by decide +kernel)
  have hl := lv_entry ([.ref (α.1 1), .int p1, .int p2]) (n := 5) (Nat.le_of_ble_eq_true rfl)
  rw [lg_entry_eq]
  generalize (lg_sl ([.ref (α.1 1), .int p1, .int p2]) ++ List.replicate (5 - (lg_sl ([.ref (α.1 1), .int p1, .int p2])).length) Slot.unset).toArray = ls at hl ⊢
  have hl : lv_has ls 5 [(0, .ref (α.1 1)), (1, .int p1), (2, .int p2)] := hl
  have B66 : ∀ (σ : sm_S) (y0 : Int32), mp_X12_same_66 K σ y0 → sm_J p l e (headSpec wp_X12_same { frames := 1, cells := 0, slots := 0, locals := 23 }).room s m ([.ref (α.1 1), .int p1, .int p2] : List Value).toArray below meth c (MQ below (va_Qi K (sm_B sm_wM D α) A) ([.ref (α.1 1), .int p1, .int p2] : List Value).toArray s 0 0 A) D A 5 (sm_wM σ α) 66 [] [.int y0] := by
    intro σ y0 hF H locs ls hP hS hl
    unfold mp_X12_same_66 at hF
    obtain ⟨h1, hF⟩ := hF
    exact W.zret (v := y0) hx hb hr h1.1 (fun t ht hW => ⟨⟨y0, σ, rfl, hF, (by unfold sm_B; rw [ht]; exact hP)⟩, hS.F ht⟩) hS.2.2 dX12_same_66
  have B65 : ∀ (σ : sm_S), mp_X12_same_65 K σ → sm_J p l e (headSpec wp_X12_same { frames := 1, cells := 0, slots := 0, locals := 23 }).room s m ([.ref (α.1 1), .int p1, .int p2] : List Value).toArray below meth c (MQ below (va_Qi K (sm_B sm_wM D α) A) ([.ref (α.1 1), .int p1, .int p2] : List Value).toArray s 0 0 A) D A 5 (sm_wM σ α) 65 [] [] := by
    intro σ hF H locs ls hP hS hl
    unfold mp_X12_same_65 at hF
    refine lv_iconst (v := 0) hx hb dX12_same_65 (by decide) ?_
    exact B66 σ 0 hF H locs ls hP hS (lv_sub hl [] rfl)
  unfold mp_X12_same at hF
  revert hP hS
  generalize hLo : ([] : List Loc) = locs
  suffices h9 : ∀ (H : Heap) (locs : List Loc), va_P D vwCl (sm_wM σ α) H → va_S A s.heap H locs → W p l e (headSpec wp_X12_same { frames := 1, cells := 0, slots := 0, locals := 23 }).room s m ([.ref (α.1 1), .int p1, .int p2] : List Value).toArray below meth c H locs 0 0 (MQ below (va_Qi K (sm_B sm_wM D α) A) ([.ref (α.1 1), .int p1, .int p2] : List Value).toArray s 0 0 A) (F0 m 0 ls []) from fun hP hS => h9 s.heap locs hP hS
  intro H locs hP hS
  refine lv_aload_n hx hb dX12_same_0 rfl (lv_at hl 0 rfl) ?_
  refine lv_iconst (v := 0) hx hb dX12_same_1 (by decide) ?_
  refine lv_iload_n hx hb dX12_same_2 rfl (lv_at hl 1 rfl) ?_
  refine sm_vi (As := [.int 0, .int p1]) (rest := []) hP hK hD hE hS hA ⟨hx, hb, hml, hown, hts⟩ hl.1 (c_X12_placeOfValue l D H.size t0 σ α 0 p1 _ hF) (cwV 2 hts wg_X12_same_X12_placeOfValue_414 rfl rfl rfl (by decide +kernel) ⟨Nat.le_of_ble_eq_true rfl, Nat.le_of_ble_eq_true rfl⟩) (va_recv hK hP (ci := 12) (q0 := 1) rfl (sm_gX12 σ α)) rfl rfl (Nat.le_of_ble_eq_true rfl) dX12_same_3 ⟨Nat.zero_le _, Nat.zero_le _⟩ (fun r3 σ2 H locs hF hP hS => ?_)
  refine lv_istore_n (lv' := [(3, .int r3), (0, .ref (α.1 1)), (1, .int p1), (2, .int p2)]) hx hb dX12_same_6 rfl hl (by decide) rfl (fun ls hl => ?_)
  refine lv_aload_n hx hb dX12_same_7 rfl (lv_at hl 1 rfl) ?_
  refine lv_iconst (v := 0) hx hb dX12_same_8 (by decide) ?_
  refine lv_iload_n hx hb dX12_same_9 rfl (lv_at hl 3 rfl) ?_
  refine sm_vi (As := [.int 0, .int p2]) (rest := []) hP hK hD hE hS hA ⟨hx, hb, hml, hown, hts⟩ hl.1 (c_X12_placeOfValue l D H.size t0 σ2 α 0 p2 _ hF) (cwV 2 hts wg_X12_same_X12_placeOfValue_414 rfl rfl rfl (by decide +kernel) ⟨Nat.le_of_ble_eq_true rfl, Nat.le_of_ble_eq_true rfl⟩) (va_recv hK hP (ci := 12) (q0 := 1) rfl (sm_gX12 σ2 α)) rfl rfl (Nat.le_of_ble_eq_true rfl) dX12_same_10 ⟨Nat.zero_le _, Nat.zero_le _⟩ (fun r5 σ4 H locs hF hP hS => ?_)
  refine lv_istore (lv' := [(4, .int r5), (3, .int r3), (0, .ref (α.1 1)), (1, .int p1), (2, .int p2)]) hx hb dX12_same_13 hl (by decide) rfl (fun ls hl => ?_)
  refine lv_iload_n hx hb dX12_same_15 rfl (lv_at hl 1 rfl) ?_
  refine lv_iconst (v := -1) hx hb dX12_same_16 (by decide) ?_
  refine lv_icmp_eq (tgt := 65) hx hb dX12_same_17 (by decide) (fun h6 => ?_) (fun h6 => ?_)
  · replace hF := hF.1 h6
    exact B65 σ4 hF H locs ls hP hS (lv_sub hl [] rfl)
  · replace hF := hF.2 h6
    refine lv_iload hx hb dX12_same_20 (lv_at hl 0 rfl) ?_
    refine lv_iconst (v := -1) hx hb dX12_same_22 (by decide) ?_
    refine lv_icmp_eq (tgt := 65) hx hb dX12_same_23 (by decide) (fun h7 => ?_) (fun h7 => ?_)
    · replace hF := hF.1 h7
      exact B65 σ4 hF H locs ls hP hS (lv_sub hl [] rfl)
    · replace hF := hF.2 h7
      refine lv_aload_n hx hb dX12_same_26 rfl (lv_at hl 2 rfl) ?_
      refine va_get (D := D) (ci := 12) (v := .ref (α.1 37)) (C := RX12) (T := TX12) (N := 42) hx hb hts in_X12 hown hK hP 1 (sm_gX12 σ4 α) rfl 23 (by decide) k_0 (fun _ h9 => h9) rfl dX12_same_27 ?_
      refine lv_iload_n hx hb dX12_same_30 rfl (lv_at hl 1 rfl) ?_
      obtain ⟨h8, hF⟩ := hF
      refine va_zald (n := (σ4.2.2.1 37)) (f := (σ4.2.2.2.1 37)) hx hb hK hP 37 35 (sm_aM37 σ4 α) (sm_yM37 α) h8 dX12_same_31 ?_
      refine lv_if_eq (tgt := 65) hx hb dX12_same_32 (by decide) (fun h9 => ?_) (fun h9 => ?_)
      · replace hF := hF.1 h9
        exact B65 σ4 hF H locs ls hP hS (lv_sub hl [] rfl)
      · replace hF := hF.2 h9
        refine lv_aload_n hx hb dX12_same_35 rfl (lv_at hl 2 rfl) ?_
        refine va_get (D := D) (ci := 12) (v := .ref (α.1 37)) (C := RX12) (T := TX12) (N := 42) hx hb hts in_X12 hown hK hP 1 (sm_gX12 σ4 α) rfl 23 (by decide) k_0 (fun _ h9 => h9) rfl dX12_same_36 ?_
        refine lv_iload hx hb dX12_same_39 (lv_at hl 0 rfl) ?_
        obtain ⟨h10, hF⟩ := hF
        refine va_zald (n := (σ4.2.2.1 37)) (f := (σ4.2.2.2.1 37)) hx hb hK hP 37 35 (sm_aM37 σ4 α) (sm_yM37 α) h10 dX12_same_41 ?_
        refine lv_if_eq (tgt := 65) hx hb dX12_same_42 (by decide) (fun h11 => ?_) (fun h11 => ?_)
        · replace hF := hF.1 h11
          exact B65 σ4 hF H locs ls hP hS (lv_sub hl [] rfl)
        · replace hF := hF.2 h11
          refine lv_aload_n hx hb dX12_same_45 rfl (lv_at hl 2 rfl) ?_
          refine va_get (D := D) (ci := 12) (v := .ref (α.1 36)) (C := RX12) (T := TX12) (N := 42) hx hb hts in_X12 hown hK hP 1 (sm_gX12 σ4 α) rfl 22 (by decide) k_1 (fun _ h9 => h9) rfl dX12_same_46 ?_
          refine lv_iload_n hx hb dX12_same_49 rfl (lv_at hl 1 rfl) ?_
          obtain ⟨h12, hF⟩ := hF
          refine va_iald (n := (σ4.2.2.1 36)) (f := (σ4.2.2.2.1 36)) hx hb hK hP 36 34 (sm_aM36 σ4 α) (sm_yM36 α) h12 dX12_same_50 ?_
          refine lv_aload_n hx hb dX12_same_51 rfl (lv_at hl 2 rfl) ?_
          refine va_get (D := D) (ci := 12) (v := .ref (α.1 36)) (C := RX12) (T := TX12) (N := 42) hx hb hts in_X12 hown hK hP 1 (sm_gX12 σ4 α) rfl 22 (by decide) k_1 (fun _ h9 => h9) rfl dX12_same_52 ?_
          refine lv_iload hx hb dX12_same_55 (lv_at hl 0 rfl) ?_
          obtain ⟨h13, hF⟩ := hF
          refine va_iald (n := (σ4.2.2.1 36)) (f := (σ4.2.2.2.1 36)) hx hb hK hP 36 34 (sm_aM36 σ4 α) (sm_yM36 α) h13 dX12_same_57 ?_
          refine lv_icmp_ne (tgt := 65) hx hb dX12_same_58 (by decide) (fun h14 => ?_) (fun h14 => ?_)
          · replace hF := hF.1 h14
            exact B65 σ4 hF H locs ls hP hS (lv_sub hl [] rfl)
          · replace hF := hF.2 h14
            refine lv_iconst (v := 1) hx hb dX12_same_61 (by decide) ?_
            refine lv_goto (tgt := 66) hx hb dX12_same_62 (by decide) ?_
            exact B66 σ4 1 hF H locs ls hP hS (lv_sub hl [] rfl)
theorem dX12_told_0 : decode cX12_told 0 = .ok (.aload_n 0, 1) := by decide +kernel
theorem dX12_told_1 : decode cX12_told 1 = .ok (.getfield 152, 3) := by decide +kernel
theorem dX12_told_4 : decode cX12_told 4 = .ok (.ifCond .ne 5, 3) := by decide +kernel
theorem dX12_told_7 : decode cX12_told 7 = .ok (.iconst (-1), 1) := by decide +kernel
theorem dX12_told_8 : decode cX12_told 8 = .ok (.ireturn, 1) := by decide +kernel
theorem dX12_told_9 : decode cX12_told 9 = .ok (.iload_n 1, 1) := by decide +kernel
theorem dX12_told_10 : decode cX12_told 10 = .ok (.tableswitch 79 0 4 #[34, 39, 52, 68, 74], 34) := by decide +kernel
theorem dX12_told_44 : decode cX12_told 44 = .ok (.aload_n 0, 1) := by decide +kernel
theorem dX12_told_45 : decode cX12_told 45 = .ok (.getfield 244, 3) := by decide +kernel
theorem dX12_told_48 : decode cX12_told 48 = .ok (.ireturn, 1) := by decide +kernel
theorem dX12_told_49 : decode cX12_told 49 = .ok (.aload_n 0, 1) := by decide +kernel
theorem dX12_told_50 : decode cX12_told 50 = .ok (.invokevirtual 284, 3) := by decide +kernel
theorem dX12_told_53 : decode cX12_told 53 = .ok (.ifCond .eq 7, 3) := by decide +kernel
theorem dX12_told_56 : decode cX12_told 56 = .ok (.iconst 1, 1) := by decide +kernel
theorem dX12_told_57 : decode cX12_told 57 = .ok (.goto 4, 3) := by decide +kernel
theorem dX12_told_60 : decode cX12_told 60 = .ok (.iconst 0, 1) := by decide +kernel
theorem dX12_told_61 : decode cX12_told 61 = .ok (.ireturn, 1) := by decide +kernel
theorem dX12_told_62 : decode cX12_told 62 = .ok (.aload_n 0, 1) := by decide +kernel
theorem dX12_told_63 : decode cX12_told 63 = .ok (.invokevirtual 284, 3) := by decide +kernel
theorem dX12_told_66 : decode cX12_told 66 = .ok (.ifCond .eq 10, 3) := by decide +kernel
theorem dX12_told_69 : decode cX12_told 69 = .ok (.aload_n 0, 1) := by decide +kernel
theorem dX12_told_70 : decode cX12_told 70 = .ok (.getfield 237, 3) := by decide +kernel
theorem dX12_told_73 : decode cX12_told 73 = .ok (.goto 4, 3) := by decide +kernel
theorem dX12_told_76 : decode cX12_told 76 = .ok (.iconst (-1), 1) := by decide +kernel
theorem dX12_told_77 : decode cX12_told 77 = .ok (.ireturn, 1) := by decide +kernel
theorem dX12_told_78 : decode cX12_told 78 = .ok (.aload_n 0, 1) := by decide +kernel
theorem dX12_told_79 : decode cX12_told 79 = .ok (.getfield 240, 3) := by decide +kernel
theorem dX12_told_82 : decode cX12_told 82 = .ok (.l2i, 1) := by decide +kernel
theorem dX12_told_83 : decode cX12_told 83 = .ok (.ireturn, 1) := by decide +kernel
theorem dX12_told_84 : decode cX12_told 84 = .ok (.aload_n 0, 1) := by decide +kernel
theorem dX12_told_85 : decode cX12_told 85 = .ok (.getfield 234, 3) := by decide +kernel
theorem dX12_told_88 : decode cX12_told 88 = .ok (.ireturn, 1) := by decide +kernel
theorem dX12_told_89 : decode cX12_told 89 = .ok (.iconst (-1), 1) := by decide +kernel
theorem dX12_told_90 : decode cX12_told 90 = .ok (.ireturn, 1) := by decide +kernel
def wp_X12_told : List Cond := .code yX12_told cX12_told 2 (some .int) :: (([.fieldLink RX12 152 "SteadyMachineModel" "state" "I", .fieldLink RX12 244 "SteadyMachineModel" "flips" "I", .fieldLink RX12 237 "SteadyMachineModel" "reached" "I", .fieldLink RX12 240 "SteadyMachineModel" "made" "J", .fieldLink RX12 234 "SteadyMachineModel" "limit" "I"] ++ (wsV RX12 284 RX12 yX12_isDone wp_X12_isDone)) ++ wsX120)
theorem wq_X12_told : wp_X12_told.all goodWord = true := wa_c rfl (wa_a (wa_a (by decide +kernel) (wa_V wq_X12_isDone)) uq_X12)
theorem wt_X12_told : GoodIn lw_tbl wp_X12_told := wm_c (List.mem_of_getElem? (i := 1810) (by decide +kernel)) rfl (wm_a (wm_a (goodIn_r _ [1516, 1528, 1526, 1527, 1525] (by decide +kernel) (by decide +kernel)) (wm_a (goodIn_r _ [1634, 1636, 103, 147] (by decide +kernel) (by decide +kernel)) wt_X12_isDone)) ut_X12)
theorem wg_X12_told_X12_isDone_284 : GoodIn wp_X12_told (wsV RX12 284 RX12 yX12_isDone wp_X12_isDone) := goodIn_sub (fun w h => List.mem_cons_of_mem _ (List.mem_append_left _ (List.mem_append_right _ h))) (wa_V wq_X12_isDone)
theorem wi_X12_told_X12 : ∀ w ∈ wsX120, w ∈ wp_X12_told := fun w h => List.mem_cons_of_mem _ (List.mem_append_right _ h)
set_option maxHeartbeats 4000000 in
set_option maxRecDepth 100000 in
theorem c_X12_told (l : Launch) (D : va_G) (sz t0 : Nat) (σ : sm_S) (α : sm_A) (p1 : Int32) (K : Int32 → sm_S → Prop) (hF : mp_X12_told σ p1 K) : Met l yX12_told wp_X12_told { frames := 1, cells := 0, slots := 0, locals := 20 } (sm_P sm_wM sm_tM 40 D sz t0 σ α [.ref (α.1 1), .int p1]) (va_Qi K (sm_B sm_wM D α) (sm_a α 40 sz)) 0 0 (sm_a α 40 sz) := by
  refine Met.ofW (cc := cX12_told) (maxL := 2) (ret := (some .int)) (by decide) rfl ?_
  intro p e s m args below meth c s₁ B hml hv
  obtain ⟨rfl, hsz, hP, hK, hD0, hE⟩ := hv
  have hx := B.exec
  have hb := B.bytes
  have hr := B.returns
  have hts := atoms_spec (ws := wp_X12_told) B.pre
  have hown : s.vm.findClass RX12 = some m.cls := findClass_of_methodNamed B.named
  have hlocks := B.notSynchronized
  subst hsz
  have hD : sm_D (sm_a α 40 s.heap.size) α 40 := hD0.own
  have hA : ∀ q : Nat, s.heap.size ≤ q → sm_a α 40 s.heap.size q := fun q h => Or.inr h
  generalize hAe : sm_a α 40 s.heap.size = A at hD hA hE ⊢
  have hS : va_S A s.heap s.heap [] := va_S.rf
  have in_X12 : ∀ w ∈ wsX120, w ∈ wp_X12_told := wi_X12_told_X12
  have k_0 := hts (.fieldLink RX12 152 "SteadyMachineModel" "state" "I") (by decide +kernel)
  have k_1 := hts (.fieldLink RX12 244 "SteadyMachineModel" "flips" "I") (by decide +kernel)
  have k_2 := hts (.fieldLink RX12 237 "SteadyMachineModel" "reached" "I") (by decide +kernel)
  have k_3 := hts (.fieldLink RX12 240 "SteadyMachineModel" "made" "J") (by decide +kernel)
  have k_4 := hts (.fieldLink RX12 234 "SteadyMachineModel" "limit" "I") (by decide +kernel)
  have hl := lv_entry ([.ref (α.1 1), .int p1]) (n := 2) (Nat.le_of_ble_eq_true rfl)
  rw [lg_entry_eq]
  generalize (lg_sl ([.ref (α.1 1), .int p1]) ++ List.replicate (2 - (lg_sl ([.ref (α.1 1), .int p1])).length) Slot.unset).toArray = ls at hl ⊢
  have hl : lv_has ls 2 [(0, .ref (α.1 1)), (1, .int p1)] := hl
  have B77 : ∀ (σ : sm_S) (y0 : Int32), mp_X12_told_77 K σ y0 → sm_J p l e (headSpec wp_X12_told { frames := 1, cells := 0, slots := 0, locals := 20 }).room s m ([.ref (α.1 1), .int p1] : List Value).toArray below meth c (MQ below (va_Qi K (sm_B sm_wM D α) A) ([.ref (α.1 1), .int p1] : List Value).toArray s 0 0 A) D A 2 (sm_wM σ α) 77 [] [.int y0] := by
    intro σ y0 hF H locs ls hP hS hl
    unfold mp_X12_told_77 at hF
    exact W.iret (v := y0) hx hb hr (fun t ht hW => ⟨⟨y0, σ, rfl, hF, (by unfold sm_B; rw [ht]; exact hP)⟩, hS.F ht⟩) hS.2.2 dX12_told_77
  have B61 : ∀ (σ : sm_S) (y0 : Int32), mp_X12_told_61 K σ y0 → sm_J p l e (headSpec wp_X12_told { frames := 1, cells := 0, slots := 0, locals := 20 }).room s m ([.ref (α.1 1), .int p1] : List Value).toArray below meth c (MQ below (va_Qi K (sm_B sm_wM D α) A) ([.ref (α.1 1), .int p1] : List Value).toArray s 0 0 A) D A 2 (sm_wM σ α) 61 [] [.int y0] := by
    intro σ y0 hF H locs ls hP hS hl
    unfold mp_X12_told_61 at hF
    exact W.iret (v := y0) hx hb hr (fun t ht hW => ⟨⟨y0, σ, rfl, hF, (by unfold sm_B; rw [ht]; exact hP)⟩, hS.F ht⟩) hS.2.2 dX12_told_61
  unfold mp_X12_told at hF
  revert hP hS
  generalize hLo : ([] : List Loc) = locs
  suffices h9 : ∀ (H : Heap) (locs : List Loc), va_P D vwCl (sm_wM σ α) H → va_S A s.heap H locs → W p l e (headSpec wp_X12_told { frames := 1, cells := 0, slots := 0, locals := 20 }).room s m ([.ref (α.1 1), .int p1] : List Value).toArray below meth c H locs 0 0 (MQ below (va_Qi K (sm_B sm_wM D α) A) ([.ref (α.1 1), .int p1] : List Value).toArray s 0 0 A) (F0 m 0 ls []) from fun hP hS => h9 s.heap locs hP hS
  intro H locs hP hS
  refine lv_aload_n hx hb dX12_told_0 rfl (lv_at hl 0 rfl) ?_
  refine va_get (D := D) (ci := 12) (v := .int (σ.1 17)) (C := RX12) (T := TX12) (N := 42) hx hb hts in_X12 hown hK hP 1 (sm_gX12 σ α) rfl 26 (by decide) k_0 (fun _ h9 => h9) rfl dX12_told_1 ?_
  refine lv_if_ne (tgt := 9) hx hb dX12_told_4 (by decide) (fun h1 => ?_) (fun h1 => ?_)
  · replace hF := hF.1 h1
    refine lv_iload_n hx hb dX12_told_9 rfl (lv_at hl 1 rfl) ?_
    obtain ⟨gh2, hF⟩ := hF
    by_cases h2 : p1 = 0
    · refine lv_tableIn (tgt := 44) hx hb dX12_told_10 (by rw [h2]; decide) (by rw [h2]; decide) (by rw [h2]; rfl) (by decide) ?_
      clear hF
      have hF := gh2 h2
      clear gh2
      refine lv_aload_n hx hb dX12_told_44 rfl (lv_at hl 0 rfl) ?_
      refine va_get (D := D) (ci := 12) (v := .int (σ.1 24)) (C := RX12) (T := TX12) (N := 42) hx hb hts in_X12 hown hK hP 1 (sm_gX12 σ α) rfl 38 (by decide) k_1 (fun _ h9 => h9) rfl dX12_told_45 ?_
      exact W.iret (v := (σ.1 24)) hx hb hr (fun t ht hW => ⟨⟨(σ.1 24), σ, rfl, hF, (by unfold sm_B; rw [ht]; exact hP)⟩, hS.F ht⟩) hS.2.2 dX12_told_48
    clear gh2
    obtain ⟨gh3, hF⟩ := hF
    by_cases h3 : p1 = 1
    · refine lv_tableIn (tgt := 49) hx hb dX12_told_10 (by rw [h3]; decide) (by rw [h3]; decide) (by rw [h3]; rfl) (by decide) ?_
      clear hF
      have hF := gh3 h3
      clear gh3
      refine lv_aload_n hx hb dX12_told_49 rfl (lv_at hl 0 rfl) ?_
      refine sm_vi (As := []) (rest := []) hP hK hD hE hS hA ⟨hx, hb, hml, hown, hts⟩ hl.1 (c_X12_isDone l D H.size t0 σ α _ hF) (cwV 0 hts wg_X12_told_X12_isDone_284 rfl rfl rfl (by decide +kernel) ⟨Nat.le_of_ble_eq_true rfl, Nat.le_of_ble_eq_true rfl⟩) (va_recv hK hP (ci := 12) (q0 := 1) rfl (sm_gX12 σ α)) rfl rfl (Nat.le_of_ble_eq_true rfl) dX12_told_50 ⟨Nat.zero_le _, Nat.zero_le _⟩ (fun r5 σ4 H locs hF hP hS => ?_)
      refine lv_if_eq (tgt := 60) hx hb dX12_told_53 (by decide) (fun h6 => ?_) (fun h6 => ?_)
      · replace hF := hF.1 h6
        refine lv_iconst (v := 0) hx hb dX12_told_60 (by decide) ?_
        exact B61 σ4 0 hF H locs ls hP hS (lv_sub hl [] rfl)
      · replace hF := hF.2 h6
        refine lv_iconst (v := 1) hx hb dX12_told_56 (by decide) ?_
        refine lv_goto (tgt := 61) hx hb dX12_told_57 (by decide) ?_
        exact B61 σ4 1 hF H locs ls hP hS (lv_sub hl [] rfl)
    clear gh3
    obtain ⟨gh7, hF⟩ := hF
    by_cases h7 : p1 = 2
    · refine lv_tableIn (tgt := 62) hx hb dX12_told_10 (by rw [h7]; decide) (by rw [h7]; decide) (by rw [h7]; rfl) (by decide) ?_
      clear hF
      have hF := gh7 h7
      clear gh7
      refine lv_aload_n hx hb dX12_told_62 rfl (lv_at hl 0 rfl) ?_
      refine sm_vi (As := []) (rest := []) hP hK hD hE hS hA ⟨hx, hb, hml, hown, hts⟩ hl.1 (c_X12_isDone l D H.size t0 σ α _ hF) (cwV 0 hts wg_X12_told_X12_isDone_284 rfl rfl rfl (by decide +kernel) ⟨Nat.le_of_ble_eq_true rfl, Nat.le_of_ble_eq_true rfl⟩) (va_recv hK hP (ci := 12) (q0 := 1) rfl (sm_gX12 σ α)) rfl rfl (Nat.le_of_ble_eq_true rfl) dX12_told_63 ⟨Nat.zero_le _, Nat.zero_le _⟩ (fun r9 σ8 H locs hF hP hS => ?_)
      refine lv_if_eq (tgt := 76) hx hb dX12_told_66 (by decide) (fun h10 => ?_) (fun h10 => ?_)
      · replace hF := hF.1 h10
        refine lv_iconst (v := -1) hx hb dX12_told_76 (by decide) ?_
        exact B77 σ8 (-1) hF H locs ls hP hS (lv_sub hl [] rfl)
      · replace hF := hF.2 h10
        refine lv_aload_n hx hb dX12_told_69 rfl (lv_at hl 0 rfl) ?_
        refine va_get (D := D) (ci := 12) (v := .int (σ8.1 23)) (C := RX12) (T := TX12) (N := 42) hx hb hts in_X12 hown hK hP 1 (sm_gX12 σ8 α) rfl 36 (by decide) k_2 (fun _ h9 => h9) rfl dX12_told_70 ?_
        refine lv_goto (tgt := 77) hx hb dX12_told_73 (by decide) ?_
        exact B77 σ8 (σ8.1 23) hF H locs ls hP hS (lv_sub hl [] rfl)
    clear gh7
    obtain ⟨gh11, hF⟩ := hF
    by_cases h11 : p1 = 3
    · refine lv_tableIn (tgt := 78) hx hb dX12_told_10 (by rw [h11]; decide) (by rw [h11]; decide) (by rw [h11]; rfl) (by decide) ?_
      clear hF
      have hF := gh11 h11
      clear gh11
      refine lv_aload_n hx hb dX12_told_78 rfl (lv_at hl 0 rfl) ?_
      refine va_get (D := D) (ci := 12) (v := .long (σ.2.1 2)) (C := RX12) (T := TX12) (N := 42) hx hb hts in_X12 hown hK hP 1 (sm_gX12 σ α) rfl 37 (by decide) k_3 (fun _ h9 => h9) rfl dX12_told_79 ?_
      refine lv_l2i hx hb dX12_told_82 rfl ?_
      exact W.iret (v := (σ.2.1 2).toInt32) hx hb hr (fun t ht hW => ⟨⟨(σ.2.1 2).toInt32, σ, rfl, hF, (by unfold sm_B; rw [ht]; exact hP)⟩, hS.F ht⟩) hS.2.2 dX12_told_83
    clear gh11
    obtain ⟨gh12, hF⟩ := hF
    by_cases h12 : p1 = 4
    · refine lv_tableIn (tgt := 84) hx hb dX12_told_10 (by rw [h12]; decide) (by rw [h12]; decide) (by rw [h12]; rfl) (by decide) ?_
      clear hF
      have hF := gh12 h12
      clear gh12
      refine lv_aload_n hx hb dX12_told_84 rfl (lv_at hl 0 rfl) ?_
      refine va_get (D := D) (ci := 12) (v := .int (σ.1 22)) (C := RX12) (T := TX12) (N := 42) hx hb hts in_X12 hown hK hP 1 (sm_gX12 σ α) rfl 35 (by decide) k_4 (fun _ h9 => h9) rfl dX12_told_85 ?_
      exact W.iret (v := (σ.1 22)) hx hb hr (fun t ht hW => ⟨⟨(σ.1 22), σ, rfl, hF, (by unfold sm_B; rw [ht]; exact hP)⟩, hS.F ht⟩) hS.2.2 dX12_told_88
    clear gh12
    refine lv_tableOut (tgt := 89) hx hb dX12_told_10 (by have q0 := lv_neT h2 (show Int32.toInt 0 = 0 by decide); have q1 := lv_neT h3 (show Int32.toInt 1 = 1 by decide); have q2 := lv_neT h7 (show Int32.toInt 2 = 2 by decide); have q3 := lv_neT h11 (show Int32.toInt 3 = 3 by decide); have q4 := lv_neT h12 (show Int32.toInt 4 = 4 by decide); omega) (by decide) ?_
    replace hF := hF h2 h3 h7 h11 h12
    refine lv_iconst (v := -1) hx hb dX12_told_89 (by decide) ?_
    exact W.iret (v := (-1)) hx hb hr (fun t ht hW => ⟨⟨(-1), σ, rfl, hF, (by unfold sm_B; rw [ht]; exact hP)⟩, hS.F ht⟩) hS.2.2 dX12_told_90
  · replace hF := hF.2 h1
    refine lv_iconst (v := -1) hx hb dX12_told_7 (by decide) ?_
    exact W.iret (v := (-1)) hx hb hr (fun t ht hW => ⟨⟨(-1), σ, rfl, hF, (by unfold sm_B; rw [ht]; exact hP)⟩, hS.F ht⟩) hS.2.2 dX12_told_8
theorem dX12_steady_0 : decode cX12_steady 0 = .ok (.iconst 1, 1) := by decide +kernel
theorem dX12_steady_1 : decode cX12_steady 1 = .ok (.ireturn, 1) := by decide +kernel
def wp_X12_steady : List Cond := .code yX12_steady cX12_steady 1 (some .boolean) :: []
theorem wq_X12_steady : wp_X12_steady.all goodWord = true := wa_c rfl (by decide +kernel)
theorem wt_X12_steady : GoodIn lw_tbl wp_X12_steady := wm_c (List.mem_of_getElem? (i := 1814) (by decide +kernel)) rfl (goodIn_r _ [] (by decide +kernel) (by decide +kernel))
set_option maxHeartbeats 4000000 in
set_option maxRecDepth 100000 in
theorem c_X12_steady (l : Launch) (D : va_G) (sz t0 : Nat) (σ : sm_S) (α : sm_A) (K : Int32 → sm_S → Prop) (hF : mp_X12_steady σ K) : Met l yX12_steady wp_X12_steady { frames := 0, cells := 0, slots := 0, locals := 0 } (sm_P sm_wM sm_tM 40 D sz t0 σ α [.ref (α.1 1)]) (va_Qi K (sm_B sm_wM D α) (sm_a α 40 sz)) 0 0 (sm_a α 40 sz) := by
  refine Met.ofW (cc := cX12_steady) (maxL := 1) (ret := (some .boolean)) (by decide) rfl ?_
  intro p e s m args below meth c s₁ B hml hv
  obtain ⟨rfl, hsz, hP, hK, hD0, hE⟩ := hv
  have hx := B.exec
  have hb := B.bytes
  have hr := B.returns
  have hts := atoms_spec (ws := wp_X12_steady) B.pre
  have hown : s.vm.findClass RX12 = some m.cls := findClass_of_methodNamed B.named
  have hlocks := B.notSynchronized
  subst hsz
  have hD : sm_D (sm_a α 40 s.heap.size) α 40 := hD0.own
  have hA : ∀ q : Nat, s.heap.size ≤ q → sm_a α 40 s.heap.size q := fun q h => Or.inr h
  generalize hAe : sm_a α 40 s.heap.size = A at hD hA hE ⊢
  have hS : va_S A s.heap s.heap [] := va_S.rf
  have hl := lv_entry ([.ref (α.1 1)]) (n := 1) (Nat.le_of_ble_eq_true rfl)
  rw [lg_entry_eq]
  generalize (lg_sl ([.ref (α.1 1)]) ++ List.replicate (1 - (lg_sl ([.ref (α.1 1)])).length) Slot.unset).toArray = ls at hl ⊢
  have hl : lv_has ls 1 [(0, .ref (α.1 1))] := hl
  unfold mp_X12_steady at hF
  revert hP hS
  generalize hLo : ([] : List Loc) = locs
  suffices h9 : ∀ (H : Heap) (locs : List Loc), va_P D vwCl (sm_wM σ α) H → va_S A s.heap H locs → W p l e (headSpec wp_X12_steady { frames := 0, cells := 0, slots := 0, locals := 0 }).room s m ([.ref (α.1 1)] : List Value).toArray below meth c H locs 0 0 (MQ below (va_Qi K (sm_B sm_wM D α) A) ([.ref (α.1 1)] : List Value).toArray s 0 0 A) (F0 m 0 ls []) from fun hP hS => h9 s.heap locs hP hS
  intro H locs hP hS
  refine lv_iconst (v := 1) hx hb dX12_steady_0 (by decide) ?_
  exact W.zret (v := 1) hx hb hr sm_z1.1 (fun t ht hW => ⟨⟨1, σ, rfl, hF, (by unfold sm_B; rw [ht]; exact hP)⟩, hS.F ht⟩) hS.2.2 dX12_steady_1
