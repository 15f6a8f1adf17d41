theorem dL_law_0 : decode cL_law 0 = .ok (.new 7, 3) := by decide +kernel
theorem dL_law_3 : decode cL_law 3 = .ok (.dup, 1) := by decide +kernel
theorem dL_law_4 : decode cL_law 4 = .ok (.invokespecial 9, 3) := by decide +kernel
theorem dL_law_7 : decode cL_law 7 = .ok (.astore_n 1, 1) := by decide +kernel
theorem dL_law_8 : decode cL_law 8 = .ok (.new 10, 3) := by decide +kernel
theorem dL_law_11 : decode cL_law 11 = .ok (.dup, 1) := by decide +kernel
theorem dL_law_12 : decode cL_law 12 = .ok (.invokespecial 12, 3) := by decide +kernel
theorem dL_law_15 : decode cL_law 15 = .ok (.astore_n 2, 1) := by decide +kernel
theorem dL_law_16 : decode cL_law 16 = .ok (.iconst 0, 1) := by decide +kernel
theorem dL_law_17 : decode cL_law 17 = .ok (.istore_n 3, 1) := by decide +kernel
theorem dL_law_18 : decode cL_law 18 = .ok (.iload_n 3, 1) := by decide +kernel
theorem dL_law_19 : decode cL_law 19 = .ok (.aload_n 0, 1) := by decide +kernel
theorem dL_law_20 : decode cL_law 20 = .ok (.arraylength, 1) := by decide +kernel
theorem dL_law_21 : decode cL_law 21 = .ok (.bipush 6, 2) := by decide +kernel
theorem dL_law_23 : decode cL_law 23 = .ok (.isub, 1) := by decide +kernel
theorem dL_law_24 : decode cL_law 24 = .ok (.if_icmp .gt 565, 3) := by decide +kernel
theorem dL_law_27 : decode cL_law 27 = .ok (.aload_n 0, 1) := by decide +kernel
theorem dL_law_28 : decode cL_law 28 = .ok (.iload_n 3, 1) := by decide +kernel
theorem dL_law_29 : decode cL_law 29 = .ok (.iaload, 1) := by decide +kernel
theorem dL_law_30 : decode cL_law 30 = .ok (.bipush 15, 2) := by decide +kernel
theorem dL_law_32 : decode cL_law 32 = .ok (.iand, 1) := by decide +kernel
theorem dL_law_33 : decode cL_law 33 = .ok (.tableswitch 550 0 14 #[75, 138, 161, 184, 195, 228, 251, 264, 288, 311, 344, 428, 461, 484, 497], 75) := by decide +kernel
theorem dL_law_108 : decode cL_law 108 = .ok (.aload_n 1, 1) := by decide +kernel
theorem dL_law_109 : decode cL_law 109 = .ok (.aload_n 0, 1) := by decide +kernel
theorem dL_law_110 : decode cL_law 110 = .ok (.iload_n 3, 1) := by decide +kernel
theorem dL_law_111 : decode cL_law 111 = .ok (.iconst 1, 1) := by decide +kernel
theorem dL_law_112 : decode cL_law 112 = .ok (.iadd, 1) := by decide +kernel
theorem dL_law_113 : decode cL_law 113 = .ok (.iaload, 1) := by decide +kernel
theorem dL_law_114 : decode cL_law 114 = .ok (.aload_n 0, 1) := by decide +kernel
theorem dL_law_115 : decode cL_law 115 = .ok (.iload_n 3, 1) := by decide +kernel
theorem dL_law_116 : decode cL_law 116 = .ok (.iconst 2, 1) := by decide +kernel
theorem dL_law_117 : decode cL_law 117 = .ok (.iadd, 1) := by decide +kernel
theorem dL_law_118 : decode cL_law 118 = .ok (.iaload, 1) := by decide +kernel
theorem dL_law_119 : decode cL_law 119 = .ok (.aload_n 0, 1) := by decide +kernel
theorem dL_law_120 : decode cL_law 120 = .ok (.iload_n 3, 1) := by decide +kernel
theorem dL_law_121 : decode cL_law 121 = .ok (.iconst 3, 1) := by decide +kernel
theorem dL_law_122 : decode cL_law 122 = .ok (.iadd, 1) := by decide +kernel
theorem dL_law_123 : decode cL_law 123 = .ok (.iaload, 1) := by decide +kernel
theorem dL_law_124 : decode cL_law 124 = .ok (.aload_n 0, 1) := by decide +kernel
theorem dL_law_125 : decode cL_law 125 = .ok (.iload_n 3, 1) := by decide +kernel
theorem dL_law_126 : decode cL_law 126 = .ok (.iconst 4, 1) := by decide +kernel
theorem dL_law_127 : decode cL_law 127 = .ok (.iadd, 1) := by decide +kernel
theorem dL_law_128 : decode cL_law 128 = .ok (.iaload, 1) := by decide +kernel
theorem dL_law_129 : decode cL_law 129 = .ok (.aload_n 0, 1) := by decide +kernel
theorem dL_law_130 : decode cL_law 130 = .ok (.iload_n 3, 1) := by decide +kernel
theorem dL_law_131 : decode cL_law 131 = .ok (.iconst 5, 1) := by decide +kernel
theorem dL_law_132 : decode cL_law 132 = .ok (.iadd, 1) := by decide +kernel
theorem dL_law_133 : decode cL_law 133 = .ok (.iaload, 1) := by decide +kernel
theorem dL_law_134 : decode cL_law 134 = .ok (.invokevirtual 13, 3) := by decide +kernel
theorem dL_law_137 : decode cL_law 137 = .ok (.aload_n 2, 1) := by decide +kernel
theorem dL_law_138 : decode cL_law 138 = .ok (.aload_n 0, 1) := by decide +kernel
theorem dL_law_139 : decode cL_law 139 = .ok (.iload_n 3, 1) := by decide +kernel
theorem dL_law_140 : decode cL_law 140 = .ok (.iconst 1, 1) := by decide +kernel
theorem dL_law_141 : decode cL_law 141 = .ok (.iadd, 1) := by decide +kernel
theorem dL_law_142 : decode cL_law 142 = .ok (.iaload, 1) := by decide +kernel
theorem dL_law_143 : decode cL_law 143 = .ok (.aload_n 0, 1) := by decide +kernel
theorem dL_law_144 : decode cL_law 144 = .ok (.iload_n 3, 1) := by decide +kernel
theorem dL_law_145 : decode cL_law 145 = .ok (.iconst 2, 1) := by decide +kernel
theorem dL_law_146 : decode cL_law 146 = .ok (.iadd, 1) := by decide +kernel
theorem dL_law_147 : decode cL_law 147 = .ok (.iaload, 1) := by decide +kernel
theorem dL_law_148 : decode cL_law 148 = .ok (.aload_n 0, 1) := by decide +kernel
theorem dL_law_149 : decode cL_law 149 = .ok (.iload_n 3, 1) := by decide +kernel
theorem dL_law_150 : decode cL_law 150 = .ok (.iconst 3, 1) := by decide +kernel
theorem dL_law_151 : decode cL_law 151 = .ok (.iadd, 1) := by decide +kernel
theorem dL_law_152 : decode cL_law 152 = .ok (.iaload, 1) := by decide +kernel
theorem dL_law_153 : decode cL_law 153 = .ok (.aload_n 0, 1) := by decide +kernel
theorem dL_law_154 : decode cL_law 154 = .ok (.iload_n 3, 1) := by decide +kernel
theorem dL_law_155 : decode cL_law 155 = .ok (.iconst 4, 1) := by decide +kernel
theorem dL_law_156 : decode cL_law 156 = .ok (.iadd, 1) := by decide +kernel
theorem dL_law_157 : decode cL_law 157 = .ok (.iaload, 1) := by decide +kernel
theorem dL_law_158 : decode cL_law 158 = .ok (.aload_n 0, 1) := by decide +kernel
theorem dL_law_159 : decode cL_law 159 = .ok (.iload_n 3, 1) := by decide +kernel
theorem dL_law_160 : decode cL_law 160 = .ok (.iconst 5, 1) := by decide +kernel
theorem dL_law_161 : decode cL_law 161 = .ok (.iadd, 1) := by decide +kernel
theorem dL_law_162 : decode cL_law 162 = .ok (.iaload, 1) := by decide +kernel
theorem dL_law_163 : decode cL_law 163 = .ok (.invokevirtual 17, 3) := by decide +kernel
theorem dL_law_166 : decode cL_law 166 = .ok (.if_icmp .eq 417, 3) := by decide +kernel
theorem dL_law_169 : decode cL_law 169 = .ok (.iconst 0, 1) := by decide +kernel
theorem dL_law_170 : decode cL_law 170 = .ok (.ireturn, 1) := by decide +kernel
theorem dL_law_171 : decode cL_law 171 = .ok (.aload_n 1, 1) := by decide +kernel
theorem dL_law_172 : decode cL_law 172 = .ok (.aload_n 0, 1) := by decide +kernel
theorem dL_law_173 : decode cL_law 173 = .ok (.iload_n 3, 1) := by decide +kernel
theorem dL_law_174 : decode cL_law 174 = .ok (.iconst 1, 1) := by decide +kernel
theorem dL_law_175 : decode cL_law 175 = .ok (.iadd, 1) := by decide +kernel
theorem dL_law_176 : decode cL_law 176 = .ok (.iaload, 1) := by decide +kernel
theorem dL_law_177 : decode cL_law 177 = .ok (.invokevirtual 18, 3) := by decide +kernel
theorem dL_law_180 : decode cL_law 180 = .ok (.aload_n 2, 1) := by decide +kernel
theorem dL_law_181 : decode cL_law 181 = .ok (.aload_n 0, 1) := by decide +kernel
theorem dL_law_182 : decode cL_law 182 = .ok (.iload_n 3, 1) := by decide +kernel
theorem dL_law_183 : decode cL_law 183 = .ok (.iconst 1, 1) := by decide +kernel
theorem dL_law_184 : decode cL_law 184 = .ok (.iadd, 1) := by decide +kernel
theorem dL_law_185 : decode cL_law 185 = .ok (.iaload, 1) := by decide +kernel
theorem dL_law_186 : decode cL_law 186 = .ok (.invokevirtual 22, 3) := by decide +kernel
theorem dL_law_189 : decode cL_law 189 = .ok (.if_icmp .eq 394, 3) := by decide +kernel
theorem dL_law_192 : decode cL_law 192 = .ok (.iconst 0, 1) := by decide +kernel
theorem dL_law_193 : decode cL_law 193 = .ok (.ireturn, 1) := by decide +kernel
theorem dL_law_194 : decode cL_law 194 = .ok (.aload_n 1, 1) := by decide +kernel
theorem dL_law_195 : decode cL_law 195 = .ok (.aload_n 0, 1) := by decide +kernel
theorem dL_law_196 : decode cL_law 196 = .ok (.iload_n 3, 1) := by decide +kernel
theorem dL_law_197 : decode cL_law 197 = .ok (.iconst 1, 1) := by decide +kernel
theorem dL_law_198 : decode cL_law 198 = .ok (.iadd, 1) := by decide +kernel
theorem dL_law_199 : decode cL_law 199 = .ok (.iaload, 1) := by decide +kernel
theorem dL_law_200 : decode cL_law 200 = .ok (.invokevirtual 23, 3) := by decide +kernel
theorem dL_law_203 : decode cL_law 203 = .ok (.aload_n 2, 1) := by decide +kernel
theorem dL_law_204 : decode cL_law 204 = .ok (.aload_n 0, 1) := by decide +kernel
theorem dL_law_205 : decode cL_law 205 = .ok (.iload_n 3, 1) := by decide +kernel
theorem dL_law_206 : decode cL_law 206 = .ok (.iconst 1, 1) := by decide +kernel
theorem dL_law_207 : decode cL_law 207 = .ok (.iadd, 1) := by decide +kernel
theorem dL_law_208 : decode cL_law 208 = .ok (.iaload, 1) := by decide +kernel
theorem dL_law_209 : decode cL_law 209 = .ok (.invokevirtual 26, 3) := by decide +kernel
theorem dL_law_212 : decode cL_law 212 = .ok (.if_icmp .eq 371, 3) := by decide +kernel
theorem dL_law_215 : decode cL_law 215 = .ok (.iconst 0, 1) := by decide +kernel
theorem dL_law_216 : decode cL_law 216 = .ok (.ireturn, 1) := by decide +kernel
theorem dL_law_217 : decode cL_law 217 = .ok (.aload_n 1, 1) := by decide +kernel
theorem dL_law_218 : decode cL_law 218 = .ok (.invokevirtual 27, 3) := by decide +kernel
theorem dL_law_221 : decode cL_law 221 = .ok (.aload_n 2, 1) := by decide +kernel
theorem dL_law_222 : decode cL_law 222 = .ok (.invokevirtual 30, 3) := by decide +kernel
theorem dL_law_225 : decode cL_law 225 = .ok (.goto 358, 3) := by decide +kernel
theorem dL_law_228 : decode cL_law 228 = .ok (.aload_n 1, 1) := by decide +kernel
theorem dL_law_229 : decode cL_law 229 = .ok (.aload_n 0, 1) := by decide +kernel
theorem dL_law_230 : decode cL_law 230 = .ok (.iload_n 3, 1) := by decide +kernel
theorem dL_law_231 : decode cL_law 231 = .ok (.iconst 1, 1) := by decide +kernel
theorem dL_law_232 : decode cL_law 232 = .ok (.iadd, 1) := by decide +kernel
theorem dL_law_233 : decode cL_law 233 = .ok (.iaload, 1) := by decide +kernel
theorem dL_law_234 : decode cL_law 234 = .ok (.aload_n 0, 1) := by decide +kernel
theorem dL_law_235 : decode cL_law 235 = .ok (.iload_n 3, 1) := by decide +kernel
theorem dL_law_236 : decode cL_law 236 = .ok (.iconst 2, 1) := by decide +kernel
theorem dL_law_237 : decode cL_law 237 = .ok (.iadd, 1) := by decide +kernel
theorem dL_law_238 : decode cL_law 238 = .ok (.iaload, 1) := by decide +kernel
theorem dL_law_239 : decode cL_law 239 = .ok (.invokevirtual 31, 3) := by decide +kernel
theorem dL_law_242 : decode cL_law 242 = .ok (.aload_n 2, 1) := by decide +kernel
theorem dL_law_243 : decode cL_law 243 = .ok (.aload_n 0, 1) := by decide +kernel
theorem dL_law_244 : decode cL_law 244 = .ok (.iload_n 3, 1) := by decide +kernel
theorem dL_law_245 : decode cL_law 245 = .ok (.iconst 1, 1) := by decide +kernel
theorem dL_law_246 : decode cL_law 246 = .ok (.iadd, 1) := by decide +kernel
theorem dL_law_247 : decode cL_law 247 = .ok (.iaload, 1) := by decide +kernel
theorem dL_law_248 : decode cL_law 248 = .ok (.aload_n 0, 1) := by decide +kernel
theorem dL_law_249 : decode cL_law 249 = .ok (.iload_n 3, 1) := by decide +kernel
theorem dL_law_250 : decode cL_law 250 = .ok (.iconst 2, 1) := by decide +kernel
theorem dL_law_251 : decode cL_law 251 = .ok (.iadd, 1) := by decide +kernel
theorem dL_law_252 : decode cL_law 252 = .ok (.iaload, 1) := by decide +kernel
theorem dL_law_253 : decode cL_law 253 = .ok (.invokevirtual 35, 3) := by decide +kernel
theorem dL_law_256 : decode cL_law 256 = .ok (.if_icmp .eq 327, 3) := by decide +kernel
theorem dL_law_259 : decode cL_law 259 = .ok (.iconst 0, 1) := by decide +kernel
theorem dL_law_260 : decode cL_law 260 = .ok (.ireturn, 1) := by decide +kernel
theorem dL_law_261 : decode cL_law 261 = .ok (.aload_n 1, 1) := by decide +kernel
theorem dL_law_262 : decode cL_law 262 = .ok (.aload_n 0, 1) := by decide +kernel
theorem dL_law_263 : decode cL_law 263 = .ok (.iload_n 3, 1) := by decide +kernel
theorem dL_law_264 : decode cL_law 264 = .ok (.iconst 1, 1) := by decide +kernel
theorem dL_law_265 : decode cL_law 265 = .ok (.iadd, 1) := by decide +kernel
theorem dL_law_266 : decode cL_law 266 = .ok (.iaload, 1) := by decide +kernel
theorem dL_law_267 : decode cL_law 267 = .ok (.invokevirtual 36, 3) := by decide +kernel
theorem dL_law_270 : decode cL_law 270 = .ok (.aload_n 2, 1) := by decide +kernel
theorem dL_law_271 : decode cL_law 271 = .ok (.aload_n 0, 1) := by decide +kernel
theorem dL_law_272 : decode cL_law 272 = .ok (.iload_n 3, 1) := by decide +kernel
theorem dL_law_273 : decode cL_law 273 = .ok (.iconst 1, 1) := by decide +kernel
theorem dL_law_274 : decode cL_law 274 = .ok (.iadd, 1) := by decide +kernel
theorem dL_law_275 : decode cL_law 275 = .ok (.iaload, 1) := by decide +kernel
theorem dL_law_276 : decode cL_law 276 = .ok (.invokevirtual 39, 3) := by decide +kernel
theorem dL_law_279 : decode cL_law 279 = .ok (.if_icmp .eq 304, 3) := by decide +kernel
theorem dL_law_282 : decode cL_law 282 = .ok (.iconst 0, 1) := by decide +kernel
theorem dL_law_283 : decode cL_law 283 = .ok (.ireturn, 1) := by decide +kernel
theorem dL_law_284 : decode cL_law 284 = .ok (.aload_n 1, 1) := by decide +kernel
theorem dL_law_285 : decode cL_law 285 = .ok (.invokevirtual 40, 3) := by decide +kernel
theorem dL_law_288 : decode cL_law 288 = .ok (.aload_n 2, 1) := by decide +kernel
theorem dL_law_289 : decode cL_law 289 = .ok (.invokevirtual 44, 3) := by decide +kernel
theorem dL_law_292 : decode cL_law 292 = .ok (.if_icmp .eq 291, 3) := by decide +kernel
theorem dL_law_295 : decode cL_law 295 = .ok (.iconst 0, 1) := by decide +kernel
theorem dL_law_296 : decode cL_law 296 = .ok (.ireturn, 1) := by decide +kernel
theorem dL_law_297 : decode cL_law 297 = .ok (.aload_n 1, 1) := by decide +kernel
theorem dL_law_298 : decode cL_law 298 = .ok (.aload_n 0, 1) := by decide +kernel
theorem dL_law_299 : decode cL_law 299 = .ok (.iload_n 3, 1) := by decide +kernel
theorem dL_law_300 : decode cL_law 300 = .ok (.iconst 1, 1) := by decide +kernel
theorem dL_law_301 : decode cL_law 301 = .ok (.iadd, 1) := by decide +kernel
theorem dL_law_302 : decode cL_law 302 = .ok (.iaload, 1) := by decide +kernel
theorem dL_law_303 : decode cL_law 303 = .ok (.invokevirtual 45, 3) := by decide +kernel
theorem dL_law_306 : decode cL_law 306 = .ok (.aload_n 2, 1) := by decide +kernel
theorem dL_law_307 : decode cL_law 307 = .ok (.aload_n 0, 1) := by decide +kernel
theorem dL_law_308 : decode cL_law 308 = .ok (.iload_n 3, 1) := by decide +kernel
theorem dL_law_309 : decode cL_law 309 = .ok (.iconst 1, 1) := by decide +kernel
theorem dL_law_310 : decode cL_law 310 = .ok (.iadd, 1) := by decide +kernel
theorem dL_law_311 : decode cL_law 311 = .ok (.iaload, 1) := by decide +kernel
theorem dL_law_312 : decode cL_law 312 = .ok (.invokevirtual 49, 3) := by decide +kernel
theorem dL_law_315 : decode cL_law 315 = .ok (.lcmp, 1) := by decide +kernel
theorem dL_law_316 : decode cL_law 316 = .ok (.ifCond .eq 267, 3) := by decide +kernel
theorem dL_law_319 : decode cL_law 319 = .ok (.iconst 0, 1) := by decide +kernel
theorem dL_law_320 : decode cL_law 320 = .ok (.ireturn, 1) := by decide +kernel
theorem dL_law_321 : decode cL_law 321 = .ok (.aload_n 1, 1) := by decide +kernel
theorem dL_law_322 : decode cL_law 322 = .ok (.aload_n 0, 1) := by decide +kernel
theorem dL_law_323 : decode cL_law 323 = .ok (.iload_n 3, 1) := by decide +kernel
theorem dL_law_324 : decode cL_law 324 = .ok (.iconst 1, 1) := by decide +kernel
theorem dL_law_325 : decode cL_law 325 = .ok (.iadd, 1) := by decide +kernel
theorem dL_law_326 : decode cL_law 326 = .ok (.iaload, 1) := by decide +kernel
theorem dL_law_327 : decode cL_law 327 = .ok (.invokevirtual 50, 3) := by decide +kernel
theorem dL_law_330 : decode cL_law 330 = .ok (.aload_n 2, 1) := by decide +kernel
theorem dL_law_331 : decode cL_law 331 = .ok (.aload_n 0, 1) := by decide +kernel
theorem dL_law_332 : decode cL_law 332 = .ok (.iload_n 3, 1) := by decide +kernel
theorem dL_law_333 : decode cL_law 333 = .ok (.iconst 1, 1) := by decide +kernel
theorem dL_law_334 : decode cL_law 334 = .ok (.iadd, 1) := by decide +kernel
theorem dL_law_335 : decode cL_law 335 = .ok (.iaload, 1) := by decide +kernel
theorem dL_law_336 : decode cL_law 336 = .ok (.invokevirtual 53, 3) := by decide +kernel
theorem dL_law_339 : decode cL_law 339 = .ok (.if_icmp .eq 244, 3) := by decide +kernel
theorem dL_law_342 : decode cL_law 342 = .ok (.iconst 0, 1) := by decide +kernel
theorem dL_law_343 : decode cL_law 343 = .ok (.ireturn, 1) := by decide +kernel
theorem dL_law_344 : decode cL_law 344 = .ok (.aload_n 1, 1) := by decide +kernel
theorem dL_law_345 : decode cL_law 345 = .ok (.aload_n 0, 1) := by decide +kernel
theorem dL_law_346 : decode cL_law 346 = .ok (.iload_n 3, 1) := by decide +kernel
theorem dL_law_347 : decode cL_law 347 = .ok (.iconst 1, 1) := by decide +kernel
theorem dL_law_348 : decode cL_law 348 = .ok (.iadd, 1) := by decide +kernel
theorem dL_law_349 : decode cL_law 349 = .ok (.iaload, 1) := by decide +kernel
theorem dL_law_350 : decode cL_law 350 = .ok (.aload_n 0, 1) := by decide +kernel
theorem dL_law_351 : decode cL_law 351 = .ok (.iload_n 3, 1) := by decide +kernel
theorem dL_law_352 : decode cL_law 352 = .ok (.iconst 2, 1) := by decide +kernel
theorem dL_law_353 : decode cL_law 353 = .ok (.iadd, 1) := by decide +kernel
theorem dL_law_354 : decode cL_law 354 = .ok (.iaload, 1) := by decide +kernel
theorem dL_law_355 : decode cL_law 355 = .ok (.invokevirtual 54, 3) := by decide +kernel
theorem dL_law_358 : decode cL_law 358 = .ok (.aload_n 2, 1) := by decide +kernel
theorem dL_law_359 : decode cL_law 359 = .ok (.aload_n 0, 1) := by decide +kernel
theorem dL_law_360 : decode cL_law 360 = .ok (.iload_n 3, 1) := by decide +kernel
theorem dL_law_361 : decode cL_law 361 = .ok (.iconst 1, 1) := by decide +kernel
theorem dL_law_362 : decode cL_law 362 = .ok (.iadd, 1) := by decide +kernel
theorem dL_law_363 : decode cL_law 363 = .ok (.iaload, 1) := by decide +kernel
theorem dL_law_364 : decode cL_law 364 = .ok (.aload_n 0, 1) := by decide +kernel
theorem dL_law_365 : decode cL_law 365 = .ok (.iload_n 3, 1) := by decide +kernel
theorem dL_law_366 : decode cL_law 366 = .ok (.iconst 2, 1) := by decide +kernel
theorem dL_law_367 : decode cL_law 367 = .ok (.iadd, 1) := by decide +kernel
theorem dL_law_368 : decode cL_law 368 = .ok (.iaload, 1) := by decide +kernel
theorem dL_law_369 : decode cL_law 369 = .ok (.invokevirtual 58, 3) := by decide +kernel
theorem dL_law_372 : decode cL_law 372 = .ok (.if_icmp .eq 211, 3) := by decide +kernel
theorem dL_law_375 : decode cL_law 375 = .ok (.iconst 0, 1) := by decide +kernel
theorem dL_law_376 : decode cL_law 376 = .ok (.ireturn, 1) := by decide +kernel
theorem dL_law_377 : decode cL_law 377 = .ok (.aload_n 1, 1) := by decide +kernel
theorem dL_law_378 : decode cL_law 378 = .ok (.aload_n 0, 1) := by decide +kernel
theorem dL_law_379 : decode cL_law 379 = .ok (.iload_n 3, 1) := by decide +kernel
theorem dL_law_380 : decode cL_law 380 = .ok (.iconst 1, 1) := by decide +kernel
theorem dL_law_381 : decode cL_law 381 = .ok (.iadd, 1) := by decide +kernel
theorem dL_law_382 : decode cL_law 382 = .ok (.iaload, 1) := by decide +kernel
theorem dL_law_383 : decode cL_law 383 = .ok (.aload_n 0, 1) := by decide +kernel
theorem dL_law_384 : decode cL_law 384 = .ok (.iload_n 3, 1) := by decide +kernel
theorem dL_law_385 : decode cL_law 385 = .ok (.iconst 2, 1) := by decide +kernel
theorem dL_law_386 : decode cL_law 386 = .ok (.iadd, 1) := by decide +kernel
theorem dL_law_387 : decode cL_law 387 = .ok (.iaload, 1) := by decide +kernel
theorem dL_law_388 : decode cL_law 388 = .ok (.aload_n 0, 1) := by decide +kernel
theorem dL_law_389 : decode cL_law 389 = .ok (.iload_n 3, 1) := by decide +kernel
theorem dL_law_390 : decode cL_law 390 = .ok (.iconst 3, 1) := by decide +kernel
theorem dL_law_391 : decode cL_law 391 = .ok (.iadd, 1) := by decide +kernel
theorem dL_law_392 : decode cL_law 392 = .ok (.iaload, 1) := by decide +kernel
theorem dL_law_393 : decode cL_law 393 = .ok (.i2l, 1) := by decide +kernel
theorem dL_law_394 : decode cL_law 394 = .ok (.bipush 32, 2) := by decide +kernel
theorem dL_law_396 : decode cL_law 396 = .ok (.lshl, 1) := by decide +kernel
theorem dL_law_397 : decode cL_law 397 = .ok (.aload_n 0, 1) := by decide +kernel
theorem dL_law_398 : decode cL_law 398 = .ok (.iload_n 3, 1) := by decide +kernel
theorem dL_law_399 : decode cL_law 399 = .ok (.iconst 4, 1) := by decide +kernel
theorem dL_law_400 : decode cL_law 400 = .ok (.iadd, 1) := by decide +kernel
theorem dL_law_401 : decode cL_law 401 = .ok (.iaload, 1) := by decide +kernel
theorem dL_law_402 : decode cL_law 402 = .ok (.i2l, 1) := by decide +kernel
theorem dL_law_403 : decode cL_law 403 = .ok (.ldc2_w 59, 3) := by decide +kernel
theorem dL_law_406 : decode cL_law 406 = .ok (.land, 1) := by decide +kernel
theorem dL_law_407 : decode cL_law 407 = .ok (.lor, 1) := by decide +kernel
theorem dL_law_408 : decode cL_law 408 = .ok (.aload_n 0, 1) := by decide +kernel
theorem dL_law_409 : decode cL_law 409 = .ok (.iload_n 3, 1) := by decide +kernel
theorem dL_law_410 : decode cL_law 410 = .ok (.iconst 5, 1) := by decide +kernel
theorem dL_law_411 : decode cL_law 411 = .ok (.iadd, 1) := by decide +kernel
theorem dL_law_412 : decode cL_law 412 = .ok (.iaload, 1) := by decide +kernel
theorem dL_law_413 : decode cL_law 413 = .ok (.invokevirtual 61, 3) := by decide +kernel
theorem dL_law_416 : decode cL_law 416 = .ok (.aload_n 2, 1) := by decide +kernel
theorem dL_law_417 : decode cL_law 417 = .ok (.aload_n 0, 1) := by decide +kernel
theorem dL_law_418 : decode cL_law 418 = .ok (.iload_n 3, 1) := by decide +kernel
theorem dL_law_419 : decode cL_law 419 = .ok (.iconst 1, 1) := by decide +kernel
theorem dL_law_420 : decode cL_law 420 = .ok (.iadd, 1) := by decide +kernel
theorem dL_law_421 : decode cL_law 421 = .ok (.iaload, 1) := by decide +kernel
theorem dL_law_422 : decode cL_law 422 = .ok (.aload_n 0, 1) := by decide +kernel
theorem dL_law_423 : decode cL_law 423 = .ok (.iload_n 3, 1) := by decide +kernel
theorem dL_law_424 : decode cL_law 424 = .ok (.iconst 2, 1) := by decide +kernel
theorem dL_law_425 : decode cL_law 425 = .ok (.iadd, 1) := by decide +kernel
theorem dL_law_426 : decode cL_law 426 = .ok (.iaload, 1) := by decide +kernel
theorem dL_law_427 : decode cL_law 427 = .ok (.aload_n 0, 1) := by decide +kernel
theorem dL_law_428 : decode cL_law 428 = .ok (.iload_n 3, 1) := by decide +kernel
theorem dL_law_429 : decode cL_law 429 = .ok (.iconst 3, 1) := by decide +kernel
theorem dL_law_430 : decode cL_law 430 = .ok (.iadd, 1) := by decide +kernel
theorem dL_law_431 : decode cL_law 431 = .ok (.iaload, 1) := by decide +kernel
theorem dL_law_432 : decode cL_law 432 = .ok (.i2l, 1) := by decide +kernel
theorem dL_law_433 : decode cL_law 433 = .ok (.bipush 32, 2) := by decide +kernel
theorem dL_law_435 : decode cL_law 435 = .ok (.lshl, 1) := by decide +kernel
theorem dL_law_436 : decode cL_law 436 = .ok (.aload_n 0, 1) := by decide +kernel
theorem dL_law_437 : decode cL_law 437 = .ok (.iload_n 3, 1) := by decide +kernel
theorem dL_law_438 : decode cL_law 438 = .ok (.iconst 4, 1) := by decide +kernel
theorem dL_law_439 : decode cL_law 439 = .ok (.iadd, 1) := by decide +kernel
theorem dL_law_440 : decode cL_law 440 = .ok (.iaload, 1) := by decide +kernel
theorem dL_law_441 : decode cL_law 441 = .ok (.i2l, 1) := by decide +kernel
theorem dL_law_442 : decode cL_law 442 = .ok (.ldc2_w 59, 3) := by decide +kernel
theorem dL_law_445 : decode cL_law 445 = .ok (.land, 1) := by decide +kernel
theorem dL_law_446 : decode cL_law 446 = .ok (.lor, 1) := by decide +kernel
theorem dL_law_447 : decode cL_law 447 = .ok (.aload_n 0, 1) := by decide +kernel
theorem dL_law_448 : decode cL_law 448 = .ok (.iload_n 3, 1) := by decide +kernel
theorem dL_law_449 : decode cL_law 449 = .ok (.iconst 5, 1) := by decide +kernel
theorem dL_law_450 : decode cL_law 450 = .ok (.iadd, 1) := by decide +kernel
theorem dL_law_451 : decode cL_law 451 = .ok (.iaload, 1) := by decide +kernel
theorem dL_law_452 : decode cL_law 452 = .ok (.invokevirtual 65, 3) := by decide +kernel
theorem dL_law_455 : decode cL_law 455 = .ok (.lcmp, 1) := by decide +kernel
theorem dL_law_456 : decode cL_law 456 = .ok (.ifCond .eq 127, 3) := by decide +kernel
theorem dL_law_459 : decode cL_law 459 = .ok (.iconst 0, 1) := by decide +kernel
theorem dL_law_460 : decode cL_law 460 = .ok (.ireturn, 1) := by decide +kernel
theorem dL_law_461 : decode cL_law 461 = .ok (.aload_n 1, 1) := by decide +kernel
theorem dL_law_462 : decode cL_law 462 = .ok (.aload_n 0, 1) := by decide +kernel
theorem dL_law_463 : decode cL_law 463 = .ok (.iload_n 3, 1) := by decide +kernel
theorem dL_law_464 : decode cL_law 464 = .ok (.iconst 1, 1) := by decide +kernel
theorem dL_law_465 : decode cL_law 465 = .ok (.iadd, 1) := by decide +kernel
theorem dL_law_466 : decode cL_law 466 = .ok (.iaload, 1) := by decide +kernel
theorem dL_law_467 : decode cL_law 467 = .ok (.aload_n 0, 1) := by decide +kernel
theorem dL_law_468 : decode cL_law 468 = .ok (.iload_n 3, 1) := by decide +kernel
theorem dL_law_469 : decode cL_law 469 = .ok (.iconst 2, 1) := by decide +kernel
theorem dL_law_470 : decode cL_law 470 = .ok (.iadd, 1) := by decide +kernel
theorem dL_law_471 : decode cL_law 471 = .ok (.iaload, 1) := by decide +kernel
theorem dL_law_472 : decode cL_law 472 = .ok (.invokevirtual 66, 3) := by decide +kernel
theorem dL_law_475 : decode cL_law 475 = .ok (.aload_n 2, 1) := by decide +kernel
theorem dL_law_476 : decode cL_law 476 = .ok (.aload_n 0, 1) := by decide +kernel
theorem dL_law_477 : decode cL_law 477 = .ok (.iload_n 3, 1) := by decide +kernel
theorem dL_law_478 : decode cL_law 478 = .ok (.iconst 1, 1) := by decide +kernel
theorem dL_law_479 : decode cL_law 479 = .ok (.iadd, 1) := by decide +kernel
theorem dL_law_480 : decode cL_law 480 = .ok (.iaload, 1) := by decide +kernel
theorem dL_law_481 : decode cL_law 481 = .ok (.aload_n 0, 1) := by decide +kernel
theorem dL_law_482 : decode cL_law 482 = .ok (.iload_n 3, 1) := by decide +kernel
theorem dL_law_483 : decode cL_law 483 = .ok (.iconst 2, 1) := by decide +kernel
theorem dL_law_484 : decode cL_law 484 = .ok (.iadd, 1) := by decide +kernel
theorem dL_law_485 : decode cL_law 485 = .ok (.iaload, 1) := by decide +kernel
theorem dL_law_486 : decode cL_law 486 = .ok (.invokevirtual 69, 3) := by decide +kernel
theorem dL_law_489 : decode cL_law 489 = .ok (.if_icmp .eq 94, 3) := by decide +kernel
theorem dL_law_492 : decode cL_law 492 = .ok (.iconst 0, 1) := by decide +kernel
theorem dL_law_493 : decode cL_law 493 = .ok (.ireturn, 1) := by decide +kernel
theorem dL_law_494 : decode cL_law 494 = .ok (.aload_n 1, 1) := by decide +kernel
theorem dL_law_495 : decode cL_law 495 = .ok (.aload_n 0, 1) := by decide +kernel
theorem dL_law_496 : decode cL_law 496 = .ok (.iload_n 3, 1) := by decide +kernel
theorem dL_law_497 : decode cL_law 497 = .ok (.iconst 1, 1) := by decide +kernel
theorem dL_law_498 : decode cL_law 498 = .ok (.iadd, 1) := by decide +kernel
theorem dL_law_499 : decode cL_law 499 = .ok (.iaload, 1) := by decide +kernel
theorem dL_law_500 : decode cL_law 500 = .ok (.invokevirtual 70, 3) := by decide +kernel
theorem dL_law_503 : decode cL_law 503 = .ok (.aload_n 2, 1) := by decide +kernel
theorem dL_law_504 : decode cL_law 504 = .ok (.aload_n 0, 1) := by decide +kernel
theorem dL_law_505 : decode cL_law 505 = .ok (.iload_n 3, 1) := by decide +kernel
theorem dL_law_506 : decode cL_law 506 = .ok (.iconst 1, 1) := by decide +kernel
theorem dL_law_507 : decode cL_law 507 = .ok (.iadd, 1) := by decide +kernel
theorem dL_law_508 : decode cL_law 508 = .ok (.iaload, 1) := by decide +kernel
theorem dL_law_509 : decode cL_law 509 = .ok (.invokevirtual 73, 3) := by decide +kernel
theorem dL_law_512 : decode cL_law 512 = .ok (.if_icmp .eq 71, 3) := by decide +kernel
theorem dL_law_515 : decode cL_law 515 = .ok (.iconst 0, 1) := by decide +kernel
theorem dL_law_516 : decode cL_law 516 = .ok (.ireturn, 1) := by decide +kernel
theorem dL_law_517 : decode cL_law 517 = .ok (.aload_n 1, 1) := by decide +kernel
theorem dL_law_518 : decode cL_law 518 = .ok (.invokevirtual 74, 3) := by decide +kernel
theorem dL_law_521 : decode cL_law 521 = .ok (.aload_n 2, 1) := by decide +kernel
theorem dL_law_522 : decode cL_law 522 = .ok (.invokevirtual 78, 3) := by decide +kernel
theorem dL_law_525 : decode cL_law 525 = .ok (.if_icmp .eq 58, 3) := by decide +kernel
theorem dL_law_528 : decode cL_law 528 = .ok (.iconst 0, 1) := by decide +kernel
theorem dL_law_529 : decode cL_law 529 = .ok (.ireturn, 1) := by decide +kernel
theorem dL_law_530 : decode cL_law 530 = .ok (.aload_n 1, 1) := by decide +kernel
theorem dL_law_531 : decode cL_law 531 = .ok (.aload_n 0, 1) := by decide +kernel
theorem dL_law_532 : decode cL_law 532 = .ok (.iload_n 3, 1) := by decide +kernel
theorem dL_law_533 : decode cL_law 533 = .ok (.iconst 1, 1) := by decide +kernel
theorem dL_law_534 : decode cL_law 534 = .ok (.iadd, 1) := by decide +kernel
theorem dL_law_535 : decode cL_law 535 = .ok (.iaload, 1) := by decide +kernel
theorem dL_law_536 : decode cL_law 536 = .ok (.aload_n 0, 1) := by decide +kernel
theorem dL_law_537 : decode cL_law 537 = .ok (.iload_n 3, 1) := by decide +kernel
theorem dL_law_538 : decode cL_law 538 = .ok (.iconst 2, 1) := by decide +kernel
theorem dL_law_539 : decode cL_law 539 = .ok (.iadd, 1) := by decide +kernel
theorem dL_law_540 : decode cL_law 540 = .ok (.iaload, 1) := by decide +kernel
theorem dL_law_541 : decode cL_law 541 = .ok (.aload_n 0, 1) := by decide +kernel
theorem dL_law_542 : decode cL_law 542 = .ok (.iload_n 3, 1) := by decide +kernel
theorem dL_law_543 : decode cL_law 543 = .ok (.iconst 3, 1) := by decide +kernel
theorem dL_law_544 : decode cL_law 544 = .ok (.iadd, 1) := by decide +kernel
theorem dL_law_545 : decode cL_law 545 = .ok (.iaload, 1) := by decide +kernel
theorem dL_law_546 : decode cL_law 546 = .ok (.aload_n 0, 1) := by decide +kernel
theorem dL_law_547 : decode cL_law 547 = .ok (.iload_n 3, 1) := by decide +kernel
theorem dL_law_548 : decode cL_law 548 = .ok (.iconst 4, 1) := by decide +kernel
theorem dL_law_549 : decode cL_law 549 = .ok (.iadd, 1) := by decide +kernel
theorem dL_law_550 : decode cL_law 550 = .ok (.iaload, 1) := by decide +kernel
theorem dL_law_551 : decode cL_law 551 = .ok (.invokevirtual 79, 3) := by decide +kernel
theorem dL_law_554 : decode cL_law 554 = .ok (.aload_n 2, 1) := by decide +kernel
theorem dL_law_555 : decode cL_law 555 = .ok (.aload_n 0, 1) := by decide +kernel
theorem dL_law_556 : decode cL_law 556 = .ok (.iload_n 3, 1) := by decide +kernel
theorem dL_law_557 : decode cL_law 557 = .ok (.iconst 1, 1) := by decide +kernel
theorem dL_law_558 : decode cL_law 558 = .ok (.iadd, 1) := by decide +kernel
theorem dL_law_559 : decode cL_law 559 = .ok (.iaload, 1) := by decide +kernel
theorem dL_law_560 : decode cL_law 560 = .ok (.aload_n 0, 1) := by decide +kernel
theorem dL_law_561 : decode cL_law 561 = .ok (.iload_n 3, 1) := by decide +kernel
theorem dL_law_562 : decode cL_law 562 = .ok (.iconst 2, 1) := by decide +kernel
theorem dL_law_563 : decode cL_law 563 = .ok (.iadd, 1) := by decide +kernel
theorem dL_law_564 : decode cL_law 564 = .ok (.iaload, 1) := by decide +kernel
theorem dL_law_565 : decode cL_law 565 = .ok (.aload_n 0, 1) := by decide +kernel
theorem dL_law_566 : decode cL_law 566 = .ok (.iload_n 3, 1) := by decide +kernel
theorem dL_law_567 : decode cL_law 567 = .ok (.iconst 3, 1) := by decide +kernel
theorem dL_law_568 : decode cL_law 568 = .ok (.iadd, 1) := by decide +kernel
theorem dL_law_569 : decode cL_law 569 = .ok (.iaload, 1) := by decide +kernel
theorem dL_law_570 : decode cL_law 570 = .ok (.aload_n 0, 1) := by decide +kernel
theorem dL_law_571 : decode cL_law 571 = .ok (.iload_n 3, 1) := by decide +kernel
theorem dL_law_572 : decode cL_law 572 = .ok (.iconst 4, 1) := by decide +kernel
theorem dL_law_573 : decode cL_law 573 = .ok (.iadd, 1) := by decide +kernel
theorem dL_law_574 : decode cL_law 574 = .ok (.iaload, 1) := by decide +kernel
theorem dL_law_575 : decode cL_law 575 = .ok (.invokevirtual 83, 3) := by decide +kernel
theorem dL_law_578 : decode cL_law 578 = .ok (.if_icmp .eq 5, 3) := by decide +kernel
theorem dL_law_581 : decode cL_law 581 = .ok (.iconst 0, 1) := by decide +kernel
theorem dL_law_582 : decode cL_law 582 = .ok (.ireturn, 1) := by decide +kernel
theorem dL_law_583 : decode cL_law 583 = .ok (.iinc 3 6, 3) := by decide +kernel
theorem dL_law_586 : decode cL_law 586 = .ok (.goto (-568), 3) := by decide +kernel
theorem dL_law_589 : decode cL_law 589 = .ok (.iconst 1, 1) := by decide +kernel
theorem dL_law_590 : decode cL_law 590 = .ok (.ireturn, 1) := by decide +kernel
/-! THE CLAIM OUT OF ONE WALK OF THE LAW'S BODY. Your part is whole_start (and what it stands on); all else here is the same for every law, but numbers. -/
def R_law : String := "SteadyMachineLaw"
def lw_P (b : Addr) (xs : List Int32) (args : Array Value) (s : State) : Prop := args = #[.ref b] ∧ s.IntsAt b xs ∧ xs.length ≤ 3072 ∧ (Jvm.Cond.and given_1 narrow_1).before args s = true
def lw_Q (_ : Array Value) (s : State) (o : Outcome) (t : State) : Prop := o = .returned (some (.int 1)) ∧ Framed s o t [] 60000 8922250
def lw_Z (below : List Frame) (a : Array Value) (s : State) : State → Prop := fun t => ∃ o, t.status = .running ∧ Ended t below o ∧ lw_Q a s o t
/-- the law's own end, with 1 on the stack, nothing written that was there before, its room as the claim has it -/
theorem lw_ret {p : Program} {l : Launch} {e : Env} {s : State} {m : MethodId} {below : List Frame} {meth : Method} {c : Code} {b : Nat} (hx : p.tables.exec = Jvm.exec) (hb : c.code = code) (hr : meth.sig.returnType = ret) (hlocks : meth.locks = false) {pc : Nat} {H : Heap} {ls : Array Slot} (hdg : decode code pc = .ok (.ireturn, 1)) : W p l e room_1 s m #[Value.ref b] below meth c H [] 60000 8922250 (lw_Z below #[Value.ref b] s) (F0 m pc ls [.int 1]) := by
  intro T hT X
  obtain ⟨fs, hret, hrun, hended, hW, hframe⟩ := X.leave (v := some (.int 1)) (hlocks := hlocks) (fun h => by rw [hr] at h; cases h)
  have hmeth' : T.vm.method? m = some meth := X.method'
  refine ⟨T.setFrames fs, ?_, .returned (some (.int 1)), hrun, hended, rfl, ⟨_, rfl⟩, hW, hframe⟩
  jvm_step X.here [X.here.top, hx, hb, hdg, hmeth', hr, ret, narrow_b1]
  (try refine ⟨rfl, ?_⟩); (try refine ⟨rfl, ?_⟩)
  first | (intro acts; rw [hret _ acts rfl rfl rfl]) | rw [hret _ _ rfl rfl rfl]
  exact Steps.refl _
/-- what holds at the law's entry: the machine, the code, the tables' words (any of lw_tbl by 'hts w (by decide +kernel)'), the script of L ints xs at the cell b, what the Statement gives of the start (any of its parts by flat_of_before) -/
def lw_At (p : Program) (s : State) (m : MethodId) (meth : Method) (c : Code) (b L : Nat) (xs : Nat → Int32) : Prop :=
  p.tables.exec = Jvm.exec ∧ c.code = code ∧ meth.sig.returnType = ret ∧ c.maxLocals = 4 ∧ s.vm.findClass R_law = some m.cls ∧ (∀ w ∈ lw_tbl, w.before #[Value.ref b] s = true) ∧ va_X b L xs s s.heap ∧ b < s.heap.size ∧ meth.locks = false ∧ (Jvm.Cond.and given_1 narrow_1).before #[Value.ref b] s = true
theorem lw_le {k L : Nat} (hL : L < 1000000) (hk : 6 * k < 1000000) (h : ¬ Int32.ofNat L - 6 < nI (6 * k)) : 6 * k + 6 ≤ L := by
  have h1 : (nI L - nI 6).toInt = (L : Int) - (6 : Nat) := pk_sub_toInt (by omega) (by omega)
  have h2 : (nI (6 * k)).toInt = ((6 * k : Nat) : Int) := nI_toInt (by omega)
  have h3 : ¬ (nI L - nI 6).toInt < (nI (6 * k)).toInt := fun q => h (Int32.lt_iff_toInt_lt.mpr q)
  rw [h1, h2] at h3
  omega
theorem lw_in {k L : Nat} (j : Nat) (h : 6 * k + j < L) (hL : L < 1000000) : vp_in (nI (6 * k) + nI j) L := by
  rw [nI_add]
  exact vp_in_nI h (by omega)
theorem lw_c0 {x y : Int64} (h : x = y) : lg_cmp x y = 0 := by
  subst h
  simp [lg_cmp]
theorem lx_keep {D : va_G} {ws2 : va_W} {α1 α2 : sm_A} {N1 N2 : Nat} {H H1 : Heap} (hm : ws2.map Prod.fst = (List.range N2).map α2.1) (hP : va_P D vwCl ws2 H) (hdis : ∀ i j : Nat, i < N1 → j < N2 → α1.1 i ≠ α2.1 j) (hk : ∀ q : Nat, q < H.size → ¬ sm_a α1 N1 H.size q → H1[q]? = H[q]?) : va_P D vwCl ws2 H1 := by
  refine hP.kept (fun k q hq => ?_)
  obtain ⟨h1, h2⟩ := sm_pos hm hq
  have hlt : q.1 < H.size := (hP k q hq).lt
  refine hk q.1 hlt (fun hs => ?_)
  rcases hs with ⟨j, hj, he⟩ | hs
  · exact hdis j k hj h1 (by rw [← he, h2])
  · omega
section LXC
variable {p : Program} {l : Launch} {e : Env} {R : Room} {s : State} {m : MethodId} {args : Array Value} {below : List Frame} {meth : Method} {c : Code} {H : Heap} {locs : List Loc} {cells slots : Nat} {Q : State → Prop}
variable {w w2 : sm_S → sm_A → va_W} {ty : sm_A → List (ClassId × FieldType)} {N N2 nO : Nat} {D : va_G} {t0 : Nat} {σ σ2 : sm_S} {α α2 : sm_A} {A : Nat → Prop}
variable {pc : Nat} {ls : Array Slot} {st0 rest As : List Value} {y : MethodName} {ws : List Cond} {rm : Room} {Ts : List Cond} {cc bytes : ByteArray} {nL maxL index n b mc ms : Nat} {own C : String} {ret : Option FieldType}
theorem lx_vi {K : Int32 → sm_S → Prop} (hP : va_P D vwCl (w σ α) H) (hP2 : va_P D vwCl (w2 σ2 α2) H) (hm2 : (w2 σ2 α2).map Prod.fst = (List.range N2).map α2.1) (hK : va_K D vwCl (ty α) s) (hD : sm_D A α N) (hdis : ∀ i j : Nat, i < N → j < N2 → α.1 i ≠ α2.1 j) (hE : sm_E t0 A s) (hS : va_S A s.heap H locs) (hA : ∀ q : Nat, s.heap.size ≤ q → A q) (S : CallFix p m c cc nL s args Ts own) (hsz : ls.size = nL)
    (hM : Met l y ws rm (sm_P w ty N D H.size t0 σ α (.ref b :: As)) (va_Qi K (sm_B w D α) (sm_a α N H.size)) 0 0 (sm_a α N H.size)) (cw : CallW R s args own C index y bytes maxL ret ws rm 0 0 n) (hr : ∃ cellB : Cell, H[b]? = some cellB ∧ cellB.vm.isStatics = false ∧ s.vm.findClass C = some cellB.cls) (hn : As.length = n) (hst : st0 = As.reverse ++ .ref b :: rest) (hW : (rest.map fun v => v.category).sum ≤ 8) (hdg : decode cc pc = .ok (.invokevirtual index, 3)) (hf : cells ≤ R.cells ∧ slots ≤ R.slots)
    (kk : ∀ (r : Int32) (σ' : sm_S) (H1 : Heap) (locs1 : List Loc), K r σ' → va_P D vwCl (w σ' α) H1 → va_P D vwCl (w2 σ2 α2) H1 → va_S A s.heap H1 locs1 → W p l e R s m args below meth c H1 locs1 cells slots Q (F0 m (pc + 3) ls (.int r :: rest))) : W p l e R s m args below meth c H locs cells slots Q (F0 m pc ls st0) := by
  have hs := sm_sub hD hA hS.1
  refine va_calli (va_runV (g := F0 m pc ls st0) S hM cw ⟨sm_P.blind, hr, sm_P.at hP hK hD hE hS hA⟩ rfl hn hsz hst (lv_room hW) hdg hf) hS (fun q _ h => hs q h) hs (fun r u t H1 locs1 ht hvm hw hB hz1 hk1 hS1 => ?_)
  exact kk r u H1 locs1 hw (by rw [← ht]; exact hB) (lx_keep hm2 hP2 hdis hk1) hS1
theorem lx_vl {K : Int64 → sm_S → Prop} (hP : va_P D vwCl (w σ α) H) (hP2 : va_P D vwCl (w2 σ2 α2) H) (hm2 : (w2 σ2 α2).map Prod.fst = (List.range N2).map α2.1) (hK : va_K D vwCl (ty α) s) (hD : sm_D A α N) (hdis : ∀ i j : Nat, i < N → j < N2 → α.1 i ≠ α2.1 j) (hE : sm_E t0 A s) (hS : va_S A s.heap H locs) (hA : ∀ q : Nat, s.heap.size ≤ q → A q) (S : CallFix p m c cc nL s args Ts own) (hsz : ls.size = nL)
    (hM : Met l y ws rm (sm_P w ty N D H.size t0 σ α (.ref b :: As)) (va_Ql K (sm_B w D α) (sm_a α N H.size)) 0 0 (sm_a α N H.size)) (cw : CallW R s args own C index y bytes maxL ret ws rm 0 0 n) (hr : ∃ cellB : Cell, H[b]? = some cellB ∧ cellB.vm.isStatics = false ∧ s.vm.findClass C = some cellB.cls) (hn : As.length = n) (hst : st0 = As.reverse ++ .ref b :: rest) (hW : (rest.map fun v => v.category).sum ≤ 8) (hdg : decode cc pc = .ok (.invokevirtual index, 3)) (hf : cells ≤ R.cells ∧ slots ≤ R.slots)
    (kk : ∀ (r : Int64) (σ' : sm_S) (H1 : Heap) (locs1 : List Loc), K r σ' → va_P D vwCl (w σ' α) H1 → va_P D vwCl (w2 σ2 α2) H1 → va_S A s.heap H1 locs1 → W p l e R s m args below meth c H1 locs1 cells slots Q (F0 m (pc + 3) ls (.long r :: rest))) : W p l e R s m args below meth c H locs cells slots Q (F0 m pc ls st0) := by
  have hs := sm_sub hD hA hS.1
  refine va_calll (va_runV (g := F0 m pc ls st0) S hM cw ⟨sm_P.blind, hr, sm_P.at hP hK hD hE hS hA⟩ rfl hn hsz hst (lv_room hW) hdg hf) hS (fun q _ h => hs q h) hs (fun r u t H1 locs1 ht hvm hw hB hz1 hk1 hS1 => ?_)
  exact kk r u H1 locs1 hw (by rw [← ht]; exact hB) (lx_keep hm2 hP2 hdis hk1) hS1
theorem lx_vv {K : sm_S → Prop} (hP : va_P D vwCl (w σ α) H) (hP2 : va_P D vwCl (w2 σ2 α2) H) (hm2 : (w2 σ2 α2).map Prod.fst = (List.range N2).map α2.1) (hK : va_K D vwCl (ty α) s) (hD : sm_D A α N) (hdis : ∀ i j : Nat, i < N → j < N2 → α.1 i ≠ α2.1 j) (hE : sm_E t0 A s) (hS : va_S A s.heap H locs) (hA : ∀ q : Nat, s.heap.size ≤ q → A q) (S : CallFix p m c cc nL s args Ts own) (hsz : ls.size = nL)
    (hM : Met l y ws rm (sm_P w ty N D H.size t0 σ α (.ref b :: As)) (va_Qv K (sm_B w D α) (sm_a α N H.size)) 0 0 (sm_a α N H.size)) (cw : CallW R s args own C index y bytes maxL ret ws rm 0 0 n) (hr : ∃ cellB : Cell, H[b]? = some cellB ∧ cellB.vm.isStatics = false ∧ s.vm.findClass C = some cellB.cls) (hn : As.length = n) (hst : st0 = As.reverse ++ .ref b :: rest) (hW : (rest.map fun v => v.category).sum ≤ 8) (hdg : decode cc pc = .ok (.invokevirtual index, 3)) (hf : cells ≤ R.cells ∧ slots ≤ R.slots)
    (kk : ∀ (σ' : sm_S) (H1 : Heap) (locs1 : List Loc), K σ' → va_P D vwCl (w σ' α) H1 → va_P D vwCl (w2 σ2 α2) H1 → va_S A s.heap H1 locs1 → W p l e R s m args below meth c H1 locs1 cells slots Q (F0 m (pc + 3) ls rest)) : W p l e R s m args below meth c H locs cells slots Q (F0 m pc ls st0) := by
  have hs := sm_sub hD hA hS.1
  refine va_callv (va_runV (g := F0 m pc ls st0) S hM cw ⟨sm_P.blind, hr, sm_P.at hP hK hD hE hS hA⟩ rfl hn hsz hst (lv_room hW) hdg hf) hS (fun q _ h => hs q h) hs (fun u t H1 locs1 ht hvm hw hB hz1 hk1 hS1 => ?_)
  exact kk u H1 locs1 hw (by rw [← ht]; exact hB) (lx_keep hm2 hP2 hdis hk1) hS1
theorem lx_ai {K : Int32 → sm_S → Prop} (hP : va_P D vwCl (w σ α) H) (hP2 : va_P D vwCl (w2 σ2 α2) H) (hm2 : (w2 σ2 α2).map Prod.fst = (List.range N2).map α2.1) (hK : va_K D vwCl (ty α) s) (hD : sm_D A α N) (hdis : ∀ i j : Nat, i < N → j < N2 → α.1 i ≠ α2.1 j) (hE : sm_E t0 A s) (hS : va_S A s.heap H locs) (hA : ∀ q : Nat, s.heap.size ≤ q → A q) (S : CallFix p m c cc nL s args Ts own) (hsz : ls.size = nL)
    (hM : Met l y ws rm (sm_P w ty N D H.size t0 σ α (.ref b :: As)) (va_Qi (fun r (u : sm_S × sm_A) => K r u.1) (sm_Ba w ty N nO D (sm_a α N H.size) α) (sm_a α N H.size)) mc ms (sm_a α N H.size)) (cw : CallW R s args own C index y bytes maxL ret ws rm mc ms n) (hr : ∃ cellB : Cell, H[b]? = some cellB ∧ cellB.vm.isStatics = false ∧ s.vm.findClass C = some cellB.cls) (hn : As.length = n) (hst : st0 = As.reverse ++ .ref b :: rest) (hW : (rest.map fun v => v.category).sum ≤ 8) (hdg : decode cc pc = .ok (.invokevirtual index, 3)) (hf : cells + mc ≤ R.cells ∧ slots + ms ≤ R.slots)
    (kk : ∀ (r : Int32) (σ' : sm_S) (α' : sm_A) (H1 : Heap) (locs1 : List Loc), K r σ' → (∀ k : Nat, k < nO → α'.1 k = α.1 k) → va_K D vwCl (ty α') s → sm_D A α' N → (∀ i j : Nat, i < N → j < N2 → α'.1 i ≠ α2.1 j) → va_P D vwCl (w σ' α') H1 → va_P D vwCl (w2 σ2 α2) H1 → va_S A s.heap H1 locs1 → W p l e R s m args below meth c H1 locs1 (cells + mc) (slots + ms) Q (F0 m (pc + 3) ls (.int r :: rest))) : W p l e R s m args below meth c H locs cells slots Q (F0 m pc ls st0) := by
  have hs := sm_sub hD hA hS.1
  refine va_calli (va_runV (g := F0 m pc ls st0) S hM cw ⟨sm_P.blind, hr, sm_P.at hP hK hD hE hS hA⟩ rfl hn hsz hst (lv_room hW) hdg hf) hS (fun q _ h => hs q h) hs (fun r u t H1 locs1 ht hvm hw hB hz1 hk1 hS1 => ?_)
  obtain ⟨b1, b2, b3, b4⟩ := hB
  refine kk r u.1 u.2 H1 locs1 hw b4 (va_K.moved hvm.symm b2) ⟨b3.1, fun k hk => hs _ (b3.2 k hk)⟩ (fun i j hi hj he => ?_) (by rw [← ht]; exact b1) (lx_keep hm2 hP2 hdis hk1) hS1
  have hlt : α2.1 j < H.size := by
    have key : ∃ q : Nat × va_E, (w2 σ2 α2)[j]? = some q ∧ q.1 = α2.1 j := by
      have h1 : ((w2 σ2 α2).map Prod.fst)[j]? = some (α2.1 j) := by rw [hm2, List.getElem?_map, List.getElem?_range hj]; rfl
      rw [List.getElem?_map] at h1
      cases hq : (w2 σ2 α2)[j]? with
      | none => rw [hq] at h1; simp at h1
      | some q => rw [hq] at h1; exact ⟨q, rfl, Option.some.inj h1⟩
    obtain ⟨q, h1, h2⟩ := key
    rw [← h2]
    exact (hP2 j q h1).lt
  rcases b3.2 i hi with ⟨k, hk, h2⟩ | h2
  · exact hdis k j hk hj (by rw [← h2]; exact he)
  · omega
end LXC
set_option maxHeartbeats 8000000 in
set_option maxRecDepth 100000 in
theorem lw_loop {p : Program} {l : Launch} {e : Env} {s : State} {m : MethodId} {below : List Frame} {meth : Method} {c : Code} {D : va_G} {b L t0 : Nat} {xs : Nat → Int32} {Inv : Nat → sm_S → sm_S → Nat → Nat → Prop} (hL : L ≤ 3072) (C0 : lw_At p s m meth c b L xs) (hE : sm_E t0 (fun q : Nat => s.heap.size ≤ q) s) (hSim : lw_Sim L Inv) :
    ∀ (n k : Nat) (x3 : Int32), 6 * k ≤ L + 6 → L + 6 < 6 * k + 6 * n → x3 = nI (6 * k) → ∀ (σ μ : sm_S) (α β : sm_A) (C S : Nat), Inv k σ μ C S → ∀ (H : Heap) (locs : List Loc) (cells slots : Nat), cells + C ≤ 60000 → slots + S ≤ 8922250 → va_K D vwCl (sm_tX α) s → va_K D vwCl (sm_tM β) s → sm_D (fun q : Nat => s.heap.size ≤ q) α 37 → sm_D (fun q : Nat => s.heap.size ≤ q) β 40 → (∀ i j : Nat, i < 37 → j < 40 → α.1 i ≠ β.1 j) → va_P D vwCl (sm_wX σ α) H → va_P D vwCl (sm_wM μ β) H → va_S (fun q : Nat => s.heap.size ≤ q) s.heap H locs → ∀ (ls : Array Slot), lv_has ls 4 [(0, .ref b), (1, .ref (α.1 10)), (2, .ref (β.1 1)), (3, .int x3)] → W p l e room_1 s m #[Value.ref b] below meth c H locs cells slots (lw_Z below #[Value.ref b] s) (F0 m 18 ls []) := by
  obtain ⟨hx, hb, hr, hml, hown, hts, hX, hbl, hlocks, hgv⟩ := C0
  have hA : ∀ q : Nat, s.heap.size ≤ q → (fun q : Nat => s.heap.size ≤ q) q := fun _ h => h
  have hbA : ¬ (fun q : Nat => s.heap.size ≤ q) b := Nat.not_le.mpr hbl
  have hcl := hts (.constantLong RL 59 (4294967295)) (by decide +kernel)
  intro n
  induction n with
  | zero =>
    intro k x3 h1 h2
    exact absurd h2 (by omega)
  | succ n ih =>
    intro k x3 hk hn ex3 σ μ α β C S hI H locs cells slots hC hSl hKX hKM hDX hDM hdis hPX hPM hS ls hl
    refine lv_iload_n hx hb dL_law_18 rfl (lv_at hl 3 rfl) ?_
    refine lv_aload_n hx hb dL_law_19 rfl (lv_at hl 0 rfl) ?_
    refine va_slen hx hb hX hbl hbA hS dL_law_20 ?_
    refine lv_bipush (v := 6) hx hb dL_law_21 (by decide) ?_
    refine lv_isub hx hb dL_law_23 ?_
    refine lv_icmp_gt (tgt := 589) hx hb dL_law_24 (by decide) (fun hgt => ?_) (fun hgt => ?_)
    · refine lv_iconst (v := 1) hx hb dL_law_589 (by decide) ?_
      refine va_forget (fun q hq => hS.2.2 q hq) ?_
      refine W.widen (k := 60000) (n := 8922250) (by omega) (by omega) ?_
      exact lw_ret hx hb hr hlocks dL_law_590
    have hle : 6 * k + 6 ≤ L := lw_le (by omega) (by omega) (by rw [← ex3]; exact hgt)
    have hF := hSim k σ μ C S hle hI
    have hi0 : vp_in x3 L := by rw [ex3]; exact vp_in_nI (by omega) (by omega)
    have hi1 : vp_in (x3 + 1) L := by rw [ex3]; exact lw_in 1 (by omega) (by omega)
    have hi2 : vp_in (x3 + 2) L := by rw [ex3]; exact lw_in 2 (by omega) (by omega)
    have hi3 : vp_in (x3 + 3) L := by rw [ex3]; exact lw_in 3 (by omega) (by omega)
    have hi4 : vp_in (x3 + 4) L := by rw [ex3]; exact lw_in 4 (by omega) (by omega)
    have hi5 : vp_in (x3 + 5) L := by rw [ex3]; exact lw_in 5 (by omega) (by omega)
    have next : ∀ (σ μ : sm_S) (α β : sm_A) (C S : Nat), Inv (k + 1) σ μ C S → ∀ (H : Heap) (locs : List Loc) (cells slots : Nat), cells + C ≤ 60000 → slots + S ≤ 8922250 → va_K D vwCl (sm_tX α) s → va_K D vwCl (sm_tM β) s → sm_D (fun q : Nat => s.heap.size ≤ q) α 37 → sm_D (fun q : Nat => s.heap.size ≤ q) β 40 → (∀ i j : Nat, i < 37 → j < 40 → α.1 i ≠ β.1 j) → va_P D vwCl (sm_wX σ α) H → va_P D vwCl (sm_wM μ β) H → va_S (fun q : Nat => s.heap.size ≤ q) s.heap H locs → ∀ (ls : Array Slot), lv_has ls 4 [(0, .ref b), (1, .ref (α.1 10)), (2, .ref (β.1 1)), (3, .int x3)] → W p l e room_1 s m #[Value.ref b] below meth c H locs cells slots (lw_Z below #[Value.ref b] s) (F0 m 583 ls []) := by
      intro σ μ α β C S hI H locs cells slots hC hSl hKX hKM hDX hDM hdis hPX hPM hS ls hl
      obtain ⟨x4, ex4⟩ : ∃ y : Int32, y = x3 + 6 := ⟨_, rfl⟩
      refine lv_iinc (v := x4) (lv' := [(3, .int x4), (0, .ref b), (1, .ref (α.1 10)), (2, .ref (β.1 1))]) hx hb dL_law_583 hl (k := 3) rfl (by rw [ex4]; rfl) (by decide) rfl (fun ls hl => ?_)
      refine lv_goto (tgt := 18) hx hb dL_law_586 (by decide) ?_
      exact ih (k + 1) x4 (by omega) (by omega) (by rw [ex4, ex3, show (6 : Int32) = nI 6 from rfl, nI_add]; exact congrArg nI (by omega)) σ μ α β C S hI H locs cells slots hC hSl hKX hKM hDX hDM hdis hPX hPM hS ls (lv_sub hl [1, 2, 3, 0] rfl)
    refine lv_aload_n hx hb dL_law_27 rfl (lv_at hl 0 rfl) ?_
    refine lv_iload_n hx hb dL_law_28 rfl (lv_at hl 3 rfl) ?_
    refine va_sld hx hb hX hbl hbA hS hi0 dL_law_29 ?_
    refine lv_bipush (v := 15) hx hb dL_law_30 (by decide) ?_
    refine lv_iand hx hb dL_law_32 ?_
    refine lv_topi (fun y ey => ?_)
    by_cases y0 : y = 0
    · refine lv_tableIn (tgt := 108) hx hb dL_law_33 (by rw [y0]; decide) (by rw [y0]; decide) (by rw [y0]; rfl) (by decide) ?_
      refine lv_aload_n hx hb dL_law_108 rfl (lv_at hl 1 rfl) ?_
      refine lv_aload_n hx hb dL_law_109 rfl (lv_at hl 0 rfl) ?_
      refine lv_iload_n hx hb dL_law_110 rfl (lv_at hl 3 rfl) ?_
      refine lv_iconst (v := 1) hx hb dL_law_111 (by decide) ?_
      refine lv_iadd hx hb dL_law_112 ?_
      refine va_sld hx hb hX hbl hbA hS hi1 dL_law_113 ?_
      refine lv_aload_n hx hb dL_law_114 rfl (lv_at hl 0 rfl) ?_
      refine lv_iload_n hx hb dL_law_115 rfl (lv_at hl 3 rfl) ?_
      refine lv_iconst (v := 2) hx hb dL_law_116 (by decide) ?_
      refine lv_iadd hx hb dL_law_117 ?_
      refine va_sld hx hb hX hbl hbA hS hi2 dL_law_118 ?_
      refine lv_aload_n hx hb dL_law_119 rfl (lv_at hl 0 rfl) ?_
      refine lv_iload_n hx hb dL_law_120 rfl (lv_at hl 3 rfl) ?_
      refine lv_iconst (v := 3) hx hb dL_law_121 (by decide) ?_
      refine lv_iadd hx hb dL_law_122 ?_
      refine va_sld hx hb hX hbl hbA hS hi3 dL_law_123 ?_
      refine lv_aload_n hx hb dL_law_124 rfl (lv_at hl 0 rfl) ?_
      refine lv_iload_n hx hb dL_law_125 rfl (lv_at hl 3 rfl) ?_
      refine lv_iconst (v := 4) hx hb dL_law_126 (by decide) ?_
      refine lv_iadd hx hb dL_law_127 ?_
      refine va_sld hx hb hX hbl hbA hS hi4 dL_law_128 ?_
      refine lv_aload_n hx hb dL_law_129 rfl (lv_at hl 0 rfl) ?_
      refine lv_iload_n hx hb dL_law_130 rfl (lv_at hl 3 rfl) ?_
      refine lv_iconst (v := 5) hx hb dL_law_131 (by decide) ?_
      refine lv_iadd hx hb dL_law_132 ?_
      refine va_sld hx hb hX hbl hbA hS hi5 dL_law_133 ?_
      obtain ⟨mc, ms, hm1, hm2, hF⟩ := hF.1 (xs (x3 + 1).toNatClampNeg) (xs (x3 + 2).toNatClampNeg) (xs (x3 + 3).toNatClampNeg) (xs (x3 + 4).toNatClampNeg) (xs (x3 + 5).toNatClampNeg)
      refine lx_ai (nO := 11) (As := [.int (xs (x3 + 1).toNatClampNeg), .int (xs (x3 + 2).toNatClampNeg), .int (xs (x3 + 3).toNatClampNeg), .int (xs (x3 + 4).toNatClampNeg), .int (xs (x3 + 5).toNatClampNeg)]) (rest := []) hPX hPM (sm_wM_m μ β) hKX hDX hdis hE hS hA ⟨hx, hb, hml, hown, hts⟩ hl.1 (c_X10_feed l D H.size t0 σ α (xs (x3 + 1).toNatClampNeg) (xs (x3 + 2).toNatClampNeg) (xs (x3 + 3).toNatClampNeg) (xs (x3 + 4).toNatClampNeg) (xs (x3 + 5).toNatClampNeg) mc ms _ hF) (cwV 5 hts gw_X10_feed rfl rfl rfl (by decide +kernel) ⟨Nat.le_of_ble_eq_true rfl, Nat.le_of_ble_eq_true rfl⟩) (va_recv hKX hPX (ci := 10) (q0 := 10) rfl (sm_gX10 σ α)) rfl rfl (Nat.le_of_ble_eq_true rfl) dL_law_134 ⟨(show cells + (mc) ≤ 60000 by omega), (show slots + (ms) ≤ 8922250 by omega)⟩ (fun r σ1 α1 H locs hF hβ hKX hDX hdis hPX hPM hS => ?_)
      replace hl : lv_has ls 4 [(0, .ref b), (1, .ref (α1.1 10)), (2, .ref (β.1 1)), (3, .int x3)] := by rw [hβ 10 (by decide)]; exact hl
      refine lv_aload_n hx hb dL_law_137 rfl (lv_at hl 2 rfl) ?_
      refine lv_aload_n hx hb dL_law_138 rfl (lv_at hl 0 rfl) ?_
      refine lv_iload_n hx hb dL_law_139 rfl (lv_at hl 3 rfl) ?_
      refine lv_iconst (v := 1) hx hb dL_law_140 (by decide) ?_
      refine lv_iadd hx hb dL_law_141 ?_
      refine va_sld hx hb hX hbl hbA hS hi1 dL_law_142 ?_
      refine lv_aload_n hx hb dL_law_143 rfl (lv_at hl 0 rfl) ?_
      refine lv_iload_n hx hb dL_law_144 rfl (lv_at hl 3 rfl) ?_
      refine lv_iconst (v := 2) hx hb dL_law_145 (by decide) ?_
      refine lv_iadd hx hb dL_law_146 ?_
      refine va_sld hx hb hX hbl hbA hS hi2 dL_law_147 ?_
      refine lv_aload_n hx hb dL_law_148 rfl (lv_at hl 0 rfl) ?_
      refine lv_iload_n hx hb dL_law_149 rfl (lv_at hl 3 rfl) ?_
      refine lv_iconst (v := 3) hx hb dL_law_150 (by decide) ?_
      refine lv_iadd hx hb dL_law_151 ?_
      refine va_sld hx hb hX hbl hbA hS hi3 dL_law_152 ?_
      refine lv_aload_n hx hb dL_law_153 rfl (lv_at hl 0 rfl) ?_
      refine lv_iload_n hx hb dL_law_154 rfl (lv_at hl 3 rfl) ?_
      refine lv_iconst (v := 4) hx hb dL_law_155 (by decide) ?_
      refine lv_iadd hx hb dL_law_156 ?_
      refine va_sld hx hb hX hbl hbA hS hi4 dL_law_157 ?_
      refine lv_aload_n hx hb dL_law_158 rfl (lv_at hl 0 rfl) ?_
      refine lv_iload_n hx hb dL_law_159 rfl (lv_at hl 3 rfl) ?_
      refine lv_iconst (v := 5) hx hb dL_law_160 (by decide) ?_
      refine lv_iadd hx hb dL_law_161 ?_
      refine va_sld hx hb hX hbl hbA hS hi5 dL_law_162 ?_
      refine lx_vi (As := [.int (xs (x3 + 1).toNatClampNeg), .int (xs (x3 + 2).toNatClampNeg), .int (xs (x3 + 3).toNatClampNeg), .int (xs (x3 + 4).toNatClampNeg), .int (xs (x3 + 5).toNatClampNeg)]) (rest := [.int r]) hPM hPX (sm_wX_m σ1 α1) hKM hDM (fun i j hi hj h => hdis j i hj hi h.symm) hE hS hA ⟨hx, hb, hml, hown, hts⟩ hl.1 (c_X12_feed l D H.size t0 μ β (xs (x3 + 1).toNatClampNeg) (xs (x3 + 2).toNatClampNeg) (xs (x3 + 3).toNatClampNeg) (xs (x3 + 4).toNatClampNeg) (xs (x3 + 5).toNatClampNeg) _ hF) (cwV 5 hts gw_X12_feed rfl rfl rfl (by decide +kernel) ⟨Nat.le_of_ble_eq_true rfl, Nat.le_of_ble_eq_true rfl⟩) (va_recv hKM hPM (ci := 12) (q0 := 1) rfl (sm_gX12 μ β)) rfl rfl (Nat.le_of_ble_eq_true rfl) dL_law_163 ⟨(show (cells + (mc)) ≤ 60000 by omega), (show (slots + (ms)) ≤ 8922250 by omega)⟩ (fun r2 μ1 H locs hF hPM hPX hS => ?_)
      refine lv_icmp_eq (tgt := 583) hx hb dL_law_166 (by decide) (fun _ => ?_) (fun hne => absurd hF.1 hne)
      exact next σ1 μ1 α1 β (C - (mc)) (S - (ms)) hF.2 H locs (cells + (mc)) (slots + (ms)) (by omega) (by omega) hKX hKM hDX hDM hdis hPX hPM hS ls hl
    by_cases y1 : y = 1
    · refine lv_tableIn (tgt := 171) hx hb dL_law_33 (by rw [y1]; decide) (by rw [y1]; decide) (by rw [y1]; rfl) (by decide) ?_
      refine lv_aload_n hx hb dL_law_171 rfl (lv_at hl 1 rfl) ?_
      refine lv_aload_n hx hb dL_law_172 rfl (lv_at hl 0 rfl) ?_
      refine lv_iload_n hx hb dL_law_173 rfl (lv_at hl 3 rfl) ?_
      refine lv_iconst (v := 1) hx hb dL_law_174 (by decide) ?_
      refine lv_iadd hx hb dL_law_175 ?_
      refine va_sld hx hb hX hbl hbA hS hi1 dL_law_176 ?_
      obtain ⟨mc1, ms1, mc2, ms2, hm1, hm2, hF⟩ := hF.2.1 (xs (x3 + 1).toNatClampNeg)
      refine lx_ai (nO := 11) (As := [.int (xs (x3 + 1).toNatClampNeg)]) (rest := []) hPX hPM (sm_wM_m μ β) hKX hDX hdis hE hS hA ⟨hx, hb, hml, hown, hts⟩ hl.1 (c_X10_end l D H.size t0 σ α (xs (x3 + 1).toNatClampNeg) mc1 ms1 mc2 ms2 _ hF) (cwV 1 hts gw_X10_end rfl rfl rfl (by decide +kernel) ⟨Nat.le_of_ble_eq_true rfl, Nat.le_of_ble_eq_true rfl⟩) (va_recv hKX hPX (ci := 10) (q0 := 10) rfl (sm_gX10 σ α)) rfl rfl (Nat.le_of_ble_eq_true rfl) dL_law_177 ⟨(show cells + (mc1 + mc2) ≤ 60000 by omega), (show slots + (ms1 + ms2) ≤ 8922250 by omega)⟩ (fun r σ1 α1 H locs hF hβ hKX hDX hdis hPX hPM hS => ?_)
      replace hl : lv_has ls 4 [(0, .ref b), (1, .ref (α1.1 10)), (2, .ref (β.1 1)), (3, .int x3)] := by rw [hβ 10 (by decide)]; exact hl
      refine lv_aload_n hx hb dL_law_180 rfl (lv_at hl 2 rfl) ?_
      refine lv_aload_n hx hb dL_law_181 rfl (lv_at hl 0 rfl) ?_
      refine lv_iload_n hx hb dL_law_182 rfl (lv_at hl 3 rfl) ?_
      refine lv_iconst (v := 1) hx hb dL_law_183 (by decide) ?_
      refine lv_iadd hx hb dL_law_184 ?_
      refine va_sld hx hb hX hbl hbA hS hi1 dL_law_185 ?_
      refine lx_vi (As := [.int (xs (x3 + 1).toNatClampNeg)]) (rest := [.int r]) hPM hPX (sm_wX_m σ1 α1) hKM hDM (fun i j hi hj h => hdis j i hj hi h.symm) hE hS hA ⟨hx, hb, hml, hown, hts⟩ hl.1 (c_X12_end l D H.size t0 μ β (xs (x3 + 1).toNatClampNeg) _ hF) (cwV 1 hts gw_X12_end rfl rfl rfl (by decide +kernel) ⟨Nat.le_of_ble_eq_true rfl, Nat.le_of_ble_eq_true rfl⟩) (va_recv hKM hPM (ci := 12) (q0 := 1) rfl (sm_gX12 μ β)) rfl rfl (Nat.le_of_ble_eq_true rfl) dL_law_186 ⟨(show (cells + (mc1 + mc2)) ≤ 60000 by omega), (show (slots + (ms1 + ms2)) ≤ 8922250 by omega)⟩ (fun r2 μ1 H locs hF hPM hPX hS => ?_)
      refine lv_icmp_eq (tgt := 583) hx hb dL_law_189 (by decide) (fun _ => ?_) (fun hne => absurd hF.1 hne)
      exact next σ1 μ1 α1 β (C - (mc1 + mc2)) (S - (ms1 + ms2)) hF.2 H locs (cells + (mc1 + mc2)) (slots + (ms1 + ms2)) (by omega) (by omega) hKX hKM hDX hDM hdis hPX hPM hS ls hl
    by_cases y2 : y = 2
    · refine lv_tableIn (tgt := 194) hx hb dL_law_33 (by rw [y2]; decide) (by rw [y2]; decide) (by rw [y2]; rfl) (by decide) ?_
      refine lv_aload_n hx hb dL_law_194 rfl (lv_at hl 1 rfl) ?_
      refine lv_aload_n hx hb dL_law_195 rfl (lv_at hl 0 rfl) ?_
      refine lv_iload_n hx hb dL_law_196 rfl (lv_at hl 3 rfl) ?_
      refine lv_iconst (v := 1) hx hb dL_law_197 (by decide) ?_
      refine lv_iadd hx hb dL_law_198 ?_
      refine va_sld hx hb hX hbl hbA hS hi1 dL_law_199 ?_
      replace hF := hF.2.2.1 (xs (x3 + 1).toNatClampNeg)
      refine lx_vi (As := [.int (xs (x3 + 1).toNatClampNeg)]) (rest := []) hPX hPM (sm_wM_m μ β) hKX hDX hdis hE hS hA ⟨hx, hb, hml, hown, hts⟩ hl.1 (c_X10_input l D H.size t0 σ α (xs (x3 + 1).toNatClampNeg) _ hF) (cwV 1 hts gw_X10_input rfl rfl rfl (by decide +kernel) ⟨Nat.le_of_ble_eq_true rfl, Nat.le_of_ble_eq_true rfl⟩) (va_recv hKX hPX (ci := 10) (q0 := 10) rfl (sm_gX10 σ α)) rfl rfl (Nat.le_of_ble_eq_true rfl) dL_law_200 ⟨(show cells ≤ 60000 by omega), (show slots ≤ 8922250 by omega)⟩ (fun r σ1 H locs hF hPX hPM hS => ?_)
      refine lv_aload_n hx hb dL_law_203 rfl (lv_at hl 2 rfl) ?_
      refine lv_aload_n hx hb dL_law_204 rfl (lv_at hl 0 rfl) ?_
      refine lv_iload_n hx hb dL_law_205 rfl (lv_at hl 3 rfl) ?_
      refine lv_iconst (v := 1) hx hb dL_law_206 (by decide) ?_
      refine lv_iadd hx hb dL_law_207 ?_
      refine va_sld hx hb hX hbl hbA hS hi1 dL_law_208 ?_
      refine lx_vi (As := [.int (xs (x3 + 1).toNatClampNeg)]) (rest := [.int r]) hPM hPX (sm_wX_m σ1 α) hKM hDM (fun i j hi hj h => hdis j i hj hi h.symm) hE hS hA ⟨hx, hb, hml, hown, hts⟩ hl.1 (c_X12_input l D H.size t0 μ β (xs (x3 + 1).toNatClampNeg) _ hF) (cwV 1 hts gw_X12_input rfl rfl rfl (by decide +kernel) ⟨Nat.le_of_ble_eq_true rfl, Nat.le_of_ble_eq_true rfl⟩) (va_recv hKM hPM (ci := 12) (q0 := 1) rfl (sm_gX12 μ β)) rfl rfl (Nat.le_of_ble_eq_true rfl) dL_law_209 ⟨(show cells ≤ 60000 by omega), (show slots ≤ 8922250 by omega)⟩ (fun r2 μ1 H locs hF hPM hPX hS => ?_)
      refine lv_icmp_eq (tgt := 583) hx hb dL_law_212 (by decide) (fun _ => ?_) (fun hne => absurd hF.1 hne)
      exact next σ1 μ1 α β C S hF.2 H locs cells slots hC hSl hKX hKM hDX hDM hdis hPX hPM hS ls hl
    by_cases y3 : y = 3
    · refine lv_tableIn (tgt := 217) hx hb dL_law_33 (by rw [y3]; decide) (by rw [y3]; decide) (by rw [y3]; rfl) (by decide) ?_
      refine lv_aload_n hx hb dL_law_217 rfl (lv_at hl 1 rfl) ?_
      replace hF := hF.2.2.2.1
      refine lx_vv (As := []) (rest := []) hPX hPM (sm_wM_m μ β) hKX hDX hdis hE hS hA ⟨hx, hb, hml, hown, hts⟩ hl.1 (c_X10_clear l D H.size t0 σ α _ hF) (cwV 0 hts gw_X10_clear rfl rfl rfl (by decide +kernel) ⟨Nat.le_of_ble_eq_true rfl, Nat.le_of_ble_eq_true rfl⟩) (va_recv hKX hPX (ci := 10) (q0 := 10) rfl (sm_gX10 σ α)) rfl rfl (Nat.le_of_ble_eq_true rfl) dL_law_218 ⟨(show cells ≤ 60000 by omega), (show slots ≤ 8922250 by omega)⟩ (fun σ1 H locs hF hPX hPM hS => ?_)
      refine lv_aload_n hx hb dL_law_221 rfl (lv_at hl 2 rfl) ?_
      refine lx_vv (As := []) (rest := []) hPM hPX (sm_wX_m σ1 α) hKM hDM (fun i j hi hj h => hdis j i hj hi h.symm) hE hS hA ⟨hx, hb, hml, hown, hts⟩ hl.1 (c_X12_clear l D H.size t0 μ β _ hF) (cwV 0 hts gw_X12_clear rfl rfl rfl (by decide +kernel) ⟨Nat.le_of_ble_eq_true rfl, Nat.le_of_ble_eq_true rfl⟩) (va_recv hKM hPM (ci := 12) (q0 := 1) rfl (sm_gX12 μ β)) rfl rfl (Nat.le_of_ble_eq_true rfl) dL_law_222 ⟨(show cells ≤ 60000 by omega), (show slots ≤ 8922250 by omega)⟩ (fun μ1 H locs hF hPM hPX hS => ?_)
      refine lv_goto (tgt := 583) hx hb dL_law_225 (by decide) ?_
      exact next σ1 μ1 α β C S hF H locs cells slots hC hSl hKX hKM hDX hDM hdis hPX hPM hS ls hl
    by_cases y4 : y = 4
    · refine lv_tableIn (tgt := 228) hx hb dL_law_33 (by rw [y4]; decide) (by rw [y4]; decide) (by rw [y4]; rfl) (by decide) ?_
      refine lv_aload_n hx hb dL_law_228 rfl (lv_at hl 1 rfl) ?_
      refine lv_aload_n hx hb dL_law_229 rfl (lv_at hl 0 rfl) ?_
      refine lv_iload_n hx hb dL_law_230 rfl (lv_at hl 3 rfl) ?_
      refine lv_iconst (v := 1) hx hb dL_law_231 (by decide) ?_
      refine lv_iadd hx hb dL_law_232 ?_
      refine va_sld hx hb hX hbl hbA hS hi1 dL_law_233 ?_
      refine lv_aload_n hx hb dL_law_234 rfl (lv_at hl 0 rfl) ?_
      refine lv_iload_n hx hb dL_law_235 rfl (lv_at hl 3 rfl) ?_
      refine lv_iconst (v := 2) hx hb dL_law_236 (by decide) ?_
      refine lv_iadd hx hb dL_law_237 ?_
      refine va_sld hx hb hX hbl hbA hS hi2 dL_law_238 ?_
      obtain ⟨mc, ms, hm1, hm2, hF⟩ := hF.2.2.2.2.1 (xs (x3 + 1).toNatClampNeg) (xs (x3 + 2).toNatClampNeg)
      refine lx_ai (nO := 11) (As := [.int (xs (x3 + 1).toNatClampNeg), .int (xs (x3 + 2).toNatClampNeg)]) (rest := []) hPX hPM (sm_wM_m μ β) hKX hDX hdis hE hS hA ⟨hx, hb, hml, hown, hts⟩ hl.1 (c_X10_start l D H.size t0 σ α (xs (x3 + 1).toNatClampNeg) (xs (x3 + 2).toNatClampNeg) mc ms _ hF) (cwV 2 hts gw_X10_start rfl rfl rfl (by decide +kernel) ⟨Nat.le_of_ble_eq_true rfl, Nat.le_of_ble_eq_true rfl⟩) (va_recv hKX hPX (ci := 10) (q0 := 10) rfl (sm_gX10 σ α)) rfl rfl (Nat.le_of_ble_eq_true rfl) dL_law_239 ⟨(show cells + (mc) ≤ 60000 by omega), (show slots + (ms) ≤ 8922250 by omega)⟩ (fun r σ1 α1 H locs hF hβ hKX hDX hdis hPX hPM hS => ?_)
      replace hl : lv_has ls 4 [(0, .ref b), (1, .ref (α1.1 10)), (2, .ref (β.1 1)), (3, .int x3)] := by rw [hβ 10 (by decide)]; exact hl
      refine lv_aload_n hx hb dL_law_242 rfl (lv_at hl 2 rfl) ?_
      refine lv_aload_n hx hb dL_law_243 rfl (lv_at hl 0 rfl) ?_
      refine lv_iload_n hx hb dL_law_244 rfl (lv_at hl 3 rfl) ?_
      refine lv_iconst (v := 1) hx hb dL_law_245 (by decide) ?_
      refine lv_iadd hx hb dL_law_246 ?_
      refine va_sld hx hb hX hbl hbA hS hi1 dL_law_247 ?_
      refine lv_aload_n hx hb dL_law_248 rfl (lv_at hl 0 rfl) ?_
      refine lv_iload_n hx hb dL_law_249 rfl (lv_at hl 3 rfl) ?_
      refine lv_iconst (v := 2) hx hb dL_law_250 (by decide) ?_
      refine lv_iadd hx hb dL_law_251 ?_
      refine va_sld hx hb hX hbl hbA hS hi2 dL_law_252 ?_
      refine lx_vi (As := [.int (xs (x3 + 1).toNatClampNeg), .int (xs (x3 + 2).toNatClampNeg)]) (rest := [.int r]) hPM hPX (sm_wX_m σ1 α1) hKM hDM (fun i j hi hj h => hdis j i hj hi h.symm) hE hS hA ⟨hx, hb, hml, hown, hts⟩ hl.1 (c_X12_start l D H.size t0 μ β (xs (x3 + 1).toNatClampNeg) (xs (x3 + 2).toNatClampNeg) _ hF) (cwV 2 hts gw_X12_start rfl rfl rfl (by decide +kernel) ⟨Nat.le_of_ble_eq_true rfl, Nat.le_of_ble_eq_true rfl⟩) (va_recv hKM hPM (ci := 12) (q0 := 1) rfl (sm_gX12 μ β)) rfl rfl (Nat.le_of_ble_eq_true rfl) dL_law_253 ⟨(show (cells + (mc)) ≤ 60000 by omega), (show (slots + (ms)) ≤ 8922250 by omega)⟩ (fun r2 μ1 H locs hF hPM hPX hS => ?_)
      refine lv_icmp_eq (tgt := 583) hx hb dL_law_256 (by decide) (fun _ => ?_) (fun hne => absurd hF.1 hne)
      exact next σ1 μ1 α1 β (C - (mc)) (S - (ms)) hF.2 H locs (cells + (mc)) (slots + (ms)) (by omega) (by omega) hKX hKM hDX hDM hdis hPX hPM hS ls hl
    by_cases y5 : y = 5
    · refine lv_tableIn (tgt := 261) hx hb dL_law_33 (by rw [y5]; decide) (by rw [y5]; decide) (by rw [y5]; rfl) (by decide) ?_
      refine lv_aload_n hx hb dL_law_261 rfl (lv_at hl 1 rfl) ?_
      refine lv_aload_n hx hb dL_law_262 rfl (lv_at hl 0 rfl) ?_
      refine lv_iload_n hx hb dL_law_263 rfl (lv_at hl 3 rfl) ?_
      refine lv_iconst (v := 1) hx hb dL_law_264 (by decide) ?_
      refine lv_iadd hx hb dL_law_265 ?_
      refine va_sld hx hb hX hbl hbA hS hi1 dL_law_266 ?_
      replace hF := hF.2.2.2.2.2.1 (xs (x3 + 1).toNatClampNeg)
      refine lx_vi (As := [.int (xs (x3 + 1).toNatClampNeg)]) (rest := []) hPX hPM (sm_wM_m μ β) hKX hDX hdis hE hS hA ⟨hx, hb, hml, hown, hts⟩ hl.1 (c_X10_run l D H.size t0 σ α (xs (x3 + 1).toNatClampNeg) _ hF) (cwV 1 hts gw_X10_run rfl rfl rfl (by decide +kernel) ⟨Nat.le_of_ble_eq_true rfl, Nat.le_of_ble_eq_true rfl⟩) (va_recv hKX hPX (ci := 10) (q0 := 10) rfl (sm_gX10 σ α)) rfl rfl (Nat.le_of_ble_eq_true rfl) dL_law_267 ⟨(show cells ≤ 60000 by omega), (show slots ≤ 8922250 by omega)⟩ (fun r σ1 H locs hF hPX hPM hS => ?_)
      refine lv_aload_n hx hb dL_law_270 rfl (lv_at hl 2 rfl) ?_
      refine lv_aload_n hx hb dL_law_271 rfl (lv_at hl 0 rfl) ?_
      refine lv_iload_n hx hb dL_law_272 rfl (lv_at hl 3 rfl) ?_
      refine lv_iconst (v := 1) hx hb dL_law_273 (by decide) ?_
      refine lv_iadd hx hb dL_law_274 ?_
      refine va_sld hx hb hX hbl hbA hS hi1 dL_law_275 ?_
      refine lx_vi (As := [.int (xs (x3 + 1).toNatClampNeg)]) (rest := [.int r]) hPM hPX (sm_wX_m σ1 α) hKM hDM (fun i j hi hj h => hdis j i hj hi h.symm) hE hS hA ⟨hx, hb, hml, hown, hts⟩ hl.1 (c_X12_run l D H.size t0 μ β (xs (x3 + 1).toNatClampNeg) _ hF) (cwV 1 hts gw_X12_run rfl rfl rfl (by decide +kernel) ⟨Nat.le_of_ble_eq_true rfl, Nat.le_of_ble_eq_true rfl⟩) (va_recv hKM hPM (ci := 12) (q0 := 1) rfl (sm_gX12 μ β)) rfl rfl (Nat.le_of_ble_eq_true rfl) dL_law_276 ⟨(show cells ≤ 60000 by omega), (show slots ≤ 8922250 by omega)⟩ (fun r2 μ1 H locs hF hPM hPX hS => ?_)
      refine lv_icmp_eq (tgt := 583) hx hb dL_law_279 (by decide) (fun _ => ?_) (fun hne => absurd hF.1 hne)
      exact next σ1 μ1 α β C S hF.2 H locs cells slots hC hSl hKX hKM hDX hDM hdis hPX hPM hS ls hl
    by_cases y6 : y = 6
    · refine lv_tableIn (tgt := 284) hx hb dL_law_33 (by rw [y6]; decide) (by rw [y6]; decide) (by rw [y6]; rfl) (by decide) ?_
      refine lv_aload_n hx hb dL_law_284 rfl (lv_at hl 1 rfl) ?_
      replace hF := hF.2.2.2.2.2.2.1
      refine lx_vi (As := []) (rest := []) hPX hPM (sm_wM_m μ β) hKX hDX hdis hE hS hA ⟨hx, hb, hml, hown, hts⟩ hl.1 (c_X10_state l D H.size t0 σ α _ hF) (cwV 0 hts gw_X10_state rfl rfl rfl (by decide +kernel) ⟨Nat.le_of_ble_eq_true rfl, Nat.le_of_ble_eq_true rfl⟩) (va_recv hKX hPX (ci := 10) (q0 := 10) rfl (sm_gX10 σ α)) rfl rfl (Nat.le_of_ble_eq_true rfl) dL_law_285 ⟨(show cells ≤ 60000 by omega), (show slots ≤ 8922250 by omega)⟩ (fun r σ1 H locs hF hPX hPM hS => ?_)
      refine lv_aload_n hx hb dL_law_288 rfl (lv_at hl 2 rfl) ?_
      refine lx_vi (As := []) (rest := [.int r]) hPM hPX (sm_wX_m σ1 α) hKM hDM (fun i j hi hj h => hdis j i hj hi h.symm) hE hS hA ⟨hx, hb, hml, hown, hts⟩ hl.1 (c_X12_state l D H.size t0 μ β _ hF) (cwV 0 hts gw_X12_state rfl rfl rfl (by decide +kernel) ⟨Nat.le_of_ble_eq_true rfl, Nat.le_of_ble_eq_true rfl⟩) (va_recv hKM hPM (ci := 12) (q0 := 1) rfl (sm_gX12 μ β)) rfl rfl (Nat.le_of_ble_eq_true rfl) dL_law_289 ⟨(show cells ≤ 60000 by omega), (show slots ≤ 8922250 by omega)⟩ (fun r2 μ1 H locs hF hPM hPX hS => ?_)
      refine lv_icmp_eq (tgt := 583) hx hb dL_law_292 (by decide) (fun _ => ?_) (fun hne => absurd hF.1 hne)
      exact next σ1 μ1 α β C S hF.2 H locs cells slots hC hSl hKX hKM hDX hDM hdis hPX hPM hS ls hl
    by_cases y7 : y = 7
    · refine lv_tableIn (tgt := 297) hx hb dL_law_33 (by rw [y7]; decide) (by rw [y7]; decide) (by rw [y7]; rfl) (by decide) ?_
      refine lv_aload_n hx hb dL_law_297 rfl (lv_at hl 1 rfl) ?_
      refine lv_aload_n hx hb dL_law_298 rfl (lv_at hl 0 rfl) ?_
      refine lv_iload_n hx hb dL_law_299 rfl (lv_at hl 3 rfl) ?_
      refine lv_iconst (v := 1) hx hb dL_law_300 (by decide) ?_
      refine lv_iadd hx hb dL_law_301 ?_
      refine va_sld hx hb hX hbl hbA hS hi1 dL_law_302 ?_
      replace hF := hF.2.2.2.2.2.2.2.1 (xs (x3 + 1).toNatClampNeg)
      refine lx_vl (As := [.int (xs (x3 + 1).toNatClampNeg)]) (rest := []) hPX hPM (sm_wM_m μ β) hKX hDX hdis hE hS hA ⟨hx, hb, hml, hown, hts⟩ hl.1 (c_X10_count l D H.size t0 σ α (xs (x3 + 1).toNatClampNeg) _ hF) (cwV 1 hts gw_X10_count rfl rfl rfl (by decide +kernel) ⟨Nat.le_of_ble_eq_true rfl, Nat.le_of_ble_eq_true rfl⟩) (va_recv hKX hPX (ci := 10) (q0 := 10) rfl (sm_gX10 σ α)) rfl rfl (Nat.le_of_ble_eq_true rfl) dL_law_303 ⟨(show cells ≤ 60000 by omega), (show slots ≤ 8922250 by omega)⟩ (fun r σ1 H locs hF hPX hPM hS => ?_)
      refine lv_aload_n hx hb dL_law_306 rfl (lv_at hl 2 rfl) ?_
      refine lv_aload_n hx hb dL_law_307 rfl (lv_at hl 0 rfl) ?_
      refine lv_iload_n hx hb dL_law_308 rfl (lv_at hl 3 rfl) ?_
      refine lv_iconst (v := 1) hx hb dL_law_309 (by decide) ?_
      refine lv_iadd hx hb dL_law_310 ?_
      refine va_sld hx hb hX hbl hbA hS hi1 dL_law_311 ?_
      refine lx_vl (As := [.int (xs (x3 + 1).toNatClampNeg)]) (rest := [.long r]) hPM hPX (sm_wX_m σ1 α) hKM hDM (fun i j hi hj h => hdis j i hj hi h.symm) hE hS hA ⟨hx, hb, hml, hown, hts⟩ hl.1 (c_X12_count l D H.size t0 μ β (xs (x3 + 1).toNatClampNeg) _ hF) (cwV 1 hts gw_X12_count rfl rfl rfl (by decide +kernel) ⟨Nat.le_of_ble_eq_true rfl, Nat.le_of_ble_eq_true rfl⟩) (va_recv hKM hPM (ci := 12) (q0 := 1) rfl (sm_gX12 μ β)) rfl rfl (Nat.le_of_ble_eq_true rfl) dL_law_312 ⟨(show cells ≤ 60000 by omega), (show slots ≤ 8922250 by omega)⟩ (fun r2 μ1 H locs hF hPM hPX hS => ?_)
      refine W.lcmp hx hb dL_law_315 ?_
      refine lv_if_eq (tgt := 583) hx hb dL_law_316 (by decide) (fun _ => ?_) (fun hne => absurd (lw_c0 hF.1) hne)
      exact next σ1 μ1 α β C S hF.2 H locs cells slots hC hSl hKX hKM hDX hDM hdis hPX hPM hS ls hl
    by_cases y8 : y = 8
    · refine lv_tableIn (tgt := 321) hx hb dL_law_33 (by rw [y8]; decide) (by rw [y8]; decide) (by rw [y8]; rfl) (by decide) ?_
      refine lv_aload_n hx hb dL_law_321 rfl (lv_at hl 1 rfl) ?_
      refine lv_aload_n hx hb dL_law_322 rfl (lv_at hl 0 rfl) ?_
      refine lv_iload_n hx hb dL_law_323 rfl (lv_at hl 3 rfl) ?_
      refine lv_iconst (v := 1) hx hb dL_law_324 (by decide) ?_
      refine lv_iadd hx hb dL_law_325 ?_
      refine va_sld hx hb hX hbl hbA hS hi1 dL_law_326 ?_
      replace hF := hF.2.2.2.2.2.2.2.2.1 (xs (x3 + 1).toNatClampNeg)
      refine lx_vi (As := [.int (xs (x3 + 1).toNatClampNeg)]) (rest := []) hPX hPM (sm_wM_m μ β) hKX hDX hdis hE hS hA ⟨hx, hb, hml, hown, hts⟩ hl.1 (c_X10_out l D H.size t0 σ α (xs (x3 + 1).toNatClampNeg) _ hF) (cwV 1 hts gw_X10_out rfl rfl rfl (by decide +kernel) ⟨Nat.le_of_ble_eq_true rfl, Nat.le_of_ble_eq_true rfl⟩) (va_recv hKX hPX (ci := 10) (q0 := 10) rfl (sm_gX10 σ α)) rfl rfl (Nat.le_of_ble_eq_true rfl) dL_law_327 ⟨(show cells ≤ 60000 by omega), (show slots ≤ 8922250 by omega)⟩ (fun r σ1 H locs hF hPX hPM hS => ?_)
      refine lv_aload_n hx hb dL_law_330 rfl (lv_at hl 2 rfl) ?_
      refine lv_aload_n hx hb dL_law_331 rfl (lv_at hl 0 rfl) ?_
      refine lv_iload_n hx hb dL_law_332 rfl (lv_at hl 3 rfl) ?_
      refine lv_iconst (v := 1) hx hb dL_law_333 (by decide) ?_
      refine lv_iadd hx hb dL_law_334 ?_
      refine va_sld hx hb hX hbl hbA hS hi1 dL_law_335 ?_
      refine lx_vi (As := [.int (xs (x3 + 1).toNatClampNeg)]) (rest := [.int r]) hPM hPX (sm_wX_m σ1 α) hKM hDM (fun i j hi hj h => hdis j i hj hi h.symm) hE hS hA ⟨hx, hb, hml, hown, hts⟩ hl.1 (c_X12_out l D H.size t0 μ β (xs (x3 + 1).toNatClampNeg) _ hF) (cwV 1 hts gw_X12_out rfl rfl rfl (by decide +kernel) ⟨Nat.le_of_ble_eq_true rfl, Nat.le_of_ble_eq_true rfl⟩) (va_recv hKM hPM (ci := 12) (q0 := 1) rfl (sm_gX12 μ β)) rfl rfl (Nat.le_of_ble_eq_true rfl) dL_law_336 ⟨(show cells ≤ 60000 by omega), (show slots ≤ 8922250 by omega)⟩ (fun r2 μ1 H locs hF hPM hPX hS => ?_)
      refine lv_icmp_eq (tgt := 583) hx hb dL_law_339 (by decide) (fun _ => ?_) (fun hne => absurd hF.1 hne)
      exact next σ1 μ1 α β C S hF.2 H locs cells slots hC hSl hKX hKM hDX hDM hdis hPX hPM hS ls hl
    by_cases y9 : y = 9
    · refine lv_tableIn (tgt := 344) hx hb dL_law_33 (by rw [y9]; decide) (by rw [y9]; decide) (by rw [y9]; rfl) (by decide) ?_
      refine lv_aload_n hx hb dL_law_344 rfl (lv_at hl 1 rfl) ?_
      refine lv_aload_n hx hb dL_law_345 rfl (lv_at hl 0 rfl) ?_
      refine lv_iload_n hx hb dL_law_346 rfl (lv_at hl 3 rfl) ?_
      refine lv_iconst (v := 1) hx hb dL_law_347 (by decide) ?_
      refine lv_iadd hx hb dL_law_348 ?_
      refine va_sld hx hb hX hbl hbA hS hi1 dL_law_349 ?_
      refine lv_aload_n hx hb dL_law_350 rfl (lv_at hl 0 rfl) ?_
      refine lv_iload_n hx hb dL_law_351 rfl (lv_at hl 3 rfl) ?_
      refine lv_iconst (v := 2) hx hb dL_law_352 (by decide) ?_
      refine lv_iadd hx hb dL_law_353 ?_
      refine va_sld hx hb hX hbl hbA hS hi2 dL_law_354 ?_
      replace hF := hF.2.2.2.2.2.2.2.2.2.1 (xs (x3 + 1).toNatClampNeg) (xs (x3 + 2).toNatClampNeg)
      refine lx_vi (As := [.int (xs (x3 + 1).toNatClampNeg), .int (xs (x3 + 2).toNatClampNeg)]) (rest := []) hPX hPM (sm_wM_m μ β) hKX hDX hdis hE hS hA ⟨hx, hb, hml, hown, hts⟩ hl.1 (c_X10_frame l D H.size t0 σ α (xs (x3 + 1).toNatClampNeg) (xs (x3 + 2).toNatClampNeg) _ hF) (cwV 2 hts gw_X10_frame rfl rfl rfl (by decide +kernel) ⟨Nat.le_of_ble_eq_true rfl, Nat.le_of_ble_eq_true rfl⟩) (va_recv hKX hPX (ci := 10) (q0 := 10) rfl (sm_gX10 σ α)) rfl rfl (Nat.le_of_ble_eq_true rfl) dL_law_355 ⟨(show cells ≤ 60000 by omega), (show slots ≤ 8922250 by omega)⟩ (fun r σ1 H locs hF hPX hPM hS => ?_)
      refine lv_aload_n hx hb dL_law_358 rfl (lv_at hl 2 rfl) ?_
      refine lv_aload_n hx hb dL_law_359 rfl (lv_at hl 0 rfl) ?_
      refine lv_iload_n hx hb dL_law_360 rfl (lv_at hl 3 rfl) ?_
      refine lv_iconst (v := 1) hx hb dL_law_361 (by decide) ?_
      refine lv_iadd hx hb dL_law_362 ?_
      refine va_sld hx hb hX hbl hbA hS hi1 dL_law_363 ?_
      refine lv_aload_n hx hb dL_law_364 rfl (lv_at hl 0 rfl) ?_
      refine lv_iload_n hx hb dL_law_365 rfl (lv_at hl 3 rfl) ?_
      refine lv_iconst (v := 2) hx hb dL_law_366 (by decide) ?_
      refine lv_iadd hx hb dL_law_367 ?_
      refine va_sld hx hb hX hbl hbA hS hi2 dL_law_368 ?_
      refine lx_vi (As := [.int (xs (x3 + 1).toNatClampNeg), .int (xs (x3 + 2).toNatClampNeg)]) (rest := [.int r]) hPM hPX (sm_wX_m σ1 α) hKM hDM (fun i j hi hj h => hdis j i hj hi h.symm) hE hS hA ⟨hx, hb, hml, hown, hts⟩ hl.1 (c_X12_frame l D H.size t0 μ β (xs (x3 + 1).toNatClampNeg) (xs (x3 + 2).toNatClampNeg) _ hF) (cwV 2 hts gw_X12_frame rfl rfl rfl (by decide +kernel) ⟨Nat.le_of_ble_eq_true rfl, Nat.le_of_ble_eq_true rfl⟩) (va_recv hKM hPM (ci := 12) (q0 := 1) rfl (sm_gX12 μ β)) rfl rfl (Nat.le_of_ble_eq_true rfl) dL_law_369 ⟨(show cells ≤ 60000 by omega), (show slots ≤ 8922250 by omega)⟩ (fun r2 μ1 H locs hF hPM hPX hS => ?_)
      refine lv_icmp_eq (tgt := 583) hx hb dL_law_372 (by decide) (fun _ => ?_) (fun hne => absurd hF.1 hne)
      exact next σ1 μ1 α β C S hF.2 H locs cells slots hC hSl hKX hKM hDX hDM hdis hPX hPM hS ls hl
    by_cases y10 : y = 10
    · refine lv_tableIn (tgt := 377) hx hb dL_law_33 (by rw [y10]; decide) (by rw [y10]; decide) (by rw [y10]; rfl) (by decide) ?_
      refine lv_aload_n hx hb dL_law_377 rfl (lv_at hl 1 rfl) ?_
      refine lv_aload_n hx hb dL_law_378 rfl (lv_at hl 0 rfl) ?_
      refine lv_iload_n hx hb dL_law_379 rfl (lv_at hl 3 rfl) ?_
      refine lv_iconst (v := 1) hx hb dL_law_380 (by decide) ?_
      refine lv_iadd hx hb dL_law_381 ?_
      refine va_sld hx hb hX hbl hbA hS hi1 dL_law_382 ?_
      refine lv_aload_n hx hb dL_law_383 rfl (lv_at hl 0 rfl) ?_
      refine lv_iload_n hx hb dL_law_384 rfl (lv_at hl 3 rfl) ?_
      refine lv_iconst (v := 2) hx hb dL_law_385 (by decide) ?_
      refine lv_iadd hx hb dL_law_386 ?_
      refine va_sld hx hb hX hbl hbA hS hi2 dL_law_387 ?_
      refine lv_aload_n hx hb dL_law_388 rfl (lv_at hl 0 rfl) ?_
      refine lv_iload_n hx hb dL_law_389 rfl (lv_at hl 3 rfl) ?_
      refine lv_iconst (v := 3) hx hb dL_law_390 (by decide) ?_
      refine lv_iadd hx hb dL_law_391 ?_
      refine va_sld hx hb hX hbl hbA hS hi3 dL_law_392 ?_
      refine lv_i2l hx hb dL_law_393 rfl ?_
      refine lv_bipush (v := 32) hx hb dL_law_394 (by decide) ?_
      refine lv_lshl hx hb dL_law_396 rfl ?_
      refine lv_aload_n hx hb dL_law_397 rfl (lv_at hl 0 rfl) ?_
      refine lv_iload_n hx hb dL_law_398 rfl (lv_at hl 3 rfl) ?_
      refine lv_iconst (v := 4) hx hb dL_law_399 (by decide) ?_
      refine lv_iadd hx hb dL_law_400 ?_
      refine va_sld hx hb hX hbl hbA hS hi4 dL_law_401 ?_
      refine lv_i2l hx hb dL_law_402 rfl ?_
      refine lv_ldc2 (v := 4294967295) hx hb hown hcl dL_law_403 ?_
      refine lv_land hx hb dL_law_406 ?_
      refine lv_lor hx hb dL_law_407 ?_
      refine lv_aload_n hx hb dL_law_408 rfl (lv_at hl 0 rfl) ?_
      refine lv_iload_n hx hb dL_law_409 rfl (lv_at hl 3 rfl) ?_
      refine lv_iconst (v := 5) hx hb dL_law_410 (by decide) ?_
      refine lv_iadd hx hb dL_law_411 ?_
      refine va_sld hx hb hX hbl hbA hS hi5 dL_law_412 ?_
      replace hF := hF.2.2.2.2.2.2.2.2.2.2.1 (xs (x3 + 1).toNatClampNeg) (xs (x3 + 2).toNatClampNeg) (((xs (x3 + 3).toNatClampNeg).toInt64 <<< (((32 : Int32)).toInt64 &&& 63)) ||| ((xs (x3 + 4).toNatClampNeg).toInt64 &&& 4294967295)) (xs (x3 + 5).toNatClampNeg)
      refine lx_vl (As := [.int (xs (x3 + 1).toNatClampNeg), .int (xs (x3 + 2).toNatClampNeg), .long (((xs (x3 + 3).toNatClampNeg).toInt64 <<< (((32 : Int32)).toInt64 &&& 63)) ||| ((xs (x3 + 4).toNatClampNeg).toInt64 &&& 4294967295)), .int (xs (x3 + 5).toNatClampNeg)]) (rest := []) hPX hPM (sm_wM_m μ β) hKX hDX hdis hE hS hA ⟨hx, hb, hml, hown, hts⟩ hl.1 (c_X10_value l D H.size t0 σ α (xs (x3 + 1).toNatClampNeg) (xs (x3 + 2).toNatClampNeg) (((xs (x3 + 3).toNatClampNeg).toInt64 <<< (((32 : Int32)).toInt64 &&& 63)) ||| ((xs (x3 + 4).toNatClampNeg).toInt64 &&& 4294967295)) (xs (x3 + 5).toNatClampNeg) _ hF) (cwV 4 hts gw_X10_value rfl rfl rfl (by decide +kernel) ⟨Nat.le_of_ble_eq_true rfl, Nat.le_of_ble_eq_true rfl⟩) (va_recv hKX hPX (ci := 10) (q0 := 10) rfl (sm_gX10 σ α)) rfl rfl (Nat.le_of_ble_eq_true rfl) dL_law_413 ⟨(show cells ≤ 60000 by omega), (show slots ≤ 8922250 by omega)⟩ (fun r σ1 H locs hF hPX hPM hS => ?_)
      refine lv_aload_n hx hb dL_law_416 rfl (lv_at hl 2 rfl) ?_
      refine lv_aload_n hx hb dL_law_417 rfl (lv_at hl 0 rfl) ?_
      refine lv_iload_n hx hb dL_law_418 rfl (lv_at hl 3 rfl) ?_
      refine lv_iconst (v := 1) hx hb dL_law_419 (by decide) ?_
      refine lv_iadd hx hb dL_law_420 ?_
      refine va_sld hx hb hX hbl hbA hS hi1 dL_law_421 ?_
      refine lv_aload_n hx hb dL_law_422 rfl (lv_at hl 0 rfl) ?_
      refine lv_iload_n hx hb dL_law_423 rfl (lv_at hl 3 rfl) ?_
      refine lv_iconst (v := 2) hx hb dL_law_424 (by decide) ?_
      refine lv_iadd hx hb dL_law_425 ?_
      refine va_sld hx hb hX hbl hbA hS hi2 dL_law_426 ?_
      refine lv_aload_n hx hb dL_law_427 rfl (lv_at hl 0 rfl) ?_
      refine lv_iload_n hx hb dL_law_428 rfl (lv_at hl 3 rfl) ?_
      refine lv_iconst (v := 3) hx hb dL_law_429 (by decide) ?_
      refine lv_iadd hx hb dL_law_430 ?_
      refine va_sld hx hb hX hbl hbA hS hi3 dL_law_431 ?_
      refine lv_i2l hx hb dL_law_432 rfl ?_
      refine lv_bipush (v := 32) hx hb dL_law_433 (by decide) ?_
      refine lv_lshl hx hb dL_law_435 rfl ?_
      refine lv_aload_n hx hb dL_law_436 rfl (lv_at hl 0 rfl) ?_
      refine lv_iload_n hx hb dL_law_437 rfl (lv_at hl 3 rfl) ?_
      refine lv_iconst (v := 4) hx hb dL_law_438 (by decide) ?_
      refine lv_iadd hx hb dL_law_439 ?_
      refine va_sld hx hb hX hbl hbA hS hi4 dL_law_440 ?_
      refine lv_i2l hx hb dL_law_441 rfl ?_
      refine lv_ldc2 (v := 4294967295) hx hb hown hcl dL_law_442 ?_
      refine lv_land hx hb dL_law_445 ?_
      refine lv_lor hx hb dL_law_446 ?_
      refine lv_aload_n hx hb dL_law_447 rfl (lv_at hl 0 rfl) ?_
      refine lv_iload_n hx hb dL_law_448 rfl (lv_at hl 3 rfl) ?_
      refine lv_iconst (v := 5) hx hb dL_law_449 (by decide) ?_
      refine lv_iadd hx hb dL_law_450 ?_
      refine va_sld hx hb hX hbl hbA hS hi5 dL_law_451 ?_
      refine lx_vl (As := [.int (xs (x3 + 1).toNatClampNeg), .int (xs (x3 + 2).toNatClampNeg), .long (((xs (x3 + 3).toNatClampNeg).toInt64 <<< (((32 : Int32)).toInt64 &&& 63)) ||| ((xs (x3 + 4).toNatClampNeg).toInt64 &&& 4294967295)), .int (xs (x3 + 5).toNatClampNeg)]) (rest := [.long r]) hPM hPX (sm_wX_m σ1 α) hKM hDM (fun i j hi hj h => hdis j i hj hi h.symm) hE hS hA ⟨hx, hb, hml, hown, hts⟩ hl.1 (c_X12_value_ l D H.size t0 μ β (xs (x3 + 1).toNatClampNeg) (xs (x3 + 2).toNatClampNeg) (((xs (x3 + 3).toNatClampNeg).toInt64 <<< (((32 : Int32)).toInt64 &&& 63)) ||| ((xs (x3 + 4).toNatClampNeg).toInt64 &&& 4294967295)) (xs (x3 + 5).toNatClampNeg) _ hF) (cwV 4 hts gw_X12_value_ rfl rfl rfl (by decide +kernel) ⟨Nat.le_of_ble_eq_true rfl, Nat.le_of_ble_eq_true rfl⟩) (va_recv hKM hPM (ci := 12) (q0 := 1) rfl (sm_gX12 μ β)) rfl rfl (Nat.le_of_ble_eq_true rfl) dL_law_452 ⟨(show cells ≤ 60000 by omega), (show slots ≤ 8922250 by omega)⟩ (fun r2 μ1 H locs hF hPM hPX hS => ?_)
      refine W.lcmp hx hb dL_law_455 ?_
      refine lv_if_eq (tgt := 583) hx hb dL_law_456 (by decide) (fun _ => ?_) (fun hne => absurd (lw_c0 hF.1) hne)
      exact next σ1 μ1 α β C S hF.2 H locs cells slots hC hSl hKX hKM hDX hDM hdis hPX hPM hS ls hl
    by_cases y11 : y = 11
    · refine lv_tableIn (tgt := 461) hx hb dL_law_33 (by rw [y11]; decide) (by rw [y11]; decide) (by rw [y11]; rfl) (by decide) ?_
      refine lv_aload_n hx hb dL_law_461 rfl (lv_at hl 1 rfl) ?_
      refine lv_aload_n hx hb dL_law_462 rfl (lv_at hl 0 rfl) ?_
      refine lv_iload_n hx hb dL_law_463 rfl (lv_at hl 3 rfl) ?_
      refine lv_iconst (v := 1) hx hb dL_law_464 (by decide) ?_
      refine lv_iadd hx hb dL_law_465 ?_
      refine va_sld hx hb hX hbl hbA hS hi1 dL_law_466 ?_
      refine lv_aload_n hx hb dL_law_467 rfl (lv_at hl 0 rfl) ?_
      refine lv_iload_n hx hb dL_law_468 rfl (lv_at hl 3 rfl) ?_
      refine lv_iconst (v := 2) hx hb dL_law_469 (by decide) ?_
      refine lv_iadd hx hb dL_law_470 ?_
      refine va_sld hx hb hX hbl hbA hS hi2 dL_law_471 ?_
      replace hF := hF.2.2.2.2.2.2.2.2.2.2.2.1 (xs (x3 + 1).toNatClampNeg) (xs (x3 + 2).toNatClampNeg)
      refine lx_vi (As := [.int (xs (x3 + 1).toNatClampNeg), .int (xs (x3 + 2).toNatClampNeg)]) (rest := []) hPX hPM (sm_wM_m μ β) hKX hDX hdis hE hS hA ⟨hx, hb, hml, hown, hts⟩ hl.1 (c_X10_same l D H.size t0 σ α (xs (x3 + 1).toNatClampNeg) (xs (x3 + 2).toNatClampNeg) _ hF) (cwV 2 hts gw_X10_same rfl rfl rfl (by decide +kernel) ⟨Nat.le_of_ble_eq_true rfl, Nat.le_of_ble_eq_true rfl⟩) (va_recv hKX hPX (ci := 10) (q0 := 10) rfl (sm_gX10 σ α)) rfl rfl (Nat.le_of_ble_eq_true rfl) dL_law_472 ⟨(show cells ≤ 60000 by omega), (show slots ≤ 8922250 by omega)⟩ (fun r σ1 H locs hF hPX hPM hS => ?_)
      refine lv_aload_n hx hb dL_law_475 rfl (lv_at hl 2 rfl) ?_
      refine lv_aload_n hx hb dL_law_476 rfl (lv_at hl 0 rfl) ?_
      refine lv_iload_n hx hb dL_law_477 rfl (lv_at hl 3 rfl) ?_
      refine lv_iconst (v := 1) hx hb dL_law_478 (by decide) ?_
      refine lv_iadd hx hb dL_law_479 ?_
      refine va_sld hx hb hX hbl hbA hS hi1 dL_law_480 ?_
      refine lv_aload_n hx hb dL_law_481 rfl (lv_at hl 0 rfl) ?_
      refine lv_iload_n hx hb dL_law_482 rfl (lv_at hl 3 rfl) ?_
      refine lv_iconst (v := 2) hx hb dL_law_483 (by decide) ?_
      refine lv_iadd hx hb dL_law_484 ?_
      refine va_sld hx hb hX hbl hbA hS hi2 dL_law_485 ?_
      refine lx_vi (As := [.int (xs (x3 + 1).toNatClampNeg), .int (xs (x3 + 2).toNatClampNeg)]) (rest := [.int r]) hPM hPX (sm_wX_m σ1 α) hKM hDM (fun i j hi hj h => hdis j i hj hi h.symm) hE hS hA ⟨hx, hb, hml, hown, hts⟩ hl.1 (c_X12_same l D H.size t0 μ β (xs (x3 + 1).toNatClampNeg) (xs (x3 + 2).toNatClampNeg) _ hF) (cwV 2 hts gw_X12_same rfl rfl rfl (by decide +kernel) ⟨Nat.le_of_ble_eq_true rfl, Nat.le_of_ble_eq_true rfl⟩) (va_recv hKM hPM (ci := 12) (q0 := 1) rfl (sm_gX12 μ β)) rfl rfl (Nat.le_of_ble_eq_true rfl) dL_law_486 ⟨(show cells ≤ 60000 by omega), (show slots ≤ 8922250 by omega)⟩ (fun r2 μ1 H locs hF hPM hPX hS => ?_)
      refine lv_icmp_eq (tgt := 583) hx hb dL_law_489 (by decide) (fun _ => ?_) (fun hne => absurd hF.1 hne)
      exact next σ1 μ1 α β C S hF.2 H locs cells slots hC hSl hKX hKM hDX hDM hdis hPX hPM hS ls hl
    by_cases y12 : y = 12
    · refine lv_tableIn (tgt := 494) hx hb dL_law_33 (by rw [y12]; decide) (by rw [y12]; decide) (by rw [y12]; rfl) (by decide) ?_
      refine lv_aload_n hx hb dL_law_494 rfl (lv_at hl 1 rfl) ?_
      refine lv_aload_n hx hb dL_law_495 rfl (lv_at hl 0 rfl) ?_
      refine lv_iload_n hx hb dL_law_496 rfl (lv_at hl 3 rfl) ?_
      refine lv_iconst (v := 1) hx hb dL_law_497 (by decide) ?_
      refine lv_iadd hx hb dL_law_498 ?_
      refine va_sld hx hb hX hbl hbA hS hi1 dL_law_499 ?_
      replace hF := hF.2.2.2.2.2.2.2.2.2.2.2.2.1 (xs (x3 + 1).toNatClampNeg)
      refine lx_vi (As := [.int (xs (x3 + 1).toNatClampNeg)]) (rest := []) hPX hPM (sm_wM_m μ β) hKX hDX hdis hE hS hA ⟨hx, hb, hml, hown, hts⟩ hl.1 (c_X10_told l D H.size t0 σ α (xs (x3 + 1).toNatClampNeg) _ hF) (cwV 1 hts gw_X10_told rfl rfl rfl (by decide +kernel) ⟨Nat.le_of_ble_eq_true rfl, Nat.le_of_ble_eq_true rfl⟩) (va_recv hKX hPX (ci := 10) (q0 := 10) rfl (sm_gX10 σ α)) rfl rfl (Nat.le_of_ble_eq_true rfl) dL_law_500 ⟨(show cells ≤ 60000 by omega), (show slots ≤ 8922250 by omega)⟩ (fun r σ1 H locs hF hPX hPM hS => ?_)
      refine lv_aload_n hx hb dL_law_503 rfl (lv_at hl 2 rfl) ?_
      refine lv_aload_n hx hb dL_law_504 rfl (lv_at hl 0 rfl) ?_
      refine lv_iload_n hx hb dL_law_505 rfl (lv_at hl 3 rfl) ?_
      refine lv_iconst (v := 1) hx hb dL_law_506 (by decide) ?_
      refine lv_iadd hx hb dL_law_507 ?_
      refine va_sld hx hb hX hbl hbA hS hi1 dL_law_508 ?_
      refine lx_vi (As := [.int (xs (x3 + 1).toNatClampNeg)]) (rest := [.int r]) hPM hPX (sm_wX_m σ1 α) hKM hDM (fun i j hi hj h => hdis j i hj hi h.symm) hE hS hA ⟨hx, hb, hml, hown, hts⟩ hl.1 (c_X12_told l D H.size t0 μ β (xs (x3 + 1).toNatClampNeg) _ hF) (cwV 1 hts gw_X12_told rfl rfl rfl (by decide +kernel) ⟨Nat.le_of_ble_eq_true rfl, Nat.le_of_ble_eq_true rfl⟩) (va_recv hKM hPM (ci := 12) (q0 := 1) rfl (sm_gX12 μ β)) rfl rfl (Nat.le_of_ble_eq_true rfl) dL_law_509 ⟨(show cells ≤ 60000 by omega), (show slots ≤ 8922250 by omega)⟩ (fun r2 μ1 H locs hF hPM hPX hS => ?_)
      refine lv_icmp_eq (tgt := 583) hx hb dL_law_512 (by decide) (fun _ => ?_) (fun hne => absurd hF.1 hne)
      exact next σ1 μ1 α β C S hF.2 H locs cells slots hC hSl hKX hKM hDX hDM hdis hPX hPM hS ls hl
    by_cases y13 : y = 13
    · refine lv_tableIn (tgt := 517) hx hb dL_law_33 (by rw [y13]; decide) (by rw [y13]; decide) (by rw [y13]; rfl) (by decide) ?_
      refine lv_aload_n hx hb dL_law_517 rfl (lv_at hl 1 rfl) ?_
      replace hF := hF.2.2.2.2.2.2.2.2.2.2.2.2.2.1
      refine lx_vi (As := []) (rest := []) hPX hPM (sm_wM_m μ β) hKX hDX hdis hE hS hA ⟨hx, hb, hml, hown, hts⟩ hl.1 (c_X10_steady l D H.size t0 σ α _ hF) (cwV 0 hts gw_X10_steady rfl rfl rfl (by decide +kernel) ⟨Nat.le_of_ble_eq_true rfl, Nat.le_of_ble_eq_true rfl⟩) (va_recv hKX hPX (ci := 10) (q0 := 10) rfl (sm_gX10 σ α)) rfl rfl (Nat.le_of_ble_eq_true rfl) dL_law_518 ⟨(show cells ≤ 60000 by omega), (show slots ≤ 8922250 by omega)⟩ (fun r σ1 H locs hF hPX hPM hS => ?_)
      refine lv_aload_n hx hb dL_law_521 rfl (lv_at hl 2 rfl) ?_
      refine lx_vi (As := []) (rest := [.int r]) hPM hPX (sm_wX_m σ1 α) hKM hDM (fun i j hi hj h => hdis j i hj hi h.symm) hE hS hA ⟨hx, hb, hml, hown, hts⟩ hl.1 (c_X12_steady l D H.size t0 μ β _ hF) (cwV 0 hts gw_X12_steady rfl rfl rfl (by decide +kernel) ⟨Nat.le_of_ble_eq_true rfl, Nat.le_of_ble_eq_true rfl⟩) (va_recv hKM hPM (ci := 12) (q0 := 1) rfl (sm_gX12 μ β)) rfl rfl (Nat.le_of_ble_eq_true rfl) dL_law_522 ⟨(show cells ≤ 60000 by omega), (show slots ≤ 8922250 by omega)⟩ (fun r2 μ1 H locs hF hPM hPX hS => ?_)
      refine lv_icmp_eq (tgt := 583) hx hb dL_law_525 (by decide) (fun _ => ?_) (fun hne => absurd hF.1 hne)
      exact next σ1 μ1 α β C S hF.2 H locs cells slots hC hSl hKX hKM hDX hDM hdis hPX hPM hS ls hl
    by_cases y14 : y = 14
    · refine lv_tableIn (tgt := 530) hx hb dL_law_33 (by rw [y14]; decide) (by rw [y14]; decide) (by rw [y14]; rfl) (by decide) ?_
      refine lv_aload_n hx hb dL_law_530 rfl (lv_at hl 1 rfl) ?_
      refine lv_aload_n hx hb dL_law_531 rfl (lv_at hl 0 rfl) ?_
      refine lv_iload_n hx hb dL_law_532 rfl (lv_at hl 3 rfl) ?_
      refine lv_iconst (v := 1) hx hb dL_law_533 (by decide) ?_
      refine lv_iadd hx hb dL_law_534 ?_
      refine va_sld hx hb hX hbl hbA hS hi1 dL_law_535 ?_
      refine lv_aload_n hx hb dL_law_536 rfl (lv_at hl 0 rfl) ?_
      refine lv_iload_n hx hb dL_law_537 rfl (lv_at hl 3 rfl) ?_
      refine lv_iconst (v := 2) hx hb dL_law_538 (by decide) ?_
      refine lv_iadd hx hb dL_law_539 ?_
      refine va_sld hx hb hX hbl hbA hS hi2 dL_law_540 ?_
      refine lv_aload_n hx hb dL_law_541 rfl (lv_at hl 0 rfl) ?_
      refine lv_iload_n hx hb dL_law_542 rfl (lv_at hl 3 rfl) ?_
      refine lv_iconst (v := 3) hx hb dL_law_543 (by decide) ?_
      refine lv_iadd hx hb dL_law_544 ?_
      refine va_sld hx hb hX hbl hbA hS hi3 dL_law_545 ?_
      refine lv_aload_n hx hb dL_law_546 rfl (lv_at hl 0 rfl) ?_
      refine lv_iload_n hx hb dL_law_547 rfl (lv_at hl 3 rfl) ?_
      refine lv_iconst (v := 4) hx hb dL_law_548 (by decide) ?_
      refine lv_iadd hx hb dL_law_549 ?_
      refine va_sld hx hb hX hbl hbA hS hi4 dL_law_550 ?_
      replace hF := hF.2.2.2.2.2.2.2.2.2.2.2.2.2.2.1 (xs (x3 + 1).toNatClampNeg) (xs (x3 + 2).toNatClampNeg) (xs (x3 + 3).toNatClampNeg) (xs (x3 + 4).toNatClampNeg)
      refine lx_vi (As := [.int (xs (x3 + 1).toNatClampNeg), .int (xs (x3 + 2).toNatClampNeg), .int (xs (x3 + 3).toNatClampNeg), .int (xs (x3 + 4).toNatClampNeg)]) (rest := []) hPX hPM (sm_wM_m μ β) hKX hDX hdis hE hS hA ⟨hx, hb, hml, hown, hts⟩ hl.1 (c_X10_stands l D H.size t0 σ α (xs (x3 + 1).toNatClampNeg) (xs (x3 + 2).toNatClampNeg) (xs (x3 + 3).toNatClampNeg) (xs (x3 + 4).toNatClampNeg) _ hF) (cwV 4 hts gw_X10_stands rfl rfl rfl (by decide +kernel) ⟨Nat.le_of_ble_eq_true rfl, Nat.le_of_ble_eq_true rfl⟩) (va_recv hKX hPX (ci := 10) (q0 := 10) rfl (sm_gX10 σ α)) rfl rfl (Nat.le_of_ble_eq_true rfl) dL_law_551 ⟨(show cells ≤ 60000 by omega), (show slots ≤ 8922250 by omega)⟩ (fun r σ1 H locs hF hPX hPM hS => ?_)
      refine lv_aload_n hx hb dL_law_554 rfl (lv_at hl 2 rfl) ?_
      refine lv_aload_n hx hb dL_law_555 rfl (lv_at hl 0 rfl) ?_
      refine lv_iload_n hx hb dL_law_556 rfl (lv_at hl 3 rfl) ?_
      refine lv_iconst (v := 1) hx hb dL_law_557 (by decide) ?_
      refine lv_iadd hx hb dL_law_558 ?_
      refine va_sld hx hb hX hbl hbA hS hi1 dL_law_559 ?_
      refine lv_aload_n hx hb dL_law_560 rfl (lv_at hl 0 rfl) ?_
      refine lv_iload_n hx hb dL_law_561 rfl (lv_at hl 3 rfl) ?_
      refine lv_iconst (v := 2) hx hb dL_law_562 (by decide) ?_
      refine lv_iadd hx hb dL_law_563 ?_
      refine va_sld hx hb hX hbl hbA hS hi2 dL_law_564 ?_
      refine lv_aload_n hx hb dL_law_565 rfl (lv_at hl 0 rfl) ?_
      refine lv_iload_n hx hb dL_law_566 rfl (lv_at hl 3 rfl) ?_
      refine lv_iconst (v := 3) hx hb dL_law_567 (by decide) ?_
      refine lv_iadd hx hb dL_law_568 ?_
      refine va_sld hx hb hX hbl hbA hS hi3 dL_law_569 ?_
      refine lv_aload_n hx hb dL_law_570 rfl (lv_at hl 0 rfl) ?_
      refine lv_iload_n hx hb dL_law_571 rfl (lv_at hl 3 rfl) ?_
      refine lv_iconst (v := 4) hx hb dL_law_572 (by decide) ?_
      refine lv_iadd hx hb dL_law_573 ?_
      refine va_sld hx hb hX hbl hbA hS hi4 dL_law_574 ?_
      refine lx_vi (As := [.int (xs (x3 + 1).toNatClampNeg), .int (xs (x3 + 2).toNatClampNeg), .int (xs (x3 + 3).toNatClampNeg), .int (xs (x3 + 4).toNatClampNeg)]) (rest := [.int r]) hPM hPX (sm_wX_m σ1 α) hKM hDM (fun i j hi hj h => hdis j i hj hi h.symm) hE hS hA ⟨hx, hb, hml, hown, hts⟩ hl.1 (c_X12_stands l D H.size t0 μ β (xs (x3 + 1).toNatClampNeg) (xs (x3 + 2).toNatClampNeg) (xs (x3 + 3).toNatClampNeg) (xs (x3 + 4).toNatClampNeg) _ hF) (cwV 4 hts gw_X12_stands rfl rfl rfl (by decide +kernel) ⟨Nat.le_of_ble_eq_true rfl, Nat.le_of_ble_eq_true rfl⟩) (va_recv hKM hPM (ci := 12) (q0 := 1) rfl (sm_gX12 μ β)) rfl rfl (Nat.le_of_ble_eq_true rfl) dL_law_575 ⟨(show cells ≤ 60000 by omega), (show slots ≤ 8922250 by omega)⟩ (fun r2 μ1 H locs hF hPM hPX hS => ?_)
      refine lv_icmp_eq (tgt := 583) hx hb dL_law_578 (by decide) (fun _ => ?_) (fun hne => absurd hF.1 hne)
      exact next σ1 μ1 α β C S hF.2 H locs cells slots hC hSl hKX hKM hDX hDM hdis hPX hPM hS ls hl
    refine lv_tableOut (tgt := 583) hx hb dL_law_33 (by have q0 := lv_neT y0 (show Int32.toInt 0 = 0 by decide); have q1 := lv_neT y1 (show Int32.toInt 1 = 1 by decide); have q2 := lv_neT y2 (show Int32.toInt 2 = 2 by decide); have q3 := lv_neT y3 (show Int32.toInt 3 = 3 by decide); have q4 := lv_neT y4 (show Int32.toInt 4 = 4 by decide); have q5 := lv_neT y5 (show Int32.toInt 5 = 5 by decide); have q6 := lv_neT y6 (show Int32.toInt 6 = 6 by decide); have q7 := lv_neT y7 (show Int32.toInt 7 = 7 by decide); have q8 := lv_neT y8 (show Int32.toInt 8 = 8 by decide); have q9 := lv_neT y9 (show Int32.toInt 9 = 9 by decide); have q10 := lv_neT y10 (show Int32.toInt 10 = 10 by decide); have q11 := lv_neT y11 (show Int32.toInt 11 = 11 by decide); have q12 := lv_neT y12 (show Int32.toInt 12 = 12 by decide); have q13 := lv_neT y13 (show Int32.toInt 13 = 13 by decide); have q14 := lv_neT y14 (show Int32.toInt 14 = 14 by decide); omega) (by decide) ?_
    exact next σ μ α β C S hF.2.2.2.2.2.2.2.2.2.2.2.2.2.2.2 H locs cells slots hC hSl hKX hKM hDX hDM hdis hPX hPM hS ls hl
