/-! the law: one turn, and the loop -/
abbrev cL_law : ByteArray := code
abbrev yL_law : MethodName := ⟨"RationalFormsLaw", "law", "([I)Z"⟩
abbrev wsL_law : List Cond := .code yL_law cL_law 8 (some .boolean) :: GG
theorem dL_law_0 : decode cL_law 0 = .ok (.new 8, 3) := by decide +kernel
theorem dL_law_3 : decode cL_law 3 = .ok (.dup, 1) := by decide +kernel
theorem dL_law_4 : decode cL_law 4 = .ok (.invokespecial 52, 3) := by decide +kernel
theorem dL_law_7 : decode cL_law 7 = .ok (.astore_n 1, 1) := by decide +kernel
theorem dL_law_8 : decode cL_law 8 = .ok (.new 53, 3) := by decide +kernel
theorem dL_law_11 : decode cL_law 11 = .ok (.dup, 1) := by decide +kernel
theorem dL_law_12 : decode cL_law 12 = .ok (.invokespecial 55, 3) := by decide +kernel
theorem dL_law_15 : decode cL_law 15 = .ok (.astore_n 2, 1) := by decide +kernel
theorem dL_law_16 : decode cL_law 16 = .ok (.iconst 1, 1) := by decide +kernel
theorem dL_law_17 : decode cL_law 17 = .ok (.newarray .long, 2) := by decide +kernel
theorem dL_law_19 : decode cL_law 19 = .ok (.astore_n 3, 1) := by decide +kernel
theorem dL_law_20 : decode cL_law 20 = .ok (.iconst 0, 1) := by decide +kernel
theorem dL_law_21 : decode cL_law 21 = .ok (.istore 4, 2) := by decide +kernel
theorem dL_law_23 : decode cL_law 23 = .ok (.iload 4, 2) := by decide +kernel
theorem dL_law_25 : decode cL_law 25 = .ok (.aload_n 0, 1) := by decide +kernel
theorem dL_law_26 : decode cL_law 26 = .ok (.arraylength, 1) := by decide +kernel
theorem dL_law_27 : decode cL_law 27 = .ok (.bipush 6, 2) := by decide +kernel
theorem dL_law_29 : decode cL_law 29 = .ok (.isub, 1) := by decide +kernel
theorem dL_law_30 : decode cL_law 30 = .ok (.if_icmp .gt 822, 3) := by decide +kernel
theorem dL_law_33 : decode cL_law 33 = .ok (.aload_n 0, 1) := by decide +kernel
theorem dL_law_34 : decode cL_law 34 = .ok (.iload 4, 2) := by decide +kernel
theorem dL_law_36 : decode cL_law 36 = .ok (.iaload, 1) := by decide +kernel
theorem dL_law_37 : decode cL_law 37 = .ok (.bipush 15, 2) := by decide +kernel
theorem dL_law_39 : decode cL_law 39 = .ok (.iand, 1) := by decide +kernel
theorem dL_law_40 : decode cL_law 40 = .ok (.tableswitch 806 0 10 #[60, 108, 200, 268, 348, 416, 491, 547, 622, 635, 738], 60) := by decide +kernel
theorem dL_law_100 : decode cL_law 100 = .ok (.aload_n 1, 1) := by decide +kernel
theorem dL_law_101 : decode cL_law 101 = .ok (.aload_n 0, 1) := by decide +kernel
theorem dL_law_102 : decode cL_law 102 = .ok (.iload 4, 2) := by decide +kernel
theorem dL_law_104 : decode cL_law 104 = .ok (.iconst 1, 1) := by decide +kernel
theorem dL_law_105 : decode cL_law 105 = .ok (.iadd, 1) := by decide +kernel
theorem dL_law_106 : decode cL_law 106 = .ok (.iaload, 1) := by decide +kernel
theorem dL_law_107 : decode cL_law 107 = .ok (.aload_n 0, 1) := by decide +kernel
theorem dL_law_108 : decode cL_law 108 = .ok (.iload 4, 2) := by decide +kernel
theorem dL_law_110 : decode cL_law 110 = .ok (.iconst 2, 1) := by decide +kernel
theorem dL_law_111 : decode cL_law 111 = .ok (.iadd, 1) := by decide +kernel
theorem dL_law_112 : decode cL_law 112 = .ok (.iaload, 1) := by decide +kernel
theorem dL_law_113 : decode cL_law 113 = .ok (.invokestatic 56, 3) := by decide +kernel
theorem dL_law_116 : decode cL_law 116 = .ok (.istore 5, 2) := by decide +kernel
theorem dL_law_118 : decode cL_law 118 = .ok (.aload_n 2, 1) := by decide +kernel
theorem dL_law_119 : decode cL_law 119 = .ok (.aload_n 0, 1) := by decide +kernel
theorem dL_law_120 : decode cL_law 120 = .ok (.iload 4, 2) := by decide +kernel
theorem dL_law_122 : decode cL_law 122 = .ok (.iconst 1, 1) := by decide +kernel
theorem dL_law_123 : decode cL_law 123 = .ok (.iadd, 1) := by decide +kernel
theorem dL_law_124 : decode cL_law 124 = .ok (.iaload, 1) := by decide +kernel
theorem dL_law_125 : decode cL_law 125 = .ok (.aload_n 0, 1) := by decide +kernel
theorem dL_law_126 : decode cL_law 126 = .ok (.iload 4, 2) := by decide +kernel
theorem dL_law_128 : decode cL_law 128 = .ok (.iconst 2, 1) := by decide +kernel
theorem dL_law_129 : decode cL_law 129 = .ok (.iadd, 1) := by decide +kernel
theorem dL_law_130 : decode cL_law 130 = .ok (.iaload, 1) := by decide +kernel
theorem dL_law_131 : decode cL_law 131 = .ok (.invokevirtual 61, 3) := by decide +kernel
theorem dL_law_134 : decode cL_law 134 = .ok (.aload_n 2, 1) := by decide +kernel
theorem dL_law_135 : decode cL_law 135 = .ok (.invokevirtual 62, 3) := by decide +kernel
theorem dL_law_138 : decode cL_law 138 = .ok (.iload 5, 2) := by decide +kernel
theorem dL_law_140 : decode cL_law 140 = .ok (.if_icmp .eq 5, 3) := by decide +kernel
theorem dL_law_143 : decode cL_law 143 = .ok (.iconst 0, 1) := by decide +kernel
theorem dL_law_144 : decode cL_law 144 = .ok (.ireturn, 1) := by decide +kernel
theorem dL_law_145 : decode cL_law 145 = .ok (.goto 701, 3) := by decide +kernel
theorem dL_law_148 : decode cL_law 148 = .ok (.aload_n 1, 1) := by decide +kernel
theorem dL_law_149 : decode cL_law 149 = .ok (.aload_n 0, 1) := by decide +kernel
theorem dL_law_150 : decode cL_law 150 = .ok (.iload 4, 2) := by decide +kernel
theorem dL_law_152 : decode cL_law 152 = .ok (.iconst 1, 1) := by decide +kernel
theorem dL_law_153 : decode cL_law 153 = .ok (.iadd, 1) := by decide +kernel
theorem dL_law_154 : decode cL_law 154 = .ok (.iaload, 1) := by decide +kernel
theorem dL_law_155 : decode cL_law 155 = .ok (.aload_n 0, 1) := by decide +kernel
theorem dL_law_156 : decode cL_law 156 = .ok (.iload 4, 2) := by decide +kernel
theorem dL_law_158 : decode cL_law 158 = .ok (.iconst 2, 1) := by decide +kernel
theorem dL_law_159 : decode cL_law 159 = .ok (.iadd, 1) := by decide +kernel
theorem dL_law_160 : decode cL_law 160 = .ok (.iaload, 1) := by decide +kernel
theorem dL_law_161 : decode cL_law 161 = .ok (.aload_n 0, 1) := by decide +kernel
theorem dL_law_162 : decode cL_law 162 = .ok (.iload 4, 2) := by decide +kernel
theorem dL_law_164 : decode cL_law 164 = .ok (.iconst 3, 1) := by decide +kernel
theorem dL_law_165 : decode cL_law 165 = .ok (.iadd, 1) := by decide +kernel
theorem dL_law_166 : decode cL_law 166 = .ok (.iaload, 1) := by decide +kernel
theorem dL_law_167 : decode cL_law 167 = .ok (.aload_n 0, 1) := by decide +kernel
theorem dL_law_168 : decode cL_law 168 = .ok (.iload 4, 2) := by decide +kernel
theorem dL_law_170 : decode cL_law 170 = .ok (.iconst 4, 1) := by decide +kernel
theorem dL_law_171 : decode cL_law 171 = .ok (.iadd, 1) := by decide +kernel
theorem dL_law_172 : decode cL_law 172 = .ok (.iaload, 1) := by decide +kernel
theorem dL_law_173 : decode cL_law 173 = .ok (.aload_n 3, 1) := by decide +kernel
theorem dL_law_174 : decode cL_law 174 = .ok (.invokestatic 66, 3) := by decide +kernel
theorem dL_law_177 : decode cL_law 177 = .ok (.istore 5, 2) := by decide +kernel
theorem dL_law_179 : decode cL_law 179 = .ok (.aload_n 2, 1) := by decide +kernel
theorem dL_law_180 : decode cL_law 180 = .ok (.aload_n 0, 1) := by decide +kernel
theorem dL_law_181 : decode cL_law 181 = .ok (.iload 4, 2) := by decide +kernel
theorem dL_law_183 : decode cL_law 183 = .ok (.iconst 1, 1) := by decide +kernel
theorem dL_law_184 : decode cL_law 184 = .ok (.iadd, 1) := by decide +kernel
theorem dL_law_185 : decode cL_law 185 = .ok (.iaload, 1) := by decide +kernel
theorem dL_law_186 : decode cL_law 186 = .ok (.aload_n 0, 1) := by decide +kernel
theorem dL_law_187 : decode cL_law 187 = .ok (.iload 4, 2) := by decide +kernel
theorem dL_law_189 : decode cL_law 189 = .ok (.iconst 2, 1) := by decide +kernel
theorem dL_law_190 : decode cL_law 190 = .ok (.iadd, 1) := by decide +kernel
theorem dL_law_191 : decode cL_law 191 = .ok (.iaload, 1) := by decide +kernel
theorem dL_law_192 : decode cL_law 192 = .ok (.aload_n 0, 1) := by decide +kernel
theorem dL_law_193 : decode cL_law 193 = .ok (.iload 4, 2) := by decide +kernel
theorem dL_law_195 : decode cL_law 195 = .ok (.iconst 3, 1) := by decide +kernel
theorem dL_law_196 : decode cL_law 196 = .ok (.iadd, 1) := by decide +kernel
theorem dL_law_197 : decode cL_law 197 = .ok (.iaload, 1) := by decide +kernel
theorem dL_law_198 : decode cL_law 198 = .ok (.aload_n 0, 1) := by decide +kernel
theorem dL_law_199 : decode cL_law 199 = .ok (.iload 4, 2) := by decide +kernel
theorem dL_law_201 : decode cL_law 201 = .ok (.iconst 4, 1) := by decide +kernel
theorem dL_law_202 : decode cL_law 202 = .ok (.iadd, 1) := by decide +kernel
theorem dL_law_203 : decode cL_law 203 = .ok (.iaload, 1) := by decide +kernel
theorem dL_law_204 : decode cL_law 204 = .ok (.invokevirtual 69, 3) := by decide +kernel
theorem dL_law_207 : decode cL_law 207 = .ok (.istore 6, 2) := by decide +kernel
theorem dL_law_209 : decode cL_law 209 = .ok (.aload_n 2, 1) := by decide +kernel
theorem dL_law_210 : decode cL_law 210 = .ok (.invokevirtual 62, 3) := by decide +kernel
theorem dL_law_213 : decode cL_law 213 = .ok (.iload 5, 2) := by decide +kernel
theorem dL_law_215 : decode cL_law 215 = .ok (.if_icmp .eq 5, 3) := by decide +kernel
theorem dL_law_218 : decode cL_law 218 = .ok (.iconst 0, 1) := by decide +kernel
theorem dL_law_219 : decode cL_law 219 = .ok (.ireturn, 1) := by decide +kernel
theorem dL_law_220 : decode cL_law 220 = .ok (.iload 5, 2) := by decide +kernel
theorem dL_law_222 : decode cL_law 222 = .ok (.ifCond .ne 15, 3) := by decide +kernel
theorem dL_law_225 : decode cL_law 225 = .ok (.aload_n 3, 1) := by decide +kernel
theorem dL_law_226 : decode cL_law 226 = .ok (.iconst 0, 1) := by decide +kernel
theorem dL_law_227 : decode cL_law 227 = .ok (.laload, 1) := by decide +kernel
theorem dL_law_228 : decode cL_law 228 = .ok (.iload 6, 2) := by decide +kernel
theorem dL_law_230 : decode cL_law 230 = .ok (.i2l, 1) := by decide +kernel
theorem dL_law_231 : decode cL_law 231 = .ok (.lcmp, 1) := by decide +kernel
theorem dL_law_232 : decode cL_law 232 = .ok (.ifCond .eq 5, 3) := by decide +kernel
theorem dL_law_235 : decode cL_law 235 = .ok (.iconst 0, 1) := by decide +kernel
theorem dL_law_236 : decode cL_law 236 = .ok (.ireturn, 1) := by decide +kernel
theorem dL_law_237 : decode cL_law 237 = .ok (.goto 609, 3) := by decide +kernel
theorem dL_law_240 : decode cL_law 240 = .ok (.aload_n 1, 1) := by decide +kernel
theorem dL_law_241 : decode cL_law 241 = .ok (.aload_n 0, 1) := by decide +kernel
theorem dL_law_242 : decode cL_law 242 = .ok (.iload 4, 2) := by decide +kernel
theorem dL_law_244 : decode cL_law 244 = .ok (.iconst 1, 1) := by decide +kernel
theorem dL_law_245 : decode cL_law 245 = .ok (.iadd, 1) := by decide +kernel
theorem dL_law_246 : decode cL_law 246 = .ok (.iaload, 1) := by decide +kernel
theorem dL_law_247 : decode cL_law 247 = .ok (.aload_n 0, 1) := by decide +kernel
theorem dL_law_248 : decode cL_law 248 = .ok (.iload 4, 2) := by decide +kernel
theorem dL_law_250 : decode cL_law 250 = .ok (.iconst 2, 1) := by decide +kernel
theorem dL_law_251 : decode cL_law 251 = .ok (.iadd, 1) := by decide +kernel
theorem dL_law_252 : decode cL_law 252 = .ok (.iaload, 1) := by decide +kernel
theorem dL_law_253 : decode cL_law 253 = .ok (.aload_n 3, 1) := by decide +kernel
theorem dL_law_254 : decode cL_law 254 = .ok (.invokestatic 70, 3) := by decide +kernel
theorem dL_law_257 : decode cL_law 257 = .ok (.istore 5, 2) := by decide +kernel
theorem dL_law_259 : decode cL_law 259 = .ok (.aload_n 2, 1) := by decide +kernel
theorem dL_law_260 : decode cL_law 260 = .ok (.aload_n 0, 1) := by decide +kernel
theorem dL_law_261 : decode cL_law 261 = .ok (.iload 4, 2) := by decide +kernel
theorem dL_law_263 : decode cL_law 263 = .ok (.iconst 1, 1) := by decide +kernel
theorem dL_law_264 : decode cL_law 264 = .ok (.iadd, 1) := by decide +kernel
theorem dL_law_265 : decode cL_law 265 = .ok (.iaload, 1) := by decide +kernel
theorem dL_law_266 : decode cL_law 266 = .ok (.aload_n 0, 1) := by decide +kernel
theorem dL_law_267 : decode cL_law 267 = .ok (.iload 4, 2) := by decide +kernel
theorem dL_law_269 : decode cL_law 269 = .ok (.iconst 2, 1) := by decide +kernel
theorem dL_law_270 : decode cL_law 270 = .ok (.iadd, 1) := by decide +kernel
theorem dL_law_271 : decode cL_law 271 = .ok (.iaload, 1) := by decide +kernel
theorem dL_law_272 : decode cL_law 272 = .ok (.invokevirtual 73, 3) := by decide +kernel
theorem dL_law_275 : decode cL_law 275 = .ok (.istore 6, 2) := by decide +kernel
theorem dL_law_277 : decode cL_law 277 = .ok (.aload_n 2, 1) := by decide +kernel
theorem dL_law_278 : decode cL_law 278 = .ok (.invokevirtual 62, 3) := by decide +kernel
theorem dL_law_281 : decode cL_law 281 = .ok (.iload 5, 2) := by decide +kernel
theorem dL_law_283 : decode cL_law 283 = .ok (.if_icmp .eq 5, 3) := by decide +kernel
theorem dL_law_286 : decode cL_law 286 = .ok (.iconst 0, 1) := by decide +kernel
theorem dL_law_287 : decode cL_law 287 = .ok (.ireturn, 1) := by decide +kernel
theorem dL_law_288 : decode cL_law 288 = .ok (.iload 5, 2) := by decide +kernel
theorem dL_law_290 : decode cL_law 290 = .ok (.ifCond .ne 15, 3) := by decide +kernel
theorem dL_law_293 : decode cL_law 293 = .ok (.aload_n 3, 1) := by decide +kernel
theorem dL_law_294 : decode cL_law 294 = .ok (.iconst 0, 1) := by decide +kernel
theorem dL_law_295 : decode cL_law 295 = .ok (.laload, 1) := by decide +kernel
theorem dL_law_296 : decode cL_law 296 = .ok (.iload 6, 2) := by decide +kernel
theorem dL_law_298 : decode cL_law 298 = .ok (.i2l, 1) := by decide +kernel
theorem dL_law_299 : decode cL_law 299 = .ok (.lcmp, 1) := by decide +kernel
theorem dL_law_300 : decode cL_law 300 = .ok (.ifCond .eq 5, 3) := by decide +kernel
theorem dL_law_303 : decode cL_law 303 = .ok (.iconst 0, 1) := by decide +kernel
theorem dL_law_304 : decode cL_law 304 = .ok (.ireturn, 1) := by decide +kernel
theorem dL_law_305 : decode cL_law 305 = .ok (.goto 541, 3) := by decide +kernel
theorem dL_law_308 : decode cL_law 308 = .ok (.aload_n 1, 1) := by decide +kernel
theorem dL_law_309 : decode cL_law 309 = .ok (.aload_n 0, 1) := by decide +kernel
theorem dL_law_310 : decode cL_law 310 = .ok (.iload 4, 2) := by decide +kernel
theorem dL_law_312 : decode cL_law 312 = .ok (.iconst 1, 1) := by decide +kernel
theorem dL_law_313 : decode cL_law 313 = .ok (.iadd, 1) := by decide +kernel
theorem dL_law_314 : decode cL_law 314 = .ok (.iaload, 1) := by decide +kernel
theorem dL_law_315 : decode cL_law 315 = .ok (.aload_n 0, 1) := by decide +kernel
theorem dL_law_316 : decode cL_law 316 = .ok (.iload 4, 2) := by decide +kernel
theorem dL_law_318 : decode cL_law 318 = .ok (.iconst 2, 1) := by decide +kernel
theorem dL_law_319 : decode cL_law 319 = .ok (.iadd, 1) := by decide +kernel
theorem dL_law_320 : decode cL_law 320 = .ok (.iaload, 1) := by decide +kernel
theorem dL_law_321 : decode cL_law 321 = .ok (.aload_n 0, 1) := by decide +kernel
theorem dL_law_322 : decode cL_law 322 = .ok (.iload 4, 2) := by decide +kernel
theorem dL_law_324 : decode cL_law 324 = .ok (.iconst 3, 1) := by decide +kernel
theorem dL_law_325 : decode cL_law 325 = .ok (.iadd, 1) := by decide +kernel
theorem dL_law_326 : decode cL_law 326 = .ok (.iaload, 1) := by decide +kernel
theorem dL_law_327 : decode cL_law 327 = .ok (.aload_n 3, 1) := by decide +kernel
theorem dL_law_328 : decode cL_law 328 = .ok (.invokestatic 74, 3) := by decide +kernel
theorem dL_law_331 : decode cL_law 331 = .ok (.istore 5, 2) := by decide +kernel
theorem dL_law_333 : decode cL_law 333 = .ok (.aload_n 2, 1) := by decide +kernel
theorem dL_law_334 : decode cL_law 334 = .ok (.aload_n 0, 1) := by decide +kernel
theorem dL_law_335 : decode cL_law 335 = .ok (.iload 4, 2) := by decide +kernel
theorem dL_law_337 : decode cL_law 337 = .ok (.iconst 1, 1) := by decide +kernel
theorem dL_law_338 : decode cL_law 338 = .ok (.iadd, 1) := by decide +kernel
theorem dL_law_339 : decode cL_law 339 = .ok (.iaload, 1) := by decide +kernel
theorem dL_law_340 : decode cL_law 340 = .ok (.aload_n 0, 1) := by decide +kernel
theorem dL_law_341 : decode cL_law 341 = .ok (.iload 4, 2) := by decide +kernel
theorem dL_law_343 : decode cL_law 343 = .ok (.iconst 2, 1) := by decide +kernel
theorem dL_law_344 : decode cL_law 344 = .ok (.iadd, 1) := by decide +kernel
theorem dL_law_345 : decode cL_law 345 = .ok (.iaload, 1) := by decide +kernel
theorem dL_law_346 : decode cL_law 346 = .ok (.aload_n 0, 1) := by decide +kernel
theorem dL_law_347 : decode cL_law 347 = .ok (.iload 4, 2) := by decide +kernel
theorem dL_law_349 : decode cL_law 349 = .ok (.iconst 3, 1) := by decide +kernel
theorem dL_law_350 : decode cL_law 350 = .ok (.iadd, 1) := by decide +kernel
theorem dL_law_351 : decode cL_law 351 = .ok (.iaload, 1) := by decide +kernel
theorem dL_law_352 : decode cL_law 352 = .ok (.invokevirtual 77, 3) := by decide +kernel
theorem dL_law_355 : decode cL_law 355 = .ok (.istore 6, 2) := by decide +kernel
theorem dL_law_357 : decode cL_law 357 = .ok (.aload_n 2, 1) := by decide +kernel
theorem dL_law_358 : decode cL_law 358 = .ok (.invokevirtual 62, 3) := by decide +kernel
theorem dL_law_361 : decode cL_law 361 = .ok (.iload 5, 2) := by decide +kernel
theorem dL_law_363 : decode cL_law 363 = .ok (.if_icmp .eq 5, 3) := by decide +kernel
theorem dL_law_366 : decode cL_law 366 = .ok (.iconst 0, 1) := by decide +kernel
theorem dL_law_367 : decode cL_law 367 = .ok (.ireturn, 1) := by decide +kernel
theorem dL_law_368 : decode cL_law 368 = .ok (.iload 5, 2) := by decide +kernel
theorem dL_law_370 : decode cL_law 370 = .ok (.ifCond .ne 15, 3) := by decide +kernel
theorem dL_law_373 : decode cL_law 373 = .ok (.aload_n 3, 1) := by decide +kernel
theorem dL_law_374 : decode cL_law 374 = .ok (.iconst 0, 1) := by decide +kernel
theorem dL_law_375 : decode cL_law 375 = .ok (.laload, 1) := by decide +kernel
theorem dL_law_376 : decode cL_law 376 = .ok (.iload 6, 2) := by decide +kernel
theorem dL_law_378 : decode cL_law 378 = .ok (.i2l, 1) := by decide +kernel
theorem dL_law_379 : decode cL_law 379 = .ok (.lcmp, 1) := by decide +kernel
theorem dL_law_380 : decode cL_law 380 = .ok (.ifCond .eq 5, 3) := by decide +kernel
theorem dL_law_383 : decode cL_law 383 = .ok (.iconst 0, 1) := by decide +kernel
theorem dL_law_384 : decode cL_law 384 = .ok (.ireturn, 1) := by decide +kernel
theorem dL_law_385 : decode cL_law 385 = .ok (.goto 461, 3) := by decide +kernel
theorem dL_law_388 : decode cL_law 388 = .ok (.aload_n 1, 1) := by decide +kernel
theorem dL_law_389 : decode cL_law 389 = .ok (.aload_n 0, 1) := by decide +kernel
theorem dL_law_390 : decode cL_law 390 = .ok (.iload 4, 2) := by decide +kernel
theorem dL_law_392 : decode cL_law 392 = .ok (.iconst 1, 1) := by decide +kernel
theorem dL_law_393 : decode cL_law 393 = .ok (.iadd, 1) := by decide +kernel
theorem dL_law_394 : decode cL_law 394 = .ok (.iaload, 1) := by decide +kernel
theorem dL_law_395 : decode cL_law 395 = .ok (.aload_n 0, 1) := by decide +kernel
theorem dL_law_396 : decode cL_law 396 = .ok (.iload 4, 2) := by decide +kernel
theorem dL_law_398 : decode cL_law 398 = .ok (.iconst 2, 1) := by decide +kernel
theorem dL_law_399 : decode cL_law 399 = .ok (.iadd, 1) := by decide +kernel
theorem dL_law_400 : decode cL_law 400 = .ok (.iaload, 1) := by decide +kernel
theorem dL_law_401 : decode cL_law 401 = .ok (.aload_n 3, 1) := by decide +kernel
theorem dL_law_402 : decode cL_law 402 = .ok (.invokestatic 78, 3) := by decide +kernel
theorem dL_law_405 : decode cL_law 405 = .ok (.istore 5, 2) := by decide +kernel
theorem dL_law_407 : decode cL_law 407 = .ok (.aload_n 2, 1) := by decide +kernel
theorem dL_law_408 : decode cL_law 408 = .ok (.aload_n 0, 1) := by decide +kernel
theorem dL_law_409 : decode cL_law 409 = .ok (.iload 4, 2) := by decide +kernel
theorem dL_law_411 : decode cL_law 411 = .ok (.iconst 1, 1) := by decide +kernel
theorem dL_law_412 : decode cL_law 412 = .ok (.iadd, 1) := by decide +kernel
theorem dL_law_413 : decode cL_law 413 = .ok (.iaload, 1) := by decide +kernel
theorem dL_law_414 : decode cL_law 414 = .ok (.aload_n 0, 1) := by decide +kernel
theorem dL_law_415 : decode cL_law 415 = .ok (.iload 4, 2) := by decide +kernel
theorem dL_law_417 : decode cL_law 417 = .ok (.iconst 2, 1) := by decide +kernel
theorem dL_law_418 : decode cL_law 418 = .ok (.iadd, 1) := by decide +kernel
theorem dL_law_419 : decode cL_law 419 = .ok (.iaload, 1) := by decide +kernel
theorem dL_law_420 : decode cL_law 420 = .ok (.invokevirtual 80, 3) := by decide +kernel
theorem dL_law_423 : decode cL_law 423 = .ok (.istore 6, 2) := by decide +kernel
theorem dL_law_425 : decode cL_law 425 = .ok (.aload_n 2, 1) := by decide +kernel
theorem dL_law_426 : decode cL_law 426 = .ok (.invokevirtual 62, 3) := by decide +kernel
theorem dL_law_429 : decode cL_law 429 = .ok (.iload 5, 2) := by decide +kernel
theorem dL_law_431 : decode cL_law 431 = .ok (.if_icmp .eq 5, 3) := by decide +kernel
theorem dL_law_434 : decode cL_law 434 = .ok (.iconst 0, 1) := by decide +kernel
theorem dL_law_435 : decode cL_law 435 = .ok (.ireturn, 1) := by decide +kernel
theorem dL_law_436 : decode cL_law 436 = .ok (.iload 5, 2) := by decide +kernel
theorem dL_law_438 : decode cL_law 438 = .ok (.ifCond .ne 15, 3) := by decide +kernel
theorem dL_law_441 : decode cL_law 441 = .ok (.aload_n 3, 1) := by decide +kernel
theorem dL_law_442 : decode cL_law 442 = .ok (.iconst 0, 1) := by decide +kernel
theorem dL_law_443 : decode cL_law 443 = .ok (.laload, 1) := by decide +kernel
theorem dL_law_444 : decode cL_law 444 = .ok (.iload 6, 2) := by decide +kernel
theorem dL_law_446 : decode cL_law 446 = .ok (.i2l, 1) := by decide +kernel
theorem dL_law_447 : decode cL_law 447 = .ok (.lcmp, 1) := by decide +kernel
theorem dL_law_448 : decode cL_law 448 = .ok (.ifCond .eq 5, 3) := by decide +kernel
theorem dL_law_451 : decode cL_law 451 = .ok (.iconst 0, 1) := by decide +kernel
theorem dL_law_452 : decode cL_law 452 = .ok (.ireturn, 1) := by decide +kernel
theorem dL_law_453 : decode cL_law 453 = .ok (.goto 393, 3) := by decide +kernel
theorem dL_law_456 : decode cL_law 456 = .ok (.aload_n 1, 1) := by decide +kernel
theorem dL_law_457 : decode cL_law 457 = .ok (.aload_n 0, 1) := by decide +kernel
theorem dL_law_458 : decode cL_law 458 = .ok (.iload 4, 2) := by decide +kernel
theorem dL_law_460 : decode cL_law 460 = .ok (.iconst 1, 1) := by decide +kernel
theorem dL_law_461 : decode cL_law 461 = .ok (.iadd, 1) := by decide +kernel
theorem dL_law_462 : decode cL_law 462 = .ok (.iaload, 1) := by decide +kernel
theorem dL_law_463 : decode cL_law 463 = .ok (.aload_n 0, 1) := by decide +kernel
theorem dL_law_464 : decode cL_law 464 = .ok (.iload 4, 2) := by decide +kernel
theorem dL_law_466 : decode cL_law 466 = .ok (.iconst 2, 1) := by decide +kernel
theorem dL_law_467 : decode cL_law 467 = .ok (.iadd, 1) := by decide +kernel
theorem dL_law_468 : decode cL_law 468 = .ok (.iaload, 1) := by decide +kernel
theorem dL_law_469 : decode cL_law 469 = .ok (.aload_n 3, 1) := by decide +kernel
theorem dL_law_470 : decode cL_law 470 = .ok (.invokestatic 81, 3) := by decide +kernel
theorem dL_law_473 : decode cL_law 473 = .ok (.istore 5, 2) := by decide +kernel
theorem dL_law_475 : decode cL_law 475 = .ok (.aload_n 2, 1) := by decide +kernel
theorem dL_law_476 : decode cL_law 476 = .ok (.aload_n 0, 1) := by decide +kernel
theorem dL_law_477 : decode cL_law 477 = .ok (.iload 4, 2) := by decide +kernel
theorem dL_law_479 : decode cL_law 479 = .ok (.iconst 1, 1) := by decide +kernel
theorem dL_law_480 : decode cL_law 480 = .ok (.iadd, 1) := by decide +kernel
theorem dL_law_481 : decode cL_law 481 = .ok (.iaload, 1) := by decide +kernel
theorem dL_law_482 : decode cL_law 482 = .ok (.aload_n 0, 1) := by decide +kernel
theorem dL_law_483 : decode cL_law 483 = .ok (.iload 4, 2) := by decide +kernel
theorem dL_law_485 : decode cL_law 485 = .ok (.iconst 2, 1) := by decide +kernel
theorem dL_law_486 : decode cL_law 486 = .ok (.iadd, 1) := by decide +kernel
theorem dL_law_487 : decode cL_law 487 = .ok (.iaload, 1) := by decide +kernel
theorem dL_law_488 : decode cL_law 488 = .ok (.invokevirtual 83, 3) := by decide +kernel
theorem dL_law_491 : decode cL_law 491 = .ok (.istore 6, 2) := by decide +kernel
theorem dL_law_493 : decode cL_law 493 = .ok (.aload_n 2, 1) := by decide +kernel
theorem dL_law_494 : decode cL_law 494 = .ok (.invokevirtual 62, 3) := by decide +kernel
theorem dL_law_497 : decode cL_law 497 = .ok (.iload 5, 2) := by decide +kernel
theorem dL_law_499 : decode cL_law 499 = .ok (.if_icmp .eq 5, 3) := by decide +kernel
theorem dL_law_502 : decode cL_law 502 = .ok (.iconst 0, 1) := by decide +kernel
theorem dL_law_503 : decode cL_law 503 = .ok (.ireturn, 1) := by decide +kernel
theorem dL_law_504 : decode cL_law 504 = .ok (.iload 5, 2) := by decide +kernel
theorem dL_law_506 : decode cL_law 506 = .ok (.ifCond .ne 22, 3) := by decide +kernel
theorem dL_law_509 : decode cL_law 509 = .ok (.aload_n 3, 1) := by decide +kernel
theorem dL_law_510 : decode cL_law 510 = .ok (.iconst 0, 1) := by decide +kernel
theorem dL_law_511 : decode cL_law 511 = .ok (.laload, 1) := by decide +kernel
theorem dL_law_512 : decode cL_law 512 = .ok (.iload 6, 2) := by decide +kernel
theorem dL_law_514 : decode cL_law 514 = .ok (.ifCond .eq 7, 3) := by decide +kernel
theorem dL_law_517 : decode cL_law 517 = .ok (.lconst 1, 1) := by decide +kernel
theorem dL_law_518 : decode cL_law 518 = .ok (.goto 4, 3) := by decide +kernel
theorem dL_law_521 : decode cL_law 521 = .ok (.lconst 0, 1) := by decide +kernel
theorem dL_law_522 : decode cL_law 522 = .ok (.lcmp, 1) := by decide +kernel
theorem dL_law_523 : decode cL_law 523 = .ok (.ifCond .eq 5, 3) := by decide +kernel
theorem dL_law_526 : decode cL_law 526 = .ok (.iconst 0, 1) := by decide +kernel
theorem dL_law_527 : decode cL_law 527 = .ok (.ireturn, 1) := by decide +kernel
theorem dL_law_528 : decode cL_law 528 = .ok (.goto 318, 3) := by decide +kernel
theorem dL_law_531 : decode cL_law 531 = .ok (.aload_n 1, 1) := by decide +kernel
theorem dL_law_532 : decode cL_law 532 = .ok (.aload_n 0, 1) := by decide +kernel
theorem dL_law_533 : decode cL_law 533 = .ok (.iload 4, 2) := by decide +kernel
theorem dL_law_535 : decode cL_law 535 = .ok (.iconst 1, 1) := by decide +kernel
theorem dL_law_536 : decode cL_law 536 = .ok (.iadd, 1) := by decide +kernel
theorem dL_law_537 : decode cL_law 537 = .ok (.iaload, 1) := by decide +kernel
theorem dL_law_538 : decode cL_law 538 = .ok (.aload_n 3, 1) := by decide +kernel
theorem dL_law_539 : decode cL_law 539 = .ok (.invokestatic 84, 3) := by decide +kernel
theorem dL_law_542 : decode cL_law 542 = .ok (.istore 5, 2) := by decide +kernel
theorem dL_law_544 : decode cL_law 544 = .ok (.aload_n 2, 1) := by decide +kernel
theorem dL_law_545 : decode cL_law 545 = .ok (.aload_n 0, 1) := by decide +kernel
theorem dL_law_546 : decode cL_law 546 = .ok (.iload 4, 2) := by decide +kernel
theorem dL_law_548 : decode cL_law 548 = .ok (.iconst 1, 1) := by decide +kernel
theorem dL_law_549 : decode cL_law 549 = .ok (.iadd, 1) := by decide +kernel
theorem dL_law_550 : decode cL_law 550 = .ok (.iaload, 1) := by decide +kernel
theorem dL_law_551 : decode cL_law 551 = .ok (.invokevirtual 87, 3) := by decide +kernel
theorem dL_law_554 : decode cL_law 554 = .ok (.istore 6, 2) := by decide +kernel
theorem dL_law_556 : decode cL_law 556 = .ok (.aload_n 2, 1) := by decide +kernel
theorem dL_law_557 : decode cL_law 557 = .ok (.invokevirtual 62, 3) := by decide +kernel
theorem dL_law_560 : decode cL_law 560 = .ok (.iload 5, 2) := by decide +kernel
theorem dL_law_562 : decode cL_law 562 = .ok (.if_icmp .eq 5, 3) := by decide +kernel
theorem dL_law_565 : decode cL_law 565 = .ok (.iconst 0, 1) := by decide +kernel
theorem dL_law_566 : decode cL_law 566 = .ok (.ireturn, 1) := by decide +kernel
theorem dL_law_567 : decode cL_law 567 = .ok (.iload 5, 2) := by decide +kernel
theorem dL_law_569 : decode cL_law 569 = .ok (.ifCond .ne 15, 3) := by decide +kernel
theorem dL_law_572 : decode cL_law 572 = .ok (.aload_n 3, 1) := by decide +kernel
theorem dL_law_573 : decode cL_law 573 = .ok (.iconst 0, 1) := by decide +kernel
theorem dL_law_574 : decode cL_law 574 = .ok (.laload, 1) := by decide +kernel
theorem dL_law_575 : decode cL_law 575 = .ok (.iload 6, 2) := by decide +kernel
theorem dL_law_577 : decode cL_law 577 = .ok (.i2l, 1) := by decide +kernel
theorem dL_law_578 : decode cL_law 578 = .ok (.lcmp, 1) := by decide +kernel
theorem dL_law_579 : decode cL_law 579 = .ok (.ifCond .eq 5, 3) := by decide +kernel
theorem dL_law_582 : decode cL_law 582 = .ok (.iconst 0, 1) := by decide +kernel
theorem dL_law_583 : decode cL_law 583 = .ok (.ireturn, 1) := by decide +kernel
theorem dL_law_584 : decode cL_law 584 = .ok (.goto 262, 3) := by decide +kernel
theorem dL_law_587 : decode cL_law 587 = .ok (.aload_n 1, 1) := by decide +kernel
theorem dL_law_588 : decode cL_law 588 = .ok (.aload_n 0, 1) := by decide +kernel
theorem dL_law_589 : decode cL_law 589 = .ok (.iload 4, 2) := by decide +kernel
theorem dL_law_591 : decode cL_law 591 = .ok (.iconst 1, 1) := by decide +kernel
theorem dL_law_592 : decode cL_law 592 = .ok (.iadd, 1) := by decide +kernel
theorem dL_law_593 : decode cL_law 593 = .ok (.iaload, 1) := by decide +kernel
theorem dL_law_594 : decode cL_law 594 = .ok (.aload_n 0, 1) := by decide +kernel
theorem dL_law_595 : decode cL_law 595 = .ok (.iload 4, 2) := by decide +kernel
theorem dL_law_597 : decode cL_law 597 = .ok (.iconst 2, 1) := by decide +kernel
theorem dL_law_598 : decode cL_law 598 = .ok (.iadd, 1) := by decide +kernel
theorem dL_law_599 : decode cL_law 599 = .ok (.iaload, 1) := by decide +kernel
theorem dL_law_600 : decode cL_law 600 = .ok (.aload_n 3, 1) := by decide +kernel
theorem dL_law_601 : decode cL_law 601 = .ok (.invokestatic 88, 3) := by decide +kernel
theorem dL_law_604 : decode cL_law 604 = .ok (.istore 5, 2) := by decide +kernel
theorem dL_law_606 : decode cL_law 606 = .ok (.aload_n 2, 1) := by decide +kernel
theorem dL_law_607 : decode cL_law 607 = .ok (.aload_n 0, 1) := by decide +kernel
theorem dL_law_608 : decode cL_law 608 = .ok (.iload 4, 2) := by decide +kernel
theorem dL_law_610 : decode cL_law 610 = .ok (.iconst 1, 1) := by decide +kernel
theorem dL_law_611 : decode cL_law 611 = .ok (.iadd, 1) := by decide +kernel
theorem dL_law_612 : decode cL_law 612 = .ok (.iaload, 1) := by decide +kernel
theorem dL_law_613 : decode cL_law 613 = .ok (.aload_n 0, 1) := by decide +kernel
theorem dL_law_614 : decode cL_law 614 = .ok (.iload 4, 2) := by decide +kernel
theorem dL_law_616 : decode cL_law 616 = .ok (.iconst 2, 1) := by decide +kernel
theorem dL_law_617 : decode cL_law 617 = .ok (.iadd, 1) := by decide +kernel
theorem dL_law_618 : decode cL_law 618 = .ok (.iaload, 1) := by decide +kernel
theorem dL_law_619 : decode cL_law 619 = .ok (.invokevirtual 90, 3) := by decide +kernel
theorem dL_law_622 : decode cL_law 622 = .ok (.istore 6, 2) := by decide +kernel
theorem dL_law_624 : decode cL_law 624 = .ok (.aload_n 2, 1) := by decide +kernel
theorem dL_law_625 : decode cL_law 625 = .ok (.invokevirtual 62, 3) := by decide +kernel
theorem dL_law_628 : decode cL_law 628 = .ok (.iload 5, 2) := by decide +kernel
theorem dL_law_630 : decode cL_law 630 = .ok (.if_icmp .eq 5, 3) := by decide +kernel
theorem dL_law_633 : decode cL_law 633 = .ok (.iconst 0, 1) := by decide +kernel
theorem dL_law_634 : decode cL_law 634 = .ok (.ireturn, 1) := by decide +kernel
theorem dL_law_635 : decode cL_law 635 = .ok (.iload 5, 2) := by decide +kernel
theorem dL_law_637 : decode cL_law 637 = .ok (.ifCond .ne 22, 3) := by decide +kernel
theorem dL_law_640 : decode cL_law 640 = .ok (.aload_n 3, 1) := by decide +kernel
theorem dL_law_641 : decode cL_law 641 = .ok (.iconst 0, 1) := by decide +kernel
theorem dL_law_642 : decode cL_law 642 = .ok (.laload, 1) := by decide +kernel
theorem dL_law_643 : decode cL_law 643 = .ok (.iload 6, 2) := by decide +kernel
theorem dL_law_645 : decode cL_law 645 = .ok (.ifCond .eq 7, 3) := by decide +kernel
theorem dL_law_648 : decode cL_law 648 = .ok (.lconst 1, 1) := by decide +kernel
theorem dL_law_649 : decode cL_law 649 = .ok (.goto 4, 3) := by decide +kernel
theorem dL_law_652 : decode cL_law 652 = .ok (.lconst 0, 1) := by decide +kernel
theorem dL_law_653 : decode cL_law 653 = .ok (.lcmp, 1) := by decide +kernel
theorem dL_law_654 : decode cL_law 654 = .ok (.ifCond .eq 5, 3) := by decide +kernel
theorem dL_law_657 : decode cL_law 657 = .ok (.iconst 0, 1) := by decide +kernel
theorem dL_law_658 : decode cL_law 658 = .ok (.ireturn, 1) := by decide +kernel
theorem dL_law_659 : decode cL_law 659 = .ok (.goto 187, 3) := by decide +kernel
theorem dL_law_662 : decode cL_law 662 = .ok (.aload_n 1, 1) := by decide +kernel
theorem dL_law_663 : decode cL_law 663 = .ok (.invokevirtual 91, 3) := by decide +kernel
theorem dL_law_666 : decode cL_law 666 = .ok (.aload_n 2, 1) := by decide +kernel
theorem dL_law_667 : decode cL_law 667 = .ok (.invokevirtual 95, 3) := by decide +kernel
theorem dL_law_670 : decode cL_law 670 = .ok (.if_icmp .eq 176, 3) := by decide +kernel
theorem dL_law_673 : decode cL_law 673 = .ok (.iconst 0, 1) := by decide +kernel
theorem dL_law_674 : decode cL_law 674 = .ok (.ireturn, 1) := by decide +kernel
theorem dL_law_675 : decode cL_law 675 = .ok (.aload_n 1, 1) := by decide +kernel
theorem dL_law_676 : decode cL_law 676 = .ok (.aload_n 0, 1) := by decide +kernel
theorem dL_law_677 : decode cL_law 677 = .ok (.iload 4, 2) := by decide +kernel
theorem dL_law_679 : decode cL_law 679 = .ok (.iconst 1, 1) := by decide +kernel
theorem dL_law_680 : decode cL_law 680 = .ok (.iadd, 1) := by decide +kernel
theorem dL_law_681 : decode cL_law 681 = .ok (.iaload, 1) := by decide +kernel
theorem dL_law_682 : decode cL_law 682 = .ok (.aload_n 0, 1) := by decide +kernel
theorem dL_law_683 : decode cL_law 683 = .ok (.iload 4, 2) := by decide +kernel
theorem dL_law_685 : decode cL_law 685 = .ok (.iconst 2, 1) := by decide +kernel
theorem dL_law_686 : decode cL_law 686 = .ok (.iadd, 1) := by decide +kernel
theorem dL_law_687 : decode cL_law 687 = .ok (.iaload, 1) := by decide +kernel
theorem dL_law_688 : decode cL_law 688 = .ok (.aload_n 0, 1) := by decide +kernel
theorem dL_law_689 : decode cL_law 689 = .ok (.iload 4, 2) := by decide +kernel
theorem dL_law_691 : decode cL_law 691 = .ok (.iconst 3, 1) := by decide +kernel
theorem dL_law_692 : decode cL_law 692 = .ok (.iadd, 1) := by decide +kernel
theorem dL_law_693 : decode cL_law 693 = .ok (.iaload, 1) := by decide +kernel
theorem dL_law_694 : decode cL_law 694 = .ok (.aload_n 0, 1) := by decide +kernel
theorem dL_law_695 : decode cL_law 695 = .ok (.iload 4, 2) := by decide +kernel
theorem dL_law_697 : decode cL_law 697 = .ok (.iconst 4, 1) := by decide +kernel
theorem dL_law_698 : decode cL_law 698 = .ok (.iadd, 1) := by decide +kernel
theorem dL_law_699 : decode cL_law 699 = .ok (.iaload, 1) := by decide +kernel
theorem dL_law_700 : decode cL_law 700 = .ok (.aload_n 0, 1) := by decide +kernel
theorem dL_law_701 : decode cL_law 701 = .ok (.iload 4, 2) := by decide +kernel
theorem dL_law_703 : decode cL_law 703 = .ok (.iconst 5, 1) := by decide +kernel
theorem dL_law_704 : decode cL_law 704 = .ok (.iadd, 1) := by decide +kernel
theorem dL_law_705 : decode cL_law 705 = .ok (.iaload, 1) := by decide +kernel
theorem dL_law_706 : decode cL_law 706 = .ok (.aload_n 3, 1) := by decide +kernel
theorem dL_law_707 : decode cL_law 707 = .ok (.invokestatic 96, 3) := by decide +kernel
theorem dL_law_710 : decode cL_law 710 = .ok (.istore 5, 2) := by decide +kernel
theorem dL_law_712 : decode cL_law 712 = .ok (.aload_n 2, 1) := by decide +kernel
theorem dL_law_713 : decode cL_law 713 = .ok (.aload_n 0, 1) := by decide +kernel
theorem dL_law_714 : decode cL_law 714 = .ok (.iload 4, 2) := by decide +kernel
theorem dL_law_716 : decode cL_law 716 = .ok (.iconst 1, 1) := by decide +kernel
theorem dL_law_717 : decode cL_law 717 = .ok (.iadd, 1) := by decide +kernel
theorem dL_law_718 : decode cL_law 718 = .ok (.iaload, 1) := by decide +kernel
theorem dL_law_719 : decode cL_law 719 = .ok (.aload_n 0, 1) := by decide +kernel
theorem dL_law_720 : decode cL_law 720 = .ok (.iload 4, 2) := by decide +kernel
theorem dL_law_722 : decode cL_law 722 = .ok (.iconst 2, 1) := by decide +kernel
theorem dL_law_723 : decode cL_law 723 = .ok (.iadd, 1) := by decide +kernel
theorem dL_law_724 : decode cL_law 724 = .ok (.iaload, 1) := by decide +kernel
theorem dL_law_725 : decode cL_law 725 = .ok (.aload_n 0, 1) := by decide +kernel
theorem dL_law_726 : decode cL_law 726 = .ok (.iload 4, 2) := by decide +kernel
theorem dL_law_728 : decode cL_law 728 = .ok (.iconst 3, 1) := by decide +kernel
theorem dL_law_729 : decode cL_law 729 = .ok (.iadd, 1) := by decide +kernel
theorem dL_law_730 : decode cL_law 730 = .ok (.iaload, 1) := by decide +kernel
theorem dL_law_731 : decode cL_law 731 = .ok (.aload_n 0, 1) := by decide +kernel
theorem dL_law_732 : decode cL_law 732 = .ok (.iload 4, 2) := by decide +kernel
theorem dL_law_734 : decode cL_law 734 = .ok (.iconst 4, 1) := by decide +kernel
theorem dL_law_735 : decode cL_law 735 = .ok (.iadd, 1) := by decide +kernel
theorem dL_law_736 : decode cL_law 736 = .ok (.iaload, 1) := by decide +kernel
theorem dL_law_737 : decode cL_law 737 = .ok (.aload_n 0, 1) := by decide +kernel
theorem dL_law_738 : decode cL_law 738 = .ok (.iload 4, 2) := by decide +kernel
theorem dL_law_740 : decode cL_law 740 = .ok (.iconst 5, 1) := by decide +kernel
theorem dL_law_741 : decode cL_law 741 = .ok (.iadd, 1) := by decide +kernel
theorem dL_law_742 : decode cL_law 742 = .ok (.iaload, 1) := by decide +kernel
theorem dL_law_743 : decode cL_law 743 = .ok (.invokevirtual 99, 3) := by decide +kernel
theorem dL_law_746 : decode cL_law 746 = .ok (.lstore 6, 2) := by decide +kernel
theorem dL_law_748 : decode cL_law 748 = .ok (.aload_n 2, 1) := by decide +kernel
theorem dL_law_749 : decode cL_law 749 = .ok (.invokevirtual 62, 3) := by decide +kernel
theorem dL_law_752 : decode cL_law 752 = .ok (.iload 5, 2) := by decide +kernel
theorem dL_law_754 : decode cL_law 754 = .ok (.if_icmp .eq 5, 3) := by decide +kernel
theorem dL_law_757 : decode cL_law 757 = .ok (.iconst 0, 1) := by decide +kernel
theorem dL_law_758 : decode cL_law 758 = .ok (.ireturn, 1) := by decide +kernel
theorem dL_law_759 : decode cL_law 759 = .ok (.iload 5, 2) := by decide +kernel
theorem dL_law_761 : decode cL_law 761 = .ok (.ifCond .ne 14, 3) := by decide +kernel
theorem dL_law_764 : decode cL_law 764 = .ok (.aload_n 3, 1) := by decide +kernel
theorem dL_law_765 : decode cL_law 765 = .ok (.iconst 0, 1) := by decide +kernel
theorem dL_law_766 : decode cL_law 766 = .ok (.laload, 1) := by decide +kernel
theorem dL_law_767 : decode cL_law 767 = .ok (.lload 6, 2) := by decide +kernel
theorem dL_law_769 : decode cL_law 769 = .ok (.lcmp, 1) := by decide +kernel
theorem dL_law_770 : decode cL_law 770 = .ok (.ifCond .eq 5, 3) := by decide +kernel
theorem dL_law_773 : decode cL_law 773 = .ok (.iconst 0, 1) := by decide +kernel
theorem dL_law_774 : decode cL_law 774 = .ok (.ireturn, 1) := by decide +kernel
theorem dL_law_775 : decode cL_law 775 = .ok (.goto 71, 3) := by decide +kernel
theorem dL_law_778 : decode cL_law 778 = .ok (.aload_n 1, 1) := by decide +kernel
theorem dL_law_779 : decode cL_law 779 = .ok (.aload_n 0, 1) := by decide +kernel
theorem dL_law_780 : decode cL_law 780 = .ok (.iload 4, 2) := by decide +kernel
theorem dL_law_782 : decode cL_law 782 = .ok (.iconst 1, 1) := by decide +kernel
theorem dL_law_783 : decode cL_law 783 = .ok (.iadd, 1) := by decide +kernel
theorem dL_law_784 : decode cL_law 784 = .ok (.iaload, 1) := by decide +kernel
theorem dL_law_785 : decode cL_law 785 = .ok (.aload_n 0, 1) := by decide +kernel
theorem dL_law_786 : decode cL_law 786 = .ok (.iload 4, 2) := by decide +kernel
theorem dL_law_788 : decode cL_law 788 = .ok (.iconst 2, 1) := by decide +kernel
theorem dL_law_789 : decode cL_law 789 = .ok (.iadd, 1) := by decide +kernel
theorem dL_law_790 : decode cL_law 790 = .ok (.iaload, 1) := by decide +kernel
theorem dL_law_791 : decode cL_law 791 = .ok (.aload_n 3, 1) := by decide +kernel
theorem dL_law_792 : decode cL_law 792 = .ok (.invokestatic 100, 3) := by decide +kernel
theorem dL_law_795 : decode cL_law 795 = .ok (.istore 5, 2) := by decide +kernel
theorem dL_law_797 : decode cL_law 797 = .ok (.aload_n 2, 1) := by decide +kernel
theorem dL_law_798 : decode cL_law 798 = .ok (.aload_n 0, 1) := by decide +kernel
theorem dL_law_799 : decode cL_law 799 = .ok (.iload 4, 2) := by decide +kernel
theorem dL_law_801 : decode cL_law 801 = .ok (.iconst 1, 1) := by decide +kernel
theorem dL_law_802 : decode cL_law 802 = .ok (.iadd, 1) := by decide +kernel
theorem dL_law_803 : decode cL_law 803 = .ok (.iaload, 1) := by decide +kernel
theorem dL_law_804 : decode cL_law 804 = .ok (.aload_n 0, 1) := by decide +kernel
theorem dL_law_805 : decode cL_law 805 = .ok (.iload 4, 2) := by decide +kernel
theorem dL_law_807 : decode cL_law 807 = .ok (.iconst 2, 1) := by decide +kernel
theorem dL_law_808 : decode cL_law 808 = .ok (.iadd, 1) := by decide +kernel
theorem dL_law_809 : decode cL_law 809 = .ok (.iaload, 1) := by decide +kernel
theorem dL_law_810 : decode cL_law 810 = .ok (.invokevirtual 102, 3) := by decide +kernel
theorem dL_law_813 : decode cL_law 813 = .ok (.istore 6, 2) := by decide +kernel
theorem dL_law_815 : decode cL_law 815 = .ok (.aload_n 2, 1) := by decide +kernel
theorem dL_law_816 : decode cL_law 816 = .ok (.invokevirtual 62, 3) := by decide +kernel
theorem dL_law_819 : decode cL_law 819 = .ok (.iload 5, 2) := by decide +kernel
theorem dL_law_821 : decode cL_law 821 = .ok (.if_icmp .eq 5, 3) := by decide +kernel
theorem dL_law_824 : decode cL_law 824 = .ok (.iconst 0, 1) := by decide +kernel
theorem dL_law_825 : decode cL_law 825 = .ok (.ireturn, 1) := by decide +kernel
theorem dL_law_826 : decode cL_law 826 = .ok (.iload 5, 2) := by decide +kernel
theorem dL_law_828 : decode cL_law 828 = .ok (.ifCond .ne 15, 3) := by decide +kernel
theorem dL_law_831 : decode cL_law 831 = .ok (.aload_n 3, 1) := by decide +kernel
theorem dL_law_832 : decode cL_law 832 = .ok (.iconst 0, 1) := by decide +kernel
theorem dL_law_833 : decode cL_law 833 = .ok (.laload, 1) := by decide +kernel
theorem dL_law_834 : decode cL_law 834 = .ok (.iload 6, 2) := by decide +kernel
theorem dL_law_836 : decode cL_law 836 = .ok (.i2l, 1) := by decide +kernel
theorem dL_law_837 : decode cL_law 837 = .ok (.lcmp, 1) := by decide +kernel
theorem dL_law_838 : decode cL_law 838 = .ok (.ifCond .eq 5, 3) := by decide +kernel
theorem dL_law_841 : decode cL_law 841 = .ok (.iconst 0, 1) := by decide +kernel
theorem dL_law_842 : decode cL_law 842 = .ok (.ireturn, 1) := by decide +kernel
theorem dL_law_843 : decode cL_law 843 = .ok (.goto 3, 3) := by decide +kernel
theorem dL_law_846 : decode cL_law 846 = .ok (.iinc 4 6, 3) := by decide +kernel
theorem dL_law_849 : decode cL_law 849 = .ok (.goto (-826), 3) := by decide +kernel
theorem dL_law_852 : decode cL_law 852 = .ok (.iconst 1, 1) := by decide +kernel
theorem dL_law_853 : decode cL_law 853 = .ok (.ireturn, 1) := by decide +kernel
set_option maxRecDepth 20000 in
theorem wd0 : Cond.initialized "RationalFormsLaw" ∈ GG := GG_t 0 rfl rfl
set_option maxRecDepth 20000 in
theorem wd212 : Cond.methodLink "RationalFormsLaw" 56 yL_begin ∈ GG := GG_t 212 rfl rfl
set_option maxRecDepth 20000 in
theorem wd213 : Cond.static yL_begin ∈ GG := GG_t 213 rfl rfl
set_option maxRecDepth 20000 in
theorem wd214 : Cond.codeWith yL_begin cL_begin 4 (some .int) [(0, 6, 9, 13)] ∈ GG := GG_t 214 rfl rfl
set_option maxRecDepth 20000 in
theorem wd297 : Cond.methodLink "RationalFormsLaw" 66 yL_put ∈ GG := GG_t 297 rfl rfl
set_option maxRecDepth 20000 in
theorem wd298 : Cond.static yL_put ∈ GG := GG_t 298 rfl rfl
set_option maxRecDepth 20000 in
theorem wd299 : Cond.codeWith yL_put cL_put 7 (some .int) [(0, 14, 17, 13), (0, 14, 21, 19)] ∈ GG := GG_t 299 rfl rfl
set_option maxRecDepth 20000 in
theorem wd330 : Cond.methodLink "RationalFormsLaw" 70 yL_about ∈ GG := GG_t 330 rfl rfl
set_option maxRecDepth 20000 in
theorem wd331 : Cond.static yL_about ∈ GG := GG_t 331 rfl rfl
set_option maxRecDepth 20000 in
theorem wd332 : Cond.codeWith yL_about cL_about 5 (some .int) [(0, 10, 13, 13)] ∈ GG := GG_t 332 rfl rfl
set_option maxRecDepth 20000 in
theorem wd338 : Cond.methodLink "RationalFormsLaw" 74 yL_symbol ∈ GG := GG_t 338 rfl rfl
set_option maxRecDepth 20000 in
theorem wd339 : Cond.static yL_symbol ∈ GG := GG_t 339 rfl rfl
set_option maxRecDepth 20000 in
theorem wd340 : Cond.codeWith yL_symbol cL_symbol 6 (some .int) [(0, 12, 15, 29), (0, 12, 19, 13)] ∈ GG := GG_t 340 rfl rfl
set_option maxRecDepth 20000 in
theorem wd371 : Cond.methodLink "RationalFormsLaw" 78 yL_hasse ∈ GG := GG_t 371 rfl rfl
set_option maxRecDepth 20000 in
theorem wd372 : Cond.static yL_hasse ∈ GG := GG_t 372 rfl rfl
set_option maxRecDepth 20000 in
theorem wd373 : Cond.codeWith yL_hasse cL_hasse 5 (some .int) [(0, 10, 13, 13)] ∈ GG := GG_t 373 rfl rfl
set_option maxRecDepth 20000 in
theorem wd378 : Cond.methodLink "RationalFormsLaw" 81 yL_isotropicAt ∈ GG := GG_t 378 rfl rfl
set_option maxRecDepth 20000 in
theorem wd379 : Cond.static yL_isotropicAt ∈ GG := GG_t 379 rfl rfl
set_option maxRecDepth 20000 in
theorem wd380 : Cond.codeWith yL_isotropicAt cL_isotropicAt 5 (some .int) [(0, 17, 20, 13)] ∈ GG := GG_t 380 rfl rfl
set_option maxRecDepth 20000 in
theorem wd393 : Cond.methodLink "RationalFormsLaw" 84 yL_obstacle ∈ GG := GG_t 393 rfl rfl
set_option maxRecDepth 20000 in
theorem wd394 : Cond.static yL_obstacle ∈ GG := GG_t 394 rfl rfl
set_option maxRecDepth 20000 in
theorem wd395 : Cond.codeWith yL_obstacle cL_obstacle 4 (some .int) [(0, 9, 12, 13)] ∈ GG := GG_t 395 rfl rfl
set_option maxRecDepth 20000 in
theorem wd410 : Cond.methodLink "RationalFormsLaw" 88 yL_takes ∈ GG := GG_t 410 rfl rfl
set_option maxRecDepth 20000 in
theorem wd411 : Cond.static yL_takes ∈ GG := GG_t 411 rfl rfl
set_option maxRecDepth 20000 in
theorem wd412 : Cond.codeWith yL_takes cL_takes 5 (some .int) [(0, 17, 20, 13), (0, 17, 24, 29)] ∈ GG := GG_t 412 rfl rfl
set_option maxRecDepth 20000 in
theorem wd430 : Cond.methodLink "RationalFormsLaw" 96 yL_value ∈ GG := GG_t 430 rfl rfl
set_option maxRecDepth 20000 in
theorem wd431 : Cond.static yL_value ∈ GG := GG_t 431 rfl rfl
set_option maxRecDepth 20000 in
theorem wd432 : Cond.codeWith yL_value cL_value 8 (some .int) [(0, 15, 18, 13)] ∈ GG := GG_t 432 rfl rfl
set_option maxRecDepth 20000 in
theorem wd441 : Cond.methodLink "RationalFormsLaw" 100 yL_sign ∈ GG := GG_t 441 rfl rfl
set_option maxRecDepth 20000 in
theorem wd442 : Cond.static yL_sign ∈ GG := GG_t 442 rfl rfl
set_option maxRecDepth 20000 in
theorem wd443 : Cond.codeWith yL_sign cL_sign 5 (some .int) [(0, 10, 13, 13), (0, 10, 17, 19)] ∈ GG := GG_t 443 rfl rfl
set_option maxRecDepth 20000 in
theorem wd499 : Cond.methodLink "RationalFormsLaw" 62 yM_thrown ∈ GG := GG_t 499 rfl rfl
set_option maxRecDepth 20000 in
theorem wd500 : Cond.instanceMethod yM_thrown ∈ GG := GG_t 500 rfl rfl
set_option maxRecDepth 20000 in
theorem wd501 : Cond.selects "RationalFormsModel" yM_thrown yM_thrown ∈ GG := GG_t 501 rfl rfl
set_option maxRecDepth 20000 in
theorem wd502 : Cond.code yM_thrown cM_thrown 1 (some .int) ∈ GG := GG_t 502 rfl rfl
set_option maxRecDepth 20000 in
theorem wd503 : Cond.methodLink "RationalFormsLaw" 61 yM_begin ∈ GG := GG_t 503 rfl rfl
set_option maxRecDepth 20000 in
theorem wd504 : Cond.instanceMethod yM_begin ∈ GG := GG_t 504 rfl rfl
set_option maxRecDepth 20000 in
theorem wd505 : Cond.selects "RationalFormsModel" yM_begin yM_begin ∈ GG := GG_t 505 rfl rfl
set_option maxRecDepth 20000 in
theorem wd506 : Cond.code yM_begin cM_begin 4 none ∈ GG := GG_t 506 rfl rfl
set_option maxRecDepth 20000 in
theorem wd510 : Cond.methodLink "RationalFormsLaw" 69 yM_put ∈ GG := GG_t 510 rfl rfl
set_option maxRecDepth 20000 in
theorem wd511 : Cond.instanceMethod yM_put ∈ GG := GG_t 511 rfl rfl
set_option maxRecDepth 20000 in
theorem wd512 : Cond.selects "RationalFormsModel" yM_put yM_put ∈ GG := GG_t 512 rfl rfl
set_option maxRecDepth 20000 in
theorem wd513 : Cond.code yM_put cM_put 6 (some .int) ∈ GG := GG_t 513 rfl rfl
set_option maxRecDepth 20000 in
theorem wd514 : Cond.methodLink "RationalFormsLaw" 73 yM_about ∈ GG := GG_t 514 rfl rfl
set_option maxRecDepth 20000 in
theorem wd515 : Cond.instanceMethod yM_about ∈ GG := GG_t 515 rfl rfl
set_option maxRecDepth 20000 in
theorem wd516 : Cond.selects "RationalFormsModel" yM_about yM_about ∈ GG := GG_t 516 rfl rfl
set_option maxRecDepth 20000 in
theorem wd517 : Cond.code yM_about cM_about 3 (some .int) ∈ GG := GG_t 517 rfl rfl
set_option maxRecDepth 20000 in
theorem wd549 : Cond.methodLink "RationalFormsLaw" 77 yM_symbol ∈ GG := GG_t 549 rfl rfl
set_option maxRecDepth 20000 in
theorem wd550 : Cond.instanceMethod yM_symbol ∈ GG := GG_t 550 rfl rfl
set_option maxRecDepth 20000 in
theorem wd551 : Cond.selects "RationalFormsModel" yM_symbol yM_symbol ∈ GG := GG_t 551 rfl rfl
set_option maxRecDepth 20000 in
theorem wd552 : Cond.code yM_symbol cM_symbol 4 (some .int) ∈ GG := GG_t 552 rfl rfl
set_option maxRecDepth 20000 in
theorem wd572 : Cond.methodLink "RationalFormsLaw" 80 yM_hasse ∈ GG := GG_t 572 rfl rfl
set_option maxRecDepth 20000 in
theorem wd573 : Cond.instanceMethod yM_hasse ∈ GG := GG_t 573 rfl rfl
set_option maxRecDepth 20000 in
theorem wd574 : Cond.selects "RationalFormsModel" yM_hasse yM_hasse ∈ GG := GG_t 574 rfl rfl
set_option maxRecDepth 20000 in
theorem wd575 : Cond.code yM_hasse cM_hasse 3 (some .int) ∈ GG := GG_t 575 rfl rfl
set_option maxRecDepth 20000 in
theorem wd580 : Cond.methodLink "RationalFormsLaw" 83 yM_isotropicAt ∈ GG := GG_t 580 rfl rfl
set_option maxRecDepth 20000 in
theorem wd581 : Cond.instanceMethod yM_isotropicAt ∈ GG := GG_t 581 rfl rfl
set_option maxRecDepth 20000 in
theorem wd582 : Cond.selects "RationalFormsModel" yM_isotropicAt yM_isotropicAt ∈ GG := GG_t 582 rfl rfl
set_option maxRecDepth 20000 in
theorem wd583 : Cond.code yM_isotropicAt cM_isotropicAt 3 (some .boolean) ∈ GG := GG_t 583 rfl rfl
set_option maxRecDepth 20000 in
theorem wd591 : Cond.methodLink "RationalFormsLaw" 87 yM_obstacle ∈ GG := GG_t 591 rfl rfl
set_option maxRecDepth 20000 in
theorem wd592 : Cond.instanceMethod yM_obstacle ∈ GG := GG_t 592 rfl rfl
set_option maxRecDepth 20000 in
theorem wd593 : Cond.selects "RationalFormsModel" yM_obstacle yM_obstacle ∈ GG := GG_t 593 rfl rfl
set_option maxRecDepth 20000 in
theorem wd594 : Cond.code yM_obstacle cM_obstacle 2 (some .int) ∈ GG := GG_t 594 rfl rfl
set_option maxRecDepth 20000 in
theorem wd599 : Cond.methodLink "RationalFormsLaw" 90 yM_takes ∈ GG := GG_t 599 rfl rfl
set_option maxRecDepth 20000 in
theorem wd600 : Cond.instanceMethod yM_takes ∈ GG := GG_t 600 rfl rfl
set_option maxRecDepth 20000 in
theorem wd601 : Cond.selects "RationalFormsModel" yM_takes yM_takes ∈ GG := GG_t 601 rfl rfl
set_option maxRecDepth 20000 in
theorem wd602 : Cond.code yM_takes cM_takes 6 (some .boolean) ∈ GG := GG_t 602 rfl rfl
set_option maxRecDepth 20000 in
theorem wd611 : Cond.methodLink "RationalFormsLaw" 99 yM_value ∈ GG := GG_t 611 rfl rfl
set_option maxRecDepth 20000 in
theorem wd612 : Cond.instanceMethod yM_value ∈ GG := GG_t 612 rfl rfl
set_option maxRecDepth 20000 in
theorem wd613 : Cond.selects "RationalFormsModel" yM_value yM_value ∈ GG := GG_t 613 rfl rfl
set_option maxRecDepth 20000 in
theorem wd614 : Cond.code yM_value cM_value 13 (some .long) ∈ GG := GG_t 614 rfl rfl
set_option maxRecDepth 20000 in
theorem wd615 : Cond.methodLink "RationalFormsLaw" 102 yM_sign ∈ GG := GG_t 615 rfl rfl
set_option maxRecDepth 20000 in
theorem wd616 : Cond.instanceMethod yM_sign ∈ GG := GG_t 616 rfl rfl
set_option maxRecDepth 20000 in
theorem wd617 : Cond.selects "RationalFormsModel" yM_sign yM_sign ∈ GG := GG_t 617 rfl rfl
set_option maxRecDepth 20000 in
theorem wd618 : Cond.code yM_sign cM_sign 3 (some .int) ∈ GG := GG_t 618 rfl rfl
set_option maxRecDepth 100000 in
set_option maxHeartbeats 4000000 in
theorem lt_begin {p : Program} {l : Launch} {e : Env} {s : State} {m : MethodId} {below : List Frame} {meth : Method} {c : Code} {b L : Nat} {xs : Nat → Int32} {E : En} {Q : State → Prop} (C : lwC p l s m meth c b L xs E) (i : Nat) (hi : i + 6 ≤ L) (M : Me) (nn : Nat → Nat) (hI : Iv M nn) (H : Heap) (locs : List Loc) (cells slots : Nat) (ls : Array Slot) (hcl : cells ≤ 100 + i) (hsl : slots ≤ 2000 + 6 * i) (hP : wP E M H) (hS : va_S (wA E) s.heap H locs) (hl : lv_has ls 8 [(4, .int (ji (i : Int))), (0, .ref b), (1, .ref (E.2.1 0)), (2, .ref (E.2.1 28)), (3, .ref (E.2.1 35))])
    (next : ∀ (M : Me) (nn : Nat → Nat) (H : Heap) (locs : List Loc) (cells slots : Nat) (ls : Array Slot), Iv M nn → cells ≤ 100 + (i + 6) → slots ≤ 2000 + 6 * (i + 6) → wP E M H → va_S (wA E) s.heap H locs → lv_has ls 8 [(4, .int (ji (i : Int))), (0, .ref b), (1, .ref (E.2.1 0)), (2, .ref (E.2.1 28)), (3, .ref (E.2.1 35))] → W p l e room_1 s m #[Value.ref b] below meth c H locs cells slots Q (F0 m 846 ls [])) : W p l e room_1 s m #[Value.ref b] below meth c H locs cells slots Q (F0 m 100 ls []) := by
  obtain ⟨hx, hb, hml, hown, hg, hK, hnc, hth0, hX, hbl, hbA, hA, hL, hJ, hlf⟩ := C
  have hthA := fun {H locs} (hS : va_S (wA E) s.heap H locs) => thA hth0 hA hS
  refine lv_aload_n hx hb dL_law_100 rfl (lv_at hl 2 rfl) ?_
  refine lv_aload_n hx hb dL_law_101 rfl (lv_at hl 1 rfl) ?_
  refine lv_iload hx hb dL_law_102 (lv_at hl 0 rfl) ?_
  refine j_iconst hx hb dL_law_104 ?_
  refine j_iadd hx hb dL_law_105 ?_
  refine j_sld (n := i + 1) hx hb hX hbl hbA hS (by omega) hL (by omega) dL_law_106 ?_
  refine lv_aload_n hx hb dL_law_107 rfl (lv_at hl 1 rfl) ?_
  refine lv_iload hx hb dL_law_108 (lv_at hl 0 rfl) ?_
  refine j_iconst hx hb dL_law_110 ?_
  refine j_iadd hx hb dL_law_111 ?_
  refine j_sld (n := i + 2) hx hb hX hbl hbA hS (by omega) hL (by omega) dL_law_112 ?_
  refine ml_S (M0 := M) (As := [.ref (E.2.1 0), .int (ji (xz xs (i + 1))), .int (ji (xz xs (i + 2)))]) (rest := []) hx hb hml hown hg hl hK (hthA hS) hnc hP hS (kL_begin l hlf E hJ M (xz xs (i + 1)) (xz xs (i + 2)) (xz_b xs _) (xz_b xs _)) wd212 wd213 wd0 wd214 ⟨rfl, rfl⟩ (n := 3) (by decide +kernel) rfl ⟨by decide, by decide⟩ rfl (Nat.le_of_ble_eq_true rfl) dL_law_113 ⟨by show _ ≤ 601024; omega, by show _ ≤ 7293034; omega⟩ (fun v M1 H locs hq hP hS _ => ?_)
  obtain ⟨k9, rfl⟩ := vL_begin (nn := nn) hq
  have h28 : ∀ q, q = 28 ∨ q = 29 ∨ q = 30 → M1 q = M q := kL28_begin hI hq
  have hI1 : ∀ g, g < 2 → MI M1 g (nn g) := fun g hg2 => by have := hI.mi g hg2; unfold MI at this ⊢; rw [h28 29 (by omega)]; unfold aM at this ⊢; rw [h28 30 (by omega)]; exact this
  refine lv_istore hx hb dL_law_116 hl (by decide) rfl (fun ls hl => ?_)
  have hl : lv_has ls 8 [(5, .int (ji k9)), (4, .int (ji ((i:Int)))), (0, .ref b), (1, .ref (E.2.1 0)), (2, .ref (E.2.1 28)), (3, .ref (E.2.1 35))] := hl
  refine lv_aload_n hx hb dL_law_118 rfl (lv_at hl 4 rfl) ?_
  refine lv_aload_n hx hb dL_law_119 rfl (lv_at hl 2 rfl) ?_
  refine lv_iload hx hb dL_law_120 (lv_at hl 1 rfl) ?_
  refine j_iconst hx hb dL_law_122 ?_
  refine j_iadd hx hb dL_law_123 ?_
  refine j_sld (n := i + 1) hx hb hX hbl hbA hS (by omega) hL (by omega) dL_law_124 ?_
  refine lv_aload_n hx hb dL_law_125 rfl (lv_at hl 2 rfl) ?_
  refine lv_iload hx hb dL_law_126 (lv_at hl 1 rfl) ?_
  refine j_iconst hx hb dL_law_128 ?_
  refine j_iadd hx hb dL_law_129 ?_
  refine j_sld (n := i + 2) hx hb hX hbl hbA hS (by omega) hL (by omega) dL_law_130 ?_
  refine mm_V (As := [.int (ji (xz xs (i + 1))), .int (ji (xz xs (i + 2)))]) (rest := []) hx hb hml hown hg hl hK hP hS (by omega) (sh_M E _) rfl (kM_begin l E hJ M1 (xz xs (i + 1)) (xz xs (i + 2)) (xz_b xs _) (xz_b xs _)) wd503 wd504 wd505 wd5 wd506 ⟨rfl, rfl⟩ (n := 2) (by decide +kernel) rfl ⟨by decide, by decide⟩ rfl (Nat.le_of_ble_eq_true rfl) dL_law_131 ⟨by show _ ≤ 601024; omega, by show _ ≤ 7293034; omega⟩ (fun v M2 H locs hq2 hP hS => ?_)
  have hit := it_begin hI hq hq2.2
  obtain rfl := hq2.1
  obtain ⟨k8, hk8, hkc, hk12, nn2, hI2⟩ := hit
  have hkk : ji k9 = ji k8 := by
    have h9 := Option.some.inj hk8
    injection h9
  refine lv_aload_n hx hb dL_law_134 rfl (lv_at hl 4 rfl) ?_
  rw [hkk] at hl
  refine mm_V (As := []) (rest := []) hx hb hml hown hg hl hK hP hS (by omega) (sh_M E _) rfl (kM_thrown l E hJ M2) wd499 wd500 wd501 wd5 wd502 ⟨rfl, rfl⟩ (n := 0) (by decide +kernel) rfl ⟨by decide, by decide⟩ rfl (Nat.le_of_ble_eq_true rfl) dL_law_135 ⟨by show _ ≤ 601024; omega, by show _ ≤ 7293034; omega⟩ (fun v M3 H locs hq3 hP hS => ?_)
  obtain ⟨rfl, hM3⟩ := hq3
  rw [hM3] at hP
  refine lv_iload hx hb dL_law_138 (lv_at hl 0 rfl) ?_
  refine j_icmp_eq hx hb (by rw [hk12]; omega) (by omega) dL_law_140 rfl (fun b1 => ?_) (fun b1 => ?_)
  · refine lv_goto hx hb dL_law_145 rfl ?_
    exact next M2 nn2 H locs _ _ ls hI2 (by omega) (by omega) hP hS (lv_sub hl [1, 2, 3, 4, 5] rfl)
  · exact absurd hk12 b1

set_option maxRecDepth 100000 in
set_option maxHeartbeats 4000000 in
theorem lt_put {p : Program} {l : Launch} {e : Env} {s : State} {m : MethodId} {below : List Frame} {meth : Method} {c : Code} {b L : Nat} {xs : Nat → Int32} {E : En} {Q : State → Prop} (C : lwC p l s m meth c b L xs E) (i : Nat) (hi : i + 6 ≤ L) (M : Me) (nn : Nat → Nat) (hI : Iv M nn) (H : Heap) (locs : List Loc) (cells slots : Nat) (ls : Array Slot) (hcl : cells ≤ 100 + i) (hsl : slots ≤ 2000 + 6 * i) (hP : wP E M H) (hS : va_S (wA E) s.heap H locs) (hl : lv_has ls 8 [(4, .int (ji (i : Int))), (0, .ref b), (1, .ref (E.2.1 0)), (2, .ref (E.2.1 28)), (3, .ref (E.2.1 35))])
    (next : ∀ (M : Me) (nn : Nat → Nat) (H : Heap) (locs : List Loc) (cells slots : Nat) (ls : Array Slot), Iv M nn → cells ≤ 100 + (i + 6) → slots ≤ 2000 + 6 * (i + 6) → wP E M H → va_S (wA E) s.heap H locs → lv_has ls 8 [(4, .int (ji (i : Int))), (0, .ref b), (1, .ref (E.2.1 0)), (2, .ref (E.2.1 28)), (3, .ref (E.2.1 35))] → W p l e room_1 s m #[Value.ref b] below meth c H locs cells slots Q (F0 m 846 ls [])) : W p l e room_1 s m #[Value.ref b] below meth c H locs cells slots Q (F0 m 148 ls []) := by
  obtain ⟨hx, hb, hml, hown, hg, hK, hnc, hth0, hX, hbl, hbA, hA, hL, hJ, hlf⟩ := C
  have hthA := fun {H locs} (hS : va_S (wA E) s.heap H locs) => thA hth0 hA hS
  refine lv_aload_n hx hb dL_law_148 rfl (lv_at hl 2 rfl) ?_
  refine lv_aload_n hx hb dL_law_149 rfl (lv_at hl 1 rfl) ?_
  refine lv_iload hx hb dL_law_150 (lv_at hl 0 rfl) ?_
  refine j_iconst hx hb dL_law_152 ?_
  refine j_iadd hx hb dL_law_153 ?_
  refine j_sld (n := i + 1) hx hb hX hbl hbA hS (by omega) hL (by omega) dL_law_154 ?_
  refine lv_aload_n hx hb dL_law_155 rfl (lv_at hl 1 rfl) ?_
  refine lv_iload hx hb dL_law_156 (lv_at hl 0 rfl) ?_
  refine j_iconst hx hb dL_law_158 ?_
  refine j_iadd hx hb dL_law_159 ?_
  refine j_sld (n := i + 2) hx hb hX hbl hbA hS (by omega) hL (by omega) dL_law_160 ?_
  refine lv_aload_n hx hb dL_law_161 rfl (lv_at hl 1 rfl) ?_
  refine lv_iload hx hb dL_law_162 (lv_at hl 0 rfl) ?_
  refine j_iconst hx hb dL_law_164 ?_
  refine j_iadd hx hb dL_law_165 ?_
  refine j_sld (n := i + 3) hx hb hX hbl hbA hS (by omega) hL (by omega) dL_law_166 ?_
  refine lv_aload_n hx hb dL_law_167 rfl (lv_at hl 1 rfl) ?_
  refine lv_iload hx hb dL_law_168 (lv_at hl 0 rfl) ?_
  refine j_iconst hx hb dL_law_170 ?_
  refine j_iadd hx hb dL_law_171 ?_
  refine j_sld (n := i + 4) hx hb hX hbl hbA hS (by omega) hL (by omega) dL_law_172 ?_
  refine lv_aload_n hx hb dL_law_173 rfl (lv_at hl 4 rfl) ?_
  refine ml_S (M0 := M) (As := [.ref (E.2.1 0), .int (ji (xz xs (i + 1))), .int (ji (xz xs (i + 2))), .int (ji (xz xs (i + 3))), .int (ji (xz xs (i + 4))), .ref (E.2.1 35)]) (rest := []) hx hb hml hown hg hl hK (hthA hS) hnc hP hS (kL_put l hlf E hJ M (xz xs (i + 1)) (xz xs (i + 2)) (xz xs (i + 3)) (xz xs (i + 4)) (xz_b xs _) (xz_b xs _) (xz_b xs _) (xz_b xs _) nn hI.ci) wd297 wd298 wd0 wd299 ⟨rfl, rfl⟩ (n := 6) (by decide +kernel) rfl ⟨by decide, by decide⟩ rfl (Nat.le_of_ble_eq_true rfl) dL_law_174 ⟨by show _ ≤ 601024; omega, by show _ ≤ 7293034; omega⟩ (fun v M1 H locs hq hP hS _ => ?_)
  obtain ⟨k9, rfl⟩ := vL_put (nn := nn) hq
  have h28 : ∀ q, q = 28 ∨ q = 29 ∨ q = 30 → M1 q = M q := kL28_put hI hq
  have hI1 : ∀ g, g < 2 → MI M1 g (nn g) := fun g hg2 => by have := hI.mi g hg2; unfold MI at this ⊢; rw [h28 29 (by omega)]; unfold aM at this ⊢; rw [h28 30 (by omega)]; exact this
  refine lv_istore hx hb dL_law_177 hl (by decide) rfl (fun ls hl => ?_)
  have hl : lv_has ls 8 [(5, .int (ji k9)), (4, .int (ji ((i:Int)))), (0, .ref b), (1, .ref (E.2.1 0)), (2, .ref (E.2.1 28)), (3, .ref (E.2.1 35))] := hl
  refine lv_aload_n hx hb dL_law_179 rfl (lv_at hl 4 rfl) ?_
  refine lv_aload_n hx hb dL_law_180 rfl (lv_at hl 2 rfl) ?_
  refine lv_iload hx hb dL_law_181 (lv_at hl 1 rfl) ?_
  refine j_iconst hx hb dL_law_183 ?_
  refine j_iadd hx hb dL_law_184 ?_
  refine j_sld (n := i + 1) hx hb hX hbl hbA hS (by omega) hL (by omega) dL_law_185 ?_
  refine lv_aload_n hx hb dL_law_186 rfl (lv_at hl 2 rfl) ?_
  refine lv_iload hx hb dL_law_187 (lv_at hl 1 rfl) ?_
  refine j_iconst hx hb dL_law_189 ?_
  refine j_iadd hx hb dL_law_190 ?_
  refine j_sld (n := i + 2) hx hb hX hbl hbA hS (by omega) hL (by omega) dL_law_191 ?_
  refine lv_aload_n hx hb dL_law_192 rfl (lv_at hl 2 rfl) ?_
  refine lv_iload hx hb dL_law_193 (lv_at hl 1 rfl) ?_
  refine j_iconst hx hb dL_law_195 ?_
  refine j_iadd hx hb dL_law_196 ?_
  refine j_sld (n := i + 3) hx hb hX hbl hbA hS (by omega) hL (by omega) dL_law_197 ?_
  refine lv_aload_n hx hb dL_law_198 rfl (lv_at hl 2 rfl) ?_
  refine lv_iload hx hb dL_law_199 (lv_at hl 1 rfl) ?_
  refine j_iconst hx hb dL_law_201 ?_
  refine j_iadd hx hb dL_law_202 ?_
  refine j_sld (n := i + 4) hx hb hX hbl hbA hS (by omega) hL (by omega) dL_law_203 ?_
  refine mm_V (As := [.int (ji (xz xs (i + 1))), .int (ji (xz xs (i + 2))), .int (ji (xz xs (i + 3))), .int (ji (xz xs (i + 4)))]) (rest := []) hx hb hml hown hg hl hK hP hS (by omega) (sh_M E _) rfl (kM_put l E hJ M1 (xz xs (i + 1)) (xz xs (i + 2)) (xz xs (i + 3)) (xz xs (i + 4)) (xz_b xs _) (xz_b xs _) (xz_b xs _) (xz_b xs _) nn hI1) wd510 wd511 wd512 wd5 wd513 ⟨rfl, rfl⟩ (n := 4) (by decide +kernel) rfl ⟨by decide, by decide⟩ rfl (Nat.le_of_ble_eq_true rfl) dL_law_204 ⟨by show _ ≤ 601024; omega, by show _ ≤ 7293034; omega⟩ (fun v M2 H locs hq2 hP hS => ?_)
  obtain ⟨k8, z9, hk8, rfl, hz9, hkc, hk12, h35, nn2, hI2⟩ := it_put hI hq hq2
  have hkk : ji k9 = ji k8 := by
    have h9 := Option.some.inj hk8
    injection h9
  refine lv_istore hx hb dL_law_207 hl (by decide) rfl (fun ls hl => ?_)
  have hl : lv_has ls 8 [(6, .int (ji z9)), (5, .int (ji k9)), (4, .int (ji ((i:Int)))), (0, .ref b), (1, .ref (E.2.1 0)), (2, .ref (E.2.1 28)), (3, .ref (E.2.1 35))] := hl
  refine lv_aload_n hx hb dL_law_209 rfl (lv_at hl 5 rfl) ?_
  rw [hkk] at hl
  refine mm_V (As := []) (rest := []) hx hb hml hown hg hl hK hP hS (by omega) (sh_M E _) rfl (kM_thrown l E hJ M2) wd499 wd500 wd501 wd5 wd502 ⟨rfl, rfl⟩ (n := 0) (by decide +kernel) rfl ⟨by decide, by decide⟩ rfl (Nat.le_of_ble_eq_true rfl) dL_law_210 ⟨by show _ ≤ 601024; omega, by show _ ≤ 7293034; omega⟩ (fun v M3 H locs hq3 hP hS => ?_)
  obtain ⟨rfl, hM3⟩ := hq3
  rw [hM3] at hP
  refine lv_iload hx hb dL_law_213 (lv_at hl 1 rfl) ?_
  refine j_icmp_eq hx hb (by rw [hk12]; omega) (by omega) dL_law_215 rfl (fun b1 => ?_) (fun b1 => ?_)
  · refine lv_iload hx hb dL_law_220 (lv_at hl 1 rfl) ?_
    refine j_if_ne hx hb (by omega) dL_law_222 rfl (fun b2 => ?_) (fun b2 => ?_)
    · refine lv_goto hx hb dL_law_237 rfl ?_
      exact next M2 nn2 H locs _ _ ls hI2 (by omega) (by omega) hP hS (lv_sub hl [2, 3, 4, 5, 6] rfl)
    · refine lv_aload_n hx hb dL_law_225 rfl (lv_at hl 6 rfl) ?_
      refine j_iconst hx hb dL_law_226 ?_
      refine m_lald (n := 0) hx hb hK hP (by omega) (sh_35 E _) rfl (by omega) (by decide) dL_law_227 ?_
      refine lv_iload hx hb dL_law_228 (lv_at hl 0 rfl) ?_
      refine j_i2l hx hb hz9 dL_law_230 ?_
      refine j_lc_eq hx hb (by rw [h35 b2]; omega) (by omega) dL_law_231 dL_law_232 rfl (fun b3 => ?_) (fun b3 => ?_)
      · refine lv_goto hx hb dL_law_237 rfl ?_
        exact next M2 nn2 H locs _ _ ls hI2 (by omega) (by omega) hP hS (lv_sub hl [2, 3, 4, 5, 6] rfl)
      · exact absurd (h35 b2) b3
  · exact absurd hk12 b1

set_option maxRecDepth 100000 in
set_option maxHeartbeats 4000000 in
theorem lt_about {p : Program} {l : Launch} {e : Env} {s : State} {m : MethodId} {below : List Frame} {meth : Method} {c : Code} {b L : Nat} {xs : Nat → Int32} {E : En} {Q : State → Prop} (C : lwC p l s m meth c b L xs E) (i : Nat) (hi : i + 6 ≤ L) (M : Me) (nn : Nat → Nat) (hI : Iv M nn) (H : Heap) (locs : List Loc) (cells slots : Nat) (ls : Array Slot) (hcl : cells ≤ 100 + i) (hsl : slots ≤ 2000 + 6 * i) (hP : wP E M H) (hS : va_S (wA E) s.heap H locs) (hl : lv_has ls 8 [(4, .int (ji (i : Int))), (0, .ref b), (1, .ref (E.2.1 0)), (2, .ref (E.2.1 28)), (3, .ref (E.2.1 35))])
    (next : ∀ (M : Me) (nn : Nat → Nat) (H : Heap) (locs : List Loc) (cells slots : Nat) (ls : Array Slot), Iv M nn → cells ≤ 100 + (i + 6) → slots ≤ 2000 + 6 * (i + 6) → wP E M H → va_S (wA E) s.heap H locs → lv_has ls 8 [(4, .int (ji (i : Int))), (0, .ref b), (1, .ref (E.2.1 0)), (2, .ref (E.2.1 28)), (3, .ref (E.2.1 35))] → W p l e room_1 s m #[Value.ref b] below meth c H locs cells slots Q (F0 m 846 ls [])) : W p l e room_1 s m #[Value.ref b] below meth c H locs cells slots Q (F0 m 240 ls []) := by
  obtain ⟨hx, hb, hml, hown, hg, hK, hnc, hth0, hX, hbl, hbA, hA, hL, hJ, hlf⟩ := C
  have hthA := fun {H locs} (hS : va_S (wA E) s.heap H locs) => thA hth0 hA hS
  refine lv_aload_n hx hb dL_law_240 rfl (lv_at hl 2 rfl) ?_
  refine lv_aload_n hx hb dL_law_241 rfl (lv_at hl 1 rfl) ?_
  refine lv_iload hx hb dL_law_242 (lv_at hl 0 rfl) ?_
  refine j_iconst hx hb dL_law_244 ?_
  refine j_iadd hx hb dL_law_245 ?_
  refine j_sld (n := i + 1) hx hb hX hbl hbA hS (by omega) hL (by omega) dL_law_246 ?_
  refine lv_aload_n hx hb dL_law_247 rfl (lv_at hl 1 rfl) ?_
  refine lv_iload hx hb dL_law_248 (lv_at hl 0 rfl) ?_
  refine j_iconst hx hb dL_law_250 ?_
  refine j_iadd hx hb dL_law_251 ?_
  refine j_sld (n := i + 2) hx hb hX hbl hbA hS (by omega) hL (by omega) dL_law_252 ?_
  refine lv_aload_n hx hb dL_law_253 rfl (lv_at hl 4 rfl) ?_
  refine ml_S (M0 := M) (As := [.ref (E.2.1 0), .int (ji (xz xs (i + 1))), .int (ji (xz xs (i + 2))), .ref (E.2.1 35)]) (rest := []) hx hb hml hown hg hl hK (hthA hS) hnc hP hS (kL_about l hlf E hJ M (xz xs (i + 1)) (xz xs (i + 2)) (xz_b xs _) (xz_b xs _) nn hI.ci) wd330 wd331 wd0 wd332 ⟨rfl, rfl⟩ (n := 4) (by decide +kernel) rfl ⟨by decide, by decide⟩ rfl (Nat.le_of_ble_eq_true rfl) dL_law_254 ⟨by show _ ≤ 601024; omega, by show _ ≤ 7293034; omega⟩ (fun v M1 H locs hq hP hS _ => ?_)
  obtain ⟨k9, rfl⟩ := vL_about (nn := nn) hq
  have h28 : ∀ q, q = 28 ∨ q = 29 ∨ q = 30 → M1 q = M q := kL28_about hI hq
  have hI1 : ∀ g, g < 2 → MI M1 g (nn g) := fun g hg2 => by have := hI.mi g hg2; unfold MI at this ⊢; rw [h28 29 (by omega)]; unfold aM at this ⊢; rw [h28 30 (by omega)]; exact this
  refine lv_istore hx hb dL_law_257 hl (by decide) rfl (fun ls hl => ?_)
  have hl : lv_has ls 8 [(5, .int (ji k9)), (4, .int (ji ((i:Int)))), (0, .ref b), (1, .ref (E.2.1 0)), (2, .ref (E.2.1 28)), (3, .ref (E.2.1 35))] := hl
  refine lv_aload_n hx hb dL_law_259 rfl (lv_at hl 4 rfl) ?_
  refine lv_aload_n hx hb dL_law_260 rfl (lv_at hl 2 rfl) ?_
  refine lv_iload hx hb dL_law_261 (lv_at hl 1 rfl) ?_
  refine j_iconst hx hb dL_law_263 ?_
  refine j_iadd hx hb dL_law_264 ?_
  refine j_sld (n := i + 1) hx hb hX hbl hbA hS (by omega) hL (by omega) dL_law_265 ?_
  refine lv_aload_n hx hb dL_law_266 rfl (lv_at hl 2 rfl) ?_
  refine lv_iload hx hb dL_law_267 (lv_at hl 1 rfl) ?_
  refine j_iconst hx hb dL_law_269 ?_
  refine j_iadd hx hb dL_law_270 ?_
  refine j_sld (n := i + 2) hx hb hX hbl hbA hS (by omega) hL (by omega) dL_law_271 ?_
  refine mm_V (As := [.int (ji (xz xs (i + 1))), .int (ji (xz xs (i + 2)))]) (rest := []) hx hb hml hown hg hl hK hP hS (by omega) (sh_M E _) rfl (kM_about l E hJ M1 (xz xs (i + 1)) (xz xs (i + 2)) (xz_b xs _) (xz_b xs _) nn hI1) wd514 wd515 wd516 wd5 wd517 ⟨rfl, rfl⟩ (n := 2) (by decide +kernel) rfl ⟨by decide, by decide⟩ rfl (Nat.le_of_ble_eq_true rfl) dL_law_272 ⟨by show _ ≤ 601024; omega, by show _ ≤ 7293034; omega⟩ (fun v M2 H locs hq2 hP hS => ?_)
  obtain ⟨k8, z9, hk8, rfl, hz9, hkc, hk12, h35, nn2, hI2⟩ := it_about hI hq hq2
  have hkk : ji k9 = ji k8 := by
    have h9 := Option.some.inj hk8
    injection h9
  refine lv_istore hx hb dL_law_275 hl (by decide) rfl (fun ls hl => ?_)
  have hl : lv_has ls 8 [(6, .int (ji z9)), (5, .int (ji k9)), (4, .int (ji ((i:Int)))), (0, .ref b), (1, .ref (E.2.1 0)), (2, .ref (E.2.1 28)), (3, .ref (E.2.1 35))] := hl
  refine lv_aload_n hx hb dL_law_277 rfl (lv_at hl 5 rfl) ?_
  rw [hkk] at hl
  refine mm_V (As := []) (rest := []) hx hb hml hown hg hl hK hP hS (by omega) (sh_M E _) rfl (kM_thrown l E hJ M2) wd499 wd500 wd501 wd5 wd502 ⟨rfl, rfl⟩ (n := 0) (by decide +kernel) rfl ⟨by decide, by decide⟩ rfl (Nat.le_of_ble_eq_true rfl) dL_law_278 ⟨by show _ ≤ 601024; omega, by show _ ≤ 7293034; omega⟩ (fun v M3 H locs hq3 hP hS => ?_)
  obtain ⟨rfl, hM3⟩ := hq3
  rw [hM3] at hP
  refine lv_iload hx hb dL_law_281 (lv_at hl 1 rfl) ?_
  refine j_icmp_eq hx hb (by rw [hk12]; omega) (by omega) dL_law_283 rfl (fun b1 => ?_) (fun b1 => ?_)
  · refine lv_iload hx hb dL_law_288 (lv_at hl 1 rfl) ?_
    refine j_if_ne hx hb (by omega) dL_law_290 rfl (fun b2 => ?_) (fun b2 => ?_)
    · refine lv_goto hx hb dL_law_305 rfl ?_
      exact next M2 nn2 H locs _ _ ls hI2 (by omega) (by omega) hP hS (lv_sub hl [2, 3, 4, 5, 6] rfl)
    · refine lv_aload_n hx hb dL_law_293 rfl (lv_at hl 6 rfl) ?_
      refine j_iconst hx hb dL_law_294 ?_
      refine m_lald (n := 0) hx hb hK hP (by omega) (sh_35 E _) rfl (by omega) (by decide) dL_law_295 ?_
      refine lv_iload hx hb dL_law_296 (lv_at hl 0 rfl) ?_
      refine j_i2l hx hb hz9 dL_law_298 ?_
      refine j_lc_eq hx hb (by rw [h35 b2]; omega) (by omega) dL_law_299 dL_law_300 rfl (fun b3 => ?_) (fun b3 => ?_)
      · refine lv_goto hx hb dL_law_305 rfl ?_
        exact next M2 nn2 H locs _ _ ls hI2 (by omega) (by omega) hP hS (lv_sub hl [2, 3, 4, 5, 6] rfl)
      · exact absurd (h35 b2) b3
  · exact absurd hk12 b1

set_option maxRecDepth 100000 in
set_option maxHeartbeats 4000000 in
theorem lt_symbol {p : Program} {l : Launch} {e : Env} {s : State} {m : MethodId} {below : List Frame} {meth : Method} {c : Code} {b L : Nat} {xs : Nat → Int32} {E : En} {Q : State → Prop} (C : lwC p l s m meth c b L xs E) (i : Nat) (hi : i + 6 ≤ L) (M : Me) (nn : Nat → Nat) (hI : Iv M nn) (H : Heap) (locs : List Loc) (cells slots : Nat) (ls : Array Slot) (hcl : cells ≤ 100 + i) (hsl : slots ≤ 2000 + 6 * i) (hP : wP E M H) (hS : va_S (wA E) s.heap H locs) (hl : lv_has ls 8 [(4, .int (ji (i : Int))), (0, .ref b), (1, .ref (E.2.1 0)), (2, .ref (E.2.1 28)), (3, .ref (E.2.1 35))])
    (next : ∀ (M : Me) (nn : Nat → Nat) (H : Heap) (locs : List Loc) (cells slots : Nat) (ls : Array Slot), Iv M nn → cells ≤ 100 + (i + 6) → slots ≤ 2000 + 6 * (i + 6) → wP E M H → va_S (wA E) s.heap H locs → lv_has ls 8 [(4, .int (ji (i : Int))), (0, .ref b), (1, .ref (E.2.1 0)), (2, .ref (E.2.1 28)), (3, .ref (E.2.1 35))] → W p l e room_1 s m #[Value.ref b] below meth c H locs cells slots Q (F0 m 846 ls [])) : W p l e room_1 s m #[Value.ref b] below meth c H locs cells slots Q (F0 m 308 ls []) := by
  obtain ⟨hx, hb, hml, hown, hg, hK, hnc, hth0, hX, hbl, hbA, hA, hL, hJ, hlf⟩ := C
  have hthA := fun {H locs} (hS : va_S (wA E) s.heap H locs) => thA hth0 hA hS
  refine lv_aload_n hx hb dL_law_308 rfl (lv_at hl 2 rfl) ?_
  refine lv_aload_n hx hb dL_law_309 rfl (lv_at hl 1 rfl) ?_
  refine lv_iload hx hb dL_law_310 (lv_at hl 0 rfl) ?_
  refine j_iconst hx hb dL_law_312 ?_
  refine j_iadd hx hb dL_law_313 ?_
  refine j_sld (n := i + 1) hx hb hX hbl hbA hS (by omega) hL (by omega) dL_law_314 ?_
  refine lv_aload_n hx hb dL_law_315 rfl (lv_at hl 1 rfl) ?_
  refine lv_iload hx hb dL_law_316 (lv_at hl 0 rfl) ?_
  refine j_iconst hx hb dL_law_318 ?_
  refine j_iadd hx hb dL_law_319 ?_
  refine j_sld (n := i + 2) hx hb hX hbl hbA hS (by omega) hL (by omega) dL_law_320 ?_
  refine lv_aload_n hx hb dL_law_321 rfl (lv_at hl 1 rfl) ?_
  refine lv_iload hx hb dL_law_322 (lv_at hl 0 rfl) ?_
  refine j_iconst hx hb dL_law_324 ?_
  refine j_iadd hx hb dL_law_325 ?_
  refine j_sld (n := i + 3) hx hb hX hbl hbA hS (by omega) hL (by omega) dL_law_326 ?_
  refine lv_aload_n hx hb dL_law_327 rfl (lv_at hl 4 rfl) ?_
  refine ml_S (M0 := M) (As := [.ref (E.2.1 0), .int (ji (xz xs (i + 1))), .int (ji (xz xs (i + 2))), .int (ji (xz xs (i + 3))), .ref (E.2.1 35)]) (rest := []) hx hb hml hown hg hl hK (hthA hS) hnc hP hS (kL_symbol l hlf E hJ M (xz xs (i + 1)) (xz xs (i + 2)) (xz xs (i + 3)) (xz_b xs _) (xz_b xs _) (xz_b xs _)) wd338 wd339 wd0 wd340 ⟨rfl, rfl⟩ (n := 5) (by decide +kernel) rfl ⟨by decide, by decide⟩ rfl (Nat.le_of_ble_eq_true rfl) dL_law_328 ⟨by show _ ≤ 601024; omega, by show _ ≤ 7293034; omega⟩ (fun v M1 H locs hq hP hS _ => ?_)
  obtain ⟨k9, rfl⟩ := vL_symbol (nn := nn) hq
  have h28 : ∀ q, q = 28 ∨ q = 29 ∨ q = 30 → M1 q = M q := kL28_symbol hI hq
  have hI1 : ∀ g, g < 2 → MI M1 g (nn g) := fun g hg2 => by have := hI.mi g hg2; unfold MI at this ⊢; rw [h28 29 (by omega)]; unfold aM at this ⊢; rw [h28 30 (by omega)]; exact this
  refine lv_istore hx hb dL_law_331 hl (by decide) rfl (fun ls hl => ?_)
  have hl : lv_has ls 8 [(5, .int (ji k9)), (4, .int (ji ((i:Int)))), (0, .ref b), (1, .ref (E.2.1 0)), (2, .ref (E.2.1 28)), (3, .ref (E.2.1 35))] := hl
  refine lv_aload_n hx hb dL_law_333 rfl (lv_at hl 4 rfl) ?_
  refine lv_aload_n hx hb dL_law_334 rfl (lv_at hl 2 rfl) ?_
  refine lv_iload hx hb dL_law_335 (lv_at hl 1 rfl) ?_
  refine j_iconst hx hb dL_law_337 ?_
  refine j_iadd hx hb dL_law_338 ?_
  refine j_sld (n := i + 1) hx hb hX hbl hbA hS (by omega) hL (by omega) dL_law_339 ?_
  refine lv_aload_n hx hb dL_law_340 rfl (lv_at hl 2 rfl) ?_
  refine lv_iload hx hb dL_law_341 (lv_at hl 1 rfl) ?_
  refine j_iconst hx hb dL_law_343 ?_
  refine j_iadd hx hb dL_law_344 ?_
  refine j_sld (n := i + 2) hx hb hX hbl hbA hS (by omega) hL (by omega) dL_law_345 ?_
  refine lv_aload_n hx hb dL_law_346 rfl (lv_at hl 2 rfl) ?_
  refine lv_iload hx hb dL_law_347 (lv_at hl 1 rfl) ?_
  refine j_iconst hx hb dL_law_349 ?_
  refine j_iadd hx hb dL_law_350 ?_
  refine j_sld (n := i + 3) hx hb hX hbl hbA hS (by omega) hL (by omega) dL_law_351 ?_
  refine mm_V (As := [.int (ji (xz xs (i + 1))), .int (ji (xz xs (i + 2))), .int (ji (xz xs (i + 3)))]) (rest := []) hx hb hml hown hg hl hK hP hS (by omega) (sh_M E _) rfl (kM_symbol l E hJ M1 (xz xs (i + 1)) (xz xs (i + 2)) (xz xs (i + 3)) (xz_b xs _) (xz_b xs _) (xz_b xs _)) wd549 wd550 wd551 wd5 wd552 ⟨rfl, rfl⟩ (n := 3) (by decide +kernel) rfl ⟨by decide, by decide⟩ rfl (Nat.le_of_ble_eq_true rfl) dL_law_352 ⟨by show _ ≤ 601024; omega, by show _ ≤ 7293034; omega⟩ (fun v M2 H locs hq2 hP hS => ?_)
  obtain ⟨k8, z9, hk8, rfl, hz9, hkc, hk12, h35, nn2, hI2⟩ := it_symbol (xz_b xs _) (xz_b xs _) hI hq hq2
  have hkk : ji k9 = ji k8 := by
    have h9 := Option.some.inj hk8
    injection h9
  refine lv_istore hx hb dL_law_355 hl (by decide) rfl (fun ls hl => ?_)
  have hl : lv_has ls 8 [(6, .int (ji z9)), (5, .int (ji k9)), (4, .int (ji ((i:Int)))), (0, .ref b), (1, .ref (E.2.1 0)), (2, .ref (E.2.1 28)), (3, .ref (E.2.1 35))] := hl
  refine lv_aload_n hx hb dL_law_357 rfl (lv_at hl 5 rfl) ?_
  rw [hkk] at hl
  refine mm_V (As := []) (rest := []) hx hb hml hown hg hl hK hP hS (by omega) (sh_M E _) rfl (kM_thrown l E hJ M2) wd499 wd500 wd501 wd5 wd502 ⟨rfl, rfl⟩ (n := 0) (by decide +kernel) rfl ⟨by decide, by decide⟩ rfl (Nat.le_of_ble_eq_true rfl) dL_law_358 ⟨by show _ ≤ 601024; omega, by show _ ≤ 7293034; omega⟩ (fun v M3 H locs hq3 hP hS => ?_)
  obtain ⟨rfl, hM3⟩ := hq3
  rw [hM3] at hP
  refine lv_iload hx hb dL_law_361 (lv_at hl 1 rfl) ?_
  refine j_icmp_eq hx hb (by rw [hk12]; omega) (by omega) dL_law_363 rfl (fun b1 => ?_) (fun b1 => ?_)
  · refine lv_iload hx hb dL_law_368 (lv_at hl 1 rfl) ?_
    refine j_if_ne hx hb (by omega) dL_law_370 rfl (fun b2 => ?_) (fun b2 => ?_)
    · refine lv_goto hx hb dL_law_385 rfl ?_
      exact next M2 nn2 H locs _ _ ls hI2 (by omega) (by omega) hP hS (lv_sub hl [2, 3, 4, 5, 6] rfl)
    · refine lv_aload_n hx hb dL_law_373 rfl (lv_at hl 6 rfl) ?_
      refine j_iconst hx hb dL_law_374 ?_
      refine m_lald (n := 0) hx hb hK hP (by omega) (sh_35 E _) rfl (by omega) (by decide) dL_law_375 ?_
      refine lv_iload hx hb dL_law_376 (lv_at hl 0 rfl) ?_
      refine j_i2l hx hb hz9 dL_law_378 ?_
      refine j_lc_eq hx hb (by rw [h35 b2]; omega) (by omega) dL_law_379 dL_law_380 rfl (fun b3 => ?_) (fun b3 => ?_)
      · refine lv_goto hx hb dL_law_385 rfl ?_
        exact next M2 nn2 H locs _ _ ls hI2 (by omega) (by omega) hP hS (lv_sub hl [2, 3, 4, 5, 6] rfl)
      · exact absurd (h35 b2) b3
  · exact absurd hk12 b1

set_option maxRecDepth 100000 in
set_option maxHeartbeats 4000000 in
theorem lt_hasse {p : Program} {l : Launch} {e : Env} {s : State} {m : MethodId} {below : List Frame} {meth : Method} {c : Code} {b L : Nat} {xs : Nat → Int32} {E : En} {Q : State → Prop} (C : lwC p l s m meth c b L xs E) (i : Nat) (hi : i + 6 ≤ L) (M : Me) (nn : Nat → Nat) (hI : Iv M nn) (H : Heap) (locs : List Loc) (cells slots : Nat) (ls : Array Slot) (hcl : cells ≤ 100 + i) (hsl : slots ≤ 2000 + 6 * i) (hP : wP E M H) (hS : va_S (wA E) s.heap H locs) (hl : lv_has ls 8 [(4, .int (ji (i : Int))), (0, .ref b), (1, .ref (E.2.1 0)), (2, .ref (E.2.1 28)), (3, .ref (E.2.1 35))])
    (next : ∀ (M : Me) (nn : Nat → Nat) (H : Heap) (locs : List Loc) (cells slots : Nat) (ls : Array Slot), Iv M nn → cells ≤ 100 + (i + 6) → slots ≤ 2000 + 6 * (i + 6) → wP E M H → va_S (wA E) s.heap H locs → lv_has ls 8 [(4, .int (ji (i : Int))), (0, .ref b), (1, .ref (E.2.1 0)), (2, .ref (E.2.1 28)), (3, .ref (E.2.1 35))] → W p l e room_1 s m #[Value.ref b] below meth c H locs cells slots Q (F0 m 846 ls [])) : W p l e room_1 s m #[Value.ref b] below meth c H locs cells slots Q (F0 m 388 ls []) := by
  obtain ⟨hx, hb, hml, hown, hg, hK, hnc, hth0, hX, hbl, hbA, hA, hL, hJ, hlf⟩ := C
  have hthA := fun {H locs} (hS : va_S (wA E) s.heap H locs) => thA hth0 hA hS
  refine lv_aload_n hx hb dL_law_388 rfl (lv_at hl 2 rfl) ?_
  refine lv_aload_n hx hb dL_law_389 rfl (lv_at hl 1 rfl) ?_
  refine lv_iload hx hb dL_law_390 (lv_at hl 0 rfl) ?_
  refine j_iconst hx hb dL_law_392 ?_
  refine j_iadd hx hb dL_law_393 ?_
  refine j_sld (n := i + 1) hx hb hX hbl hbA hS (by omega) hL (by omega) dL_law_394 ?_
  refine lv_aload_n hx hb dL_law_395 rfl (lv_at hl 1 rfl) ?_
  refine lv_iload hx hb dL_law_396 (lv_at hl 0 rfl) ?_
  refine j_iconst hx hb dL_law_398 ?_
  refine j_iadd hx hb dL_law_399 ?_
  refine j_sld (n := i + 2) hx hb hX hbl hbA hS (by omega) hL (by omega) dL_law_400 ?_
  refine lv_aload_n hx hb dL_law_401 rfl (lv_at hl 4 rfl) ?_
  refine ml_S (M0 := M) (As := [.ref (E.2.1 0), .int (ji (xz xs (i + 1))), .int (ji (xz xs (i + 2))), .ref (E.2.1 35)]) (rest := []) hx hb hml hown hg hl hK (hthA hS) hnc hP hS (kL_hasse l hlf E hJ M (xz xs (i + 1)) (xz xs (i + 2)) (xz_b xs _) (xz_b xs _) nn hI.ci) wd371 wd372 wd0 wd373 ⟨rfl, rfl⟩ (n := 4) (by decide +kernel) rfl ⟨by decide, by decide⟩ rfl (Nat.le_of_ble_eq_true rfl) dL_law_402 ⟨by show _ ≤ 601024; omega, by show _ ≤ 7293034; omega⟩ (fun v M1 H locs hq hP hS _ => ?_)
  obtain ⟨k9, rfl⟩ := vL_hasse (nn := nn) hq
  have h28 : ∀ q, q = 28 ∨ q = 29 ∨ q = 30 → M1 q = M q := kL28_hasse hI hq
  have hI1 : ∀ g, g < 2 → MI M1 g (nn g) := fun g hg2 => by have := hI.mi g hg2; unfold MI at this ⊢; rw [h28 29 (by omega)]; unfold aM at this ⊢; rw [h28 30 (by omega)]; exact this
  refine lv_istore hx hb dL_law_405 hl (by decide) rfl (fun ls hl => ?_)
  have hl : lv_has ls 8 [(5, .int (ji k9)), (4, .int (ji ((i:Int)))), (0, .ref b), (1, .ref (E.2.1 0)), (2, .ref (E.2.1 28)), (3, .ref (E.2.1 35))] := hl
  refine lv_aload_n hx hb dL_law_407 rfl (lv_at hl 4 rfl) ?_
  refine lv_aload_n hx hb dL_law_408 rfl (lv_at hl 2 rfl) ?_
  refine lv_iload hx hb dL_law_409 (lv_at hl 1 rfl) ?_
  refine j_iconst hx hb dL_law_411 ?_
  refine j_iadd hx hb dL_law_412 ?_
  refine j_sld (n := i + 1) hx hb hX hbl hbA hS (by omega) hL (by omega) dL_law_413 ?_
  refine lv_aload_n hx hb dL_law_414 rfl (lv_at hl 2 rfl) ?_
  refine lv_iload hx hb dL_law_415 (lv_at hl 1 rfl) ?_
  refine j_iconst hx hb dL_law_417 ?_
  refine j_iadd hx hb dL_law_418 ?_
  refine j_sld (n := i + 2) hx hb hX hbl hbA hS (by omega) hL (by omega) dL_law_419 ?_
  refine mm_V (As := [.int (ji (xz xs (i + 1))), .int (ji (xz xs (i + 2)))]) (rest := []) hx hb hml hown hg hl hK hP hS (by omega) (sh_M E _) rfl (kM_hasse l E hJ M1 (xz xs (i + 1)) (xz xs (i + 2)) (xz_b xs _) (xz_b xs _) nn hI1) wd572 wd573 wd574 wd5 wd575 ⟨rfl, rfl⟩ (n := 2) (by decide +kernel) rfl ⟨by decide, by decide⟩ rfl (Nat.le_of_ble_eq_true rfl) dL_law_420 ⟨by show _ ≤ 601024; omega, by show _ ≤ 7293034; omega⟩ (fun v M2 H locs hq2 hP hS => ?_)
  obtain ⟨k8, z9, hk8, rfl, hz9, hkc, hk12, h35, nn2, hI2⟩ := it_hasse hI hq hq2
  have hkk : ji k9 = ji k8 := by
    have h9 := Option.some.inj hk8
    injection h9
  refine lv_istore hx hb dL_law_423 hl (by decide) rfl (fun ls hl => ?_)
  have hl : lv_has ls 8 [(6, .int (ji z9)), (5, .int (ji k9)), (4, .int (ji ((i:Int)))), (0, .ref b), (1, .ref (E.2.1 0)), (2, .ref (E.2.1 28)), (3, .ref (E.2.1 35))] := hl
  refine lv_aload_n hx hb dL_law_425 rfl (lv_at hl 5 rfl) ?_
  rw [hkk] at hl
  refine mm_V (As := []) (rest := []) hx hb hml hown hg hl hK hP hS (by omega) (sh_M E _) rfl (kM_thrown l E hJ M2) wd499 wd500 wd501 wd5 wd502 ⟨rfl, rfl⟩ (n := 0) (by decide +kernel) rfl ⟨by decide, by decide⟩ rfl (Nat.le_of_ble_eq_true rfl) dL_law_426 ⟨by show _ ≤ 601024; omega, by show _ ≤ 7293034; omega⟩ (fun v M3 H locs hq3 hP hS => ?_)
  obtain ⟨rfl, hM3⟩ := hq3
  rw [hM3] at hP
  refine lv_iload hx hb dL_law_429 (lv_at hl 1 rfl) ?_
  refine j_icmp_eq hx hb (by rw [hk12]; omega) (by omega) dL_law_431 rfl (fun b1 => ?_) (fun b1 => ?_)
  · refine lv_iload hx hb dL_law_436 (lv_at hl 1 rfl) ?_
    refine j_if_ne hx hb (by omega) dL_law_438 rfl (fun b2 => ?_) (fun b2 => ?_)
    · refine lv_goto hx hb dL_law_453 rfl ?_
      exact next M2 nn2 H locs _ _ ls hI2 (by omega) (by omega) hP hS (lv_sub hl [2, 3, 4, 5, 6] rfl)
    · refine lv_aload_n hx hb dL_law_441 rfl (lv_at hl 6 rfl) ?_
      refine j_iconst hx hb dL_law_442 ?_
      refine m_lald (n := 0) hx hb hK hP (by omega) (sh_35 E _) rfl (by omega) (by decide) dL_law_443 ?_
      refine lv_iload hx hb dL_law_444 (lv_at hl 0 rfl) ?_
      refine j_i2l hx hb hz9 dL_law_446 ?_
      refine j_lc_eq hx hb (by rw [h35 b2]; omega) (by omega) dL_law_447 dL_law_448 rfl (fun b3 => ?_) (fun b3 => ?_)
      · refine lv_goto hx hb dL_law_453 rfl ?_
        exact next M2 nn2 H locs _ _ ls hI2 (by omega) (by omega) hP hS (lv_sub hl [2, 3, 4, 5, 6] rfl)
      · exact absurd (h35 b2) b3
  · exact absurd hk12 b1

set_option maxRecDepth 100000 in
set_option maxHeartbeats 4000000 in
theorem lt_isotropicAt {p : Program} {l : Launch} {e : Env} {s : State} {m : MethodId} {below : List Frame} {meth : Method} {c : Code} {b L : Nat} {xs : Nat → Int32} {E : En} {Q : State → Prop} (C : lwC p l s m meth c b L xs E) (i : Nat) (hi : i + 6 ≤ L) (M : Me) (nn : Nat → Nat) (hI : Iv M nn) (H : Heap) (locs : List Loc) (cells slots : Nat) (ls : Array Slot) (hcl : cells ≤ 100 + i) (hsl : slots ≤ 2000 + 6 * i) (hP : wP E M H) (hS : va_S (wA E) s.heap H locs) (hl : lv_has ls 8 [(4, .int (ji (i : Int))), (0, .ref b), (1, .ref (E.2.1 0)), (2, .ref (E.2.1 28)), (3, .ref (E.2.1 35))])
    (next : ∀ (M : Me) (nn : Nat → Nat) (H : Heap) (locs : List Loc) (cells slots : Nat) (ls : Array Slot), Iv M nn → cells ≤ 100 + (i + 6) → slots ≤ 2000 + 6 * (i + 6) → wP E M H → va_S (wA E) s.heap H locs → lv_has ls 8 [(4, .int (ji (i : Int))), (0, .ref b), (1, .ref (E.2.1 0)), (2, .ref (E.2.1 28)), (3, .ref (E.2.1 35))] → W p l e room_1 s m #[Value.ref b] below meth c H locs cells slots Q (F0 m 846 ls [])) : W p l e room_1 s m #[Value.ref b] below meth c H locs cells slots Q (F0 m 456 ls []) := by
  obtain ⟨hx, hb, hml, hown, hg, hK, hnc, hth0, hX, hbl, hbA, hA, hL, hJ, hlf⟩ := C
  have hthA := fun {H locs} (hS : va_S (wA E) s.heap H locs) => thA hth0 hA hS
  refine lv_aload_n hx hb dL_law_456 rfl (lv_at hl 2 rfl) ?_
  refine lv_aload_n hx hb dL_law_457 rfl (lv_at hl 1 rfl) ?_
  refine lv_iload hx hb dL_law_458 (lv_at hl 0 rfl) ?_
  refine j_iconst hx hb dL_law_460 ?_
  refine j_iadd hx hb dL_law_461 ?_
  refine j_sld (n := i + 1) hx hb hX hbl hbA hS (by omega) hL (by omega) dL_law_462 ?_
  refine lv_aload_n hx hb dL_law_463 rfl (lv_at hl 1 rfl) ?_
  refine lv_iload hx hb dL_law_464 (lv_at hl 0 rfl) ?_
  refine j_iconst hx hb dL_law_466 ?_
  refine j_iadd hx hb dL_law_467 ?_
  refine j_sld (n := i + 2) hx hb hX hbl hbA hS (by omega) hL (by omega) dL_law_468 ?_
  refine lv_aload_n hx hb dL_law_469 rfl (lv_at hl 4 rfl) ?_
  refine ml_S (M0 := M) (As := [.ref (E.2.1 0), .int (ji (xz xs (i + 1))), .int (ji (xz xs (i + 2))), .ref (E.2.1 35)]) (rest := []) hx hb hml hown hg hl hK (hthA hS) hnc hP hS (kL_isotropicAt l hlf E hJ M (xz xs (i + 1)) (xz xs (i + 2)) (xz_b xs _) (xz_b xs _) nn hI.ci) wd378 wd379 wd0 wd380 ⟨rfl, rfl⟩ (n := 4) (by decide +kernel) rfl ⟨by decide, by decide⟩ rfl (Nat.le_of_ble_eq_true rfl) dL_law_470 ⟨by show _ ≤ 601024; omega, by show _ ≤ 7293034; omega⟩ (fun v M1 H locs hq hP hS _ => ?_)
  obtain ⟨k9, rfl⟩ := vL_isotropicAt (nn := nn) hq
  have h28 : ∀ q, q = 28 ∨ q = 29 ∨ q = 30 → M1 q = M q := kL28_isotropicAt hI hq
  have hI1 : ∀ g, g < 2 → MI M1 g (nn g) := fun g hg2 => by have := hI.mi g hg2; unfold MI at this ⊢; rw [h28 29 (by omega)]; unfold aM at this ⊢; rw [h28 30 (by omega)]; exact this
  refine lv_istore hx hb dL_law_473 hl (by decide) rfl (fun ls hl => ?_)
  have hl : lv_has ls 8 [(5, .int (ji k9)), (4, .int (ji ((i:Int)))), (0, .ref b), (1, .ref (E.2.1 0)), (2, .ref (E.2.1 28)), (3, .ref (E.2.1 35))] := hl
  refine lv_aload_n hx hb dL_law_475 rfl (lv_at hl 4 rfl) ?_
  refine lv_aload_n hx hb dL_law_476 rfl (lv_at hl 2 rfl) ?_
  refine lv_iload hx hb dL_law_477 (lv_at hl 1 rfl) ?_
  refine j_iconst hx hb dL_law_479 ?_
  refine j_iadd hx hb dL_law_480 ?_
  refine j_sld (n := i + 1) hx hb hX hbl hbA hS (by omega) hL (by omega) dL_law_481 ?_
  refine lv_aload_n hx hb dL_law_482 rfl (lv_at hl 2 rfl) ?_
  refine lv_iload hx hb dL_law_483 (lv_at hl 1 rfl) ?_
  refine j_iconst hx hb dL_law_485 ?_
  refine j_iadd hx hb dL_law_486 ?_
  refine j_sld (n := i + 2) hx hb hX hbl hbA hS (by omega) hL (by omega) dL_law_487 ?_
  refine mm_V (As := [.int (ji (xz xs (i + 1))), .int (ji (xz xs (i + 2)))]) (rest := []) hx hb hml hown hg hl hK hP hS (by omega) (sh_M E _) rfl (kM_isotropicAt l E hJ M1 (xz xs (i + 1)) (xz xs (i + 2)) (xz_b xs _) (xz_b xs _) nn hI1) wd580 wd581 wd582 wd5 wd583 ⟨rfl, rfl⟩ (n := 2) (by decide +kernel) rfl ⟨by decide, by decide⟩ rfl (Nat.le_of_ble_eq_true rfl) dL_law_488 ⟨by show _ ≤ 601024; omega, by show _ ≤ 7293034; omega⟩ (fun v M2 H locs hq2 hP hS => ?_)
  obtain ⟨k8, z9, hk8, rfl, hkc, hk12, h35, nn2, hI2⟩ := it_isotropicAt hI hq hq2
  have hkk : ji k9 = ji k8 := by
    have h9 := Option.some.inj hk8
    injection h9
  refine lv_istore hx hb dL_law_491 hl (by decide) rfl (fun ls hl => ?_)
  have hl : lv_has ls 8 [(6, .int (ji (bi z9))), (5, .int (ji k9)), (4, .int (ji ((i:Int)))), (0, .ref b), (1, .ref (E.2.1 0)), (2, .ref (E.2.1 28)), (3, .ref (E.2.1 35))] := hl
  refine lv_aload_n hx hb dL_law_493 rfl (lv_at hl 5 rfl) ?_
  rw [hkk] at hl
  refine mm_V (As := []) (rest := []) hx hb hml hown hg hl hK hP hS (by omega) (sh_M E _) rfl (kM_thrown l E hJ M2) wd499 wd500 wd501 wd5 wd502 ⟨rfl, rfl⟩ (n := 0) (by decide +kernel) rfl ⟨by decide, by decide⟩ rfl (Nat.le_of_ble_eq_true rfl) dL_law_494 ⟨by show _ ≤ 601024; omega, by show _ ≤ 7293034; omega⟩ (fun v M3 H locs hq3 hP hS => ?_)
  obtain ⟨rfl, hM3⟩ := hq3
  rw [hM3] at hP
  refine lv_iload hx hb dL_law_497 (lv_at hl 1 rfl) ?_
  refine j_icmp_eq hx hb (by rw [hk12]; omega) (by omega) dL_law_499 rfl (fun b1 => ?_) (fun b1 => ?_)
  · refine lv_iload hx hb dL_law_504 (lv_at hl 1 rfl) ?_
    refine j_if_ne hx hb (by omega) dL_law_506 rfl (fun b2 => ?_) (fun b2 => ?_)
    · refine lv_goto hx hb dL_law_528 rfl ?_
      exact next M2 nn2 H locs _ _ ls hI2 (by omega) (by omega) hP hS (lv_sub hl [2, 3, 4, 5, 6] rfl)
    · refine lv_aload_n hx hb dL_law_509 rfl (lv_at hl 6 rfl) ?_
      refine j_iconst hx hb dL_law_510 ?_
      refine m_lald (n := 0) hx hb hK hP (by omega) (sh_35 E _) rfl (by omega) (by decide) dL_law_511 ?_
      refine lv_iload hx hb dL_law_512 (lv_at hl 0 rfl) ?_
      refine j_if_eq hx hb (bi_b32 _) dL_law_514 rfl (fun b4 => ?_) (fun b4 => ?_)
      · refine j_lconst0 hx hb dL_law_521 ?_
        refine j_lc_eq hx hb (by rw [h35 b2]; have := bi_b32 z9; omega) (by decide) dL_law_522 dL_law_523 rfl (fun b3 => ?_) (fun b3 => ?_)
        · refine lv_goto hx hb dL_law_528 rfl ?_
          exact next M2 nn2 H locs _ _ ls hI2 (by omega) (by omega) hP hS (lv_sub hl [2, 3, 4, 5, 6] rfl)
        · exact absurd ((h35 b2).trans b4) b3
      · refine j_lconst1 hx hb dL_law_517 ?_
        refine lv_goto hx hb dL_law_518 rfl ?_
        refine j_lc_eq hx hb (by rw [h35 b2]; have := bi_b32 z9; omega) (by decide) dL_law_522 dL_law_523 rfl (fun b3 => ?_) (fun b3 => ?_)
        · refine lv_goto hx hb dL_law_528 rfl ?_
          exact next M2 nn2 H locs _ _ ls hI2 (by omega) (by omega) hP hS (lv_sub hl [2, 3, 4, 5, 6] rfl)
        · exact absurd ((h35 b2).trans (bi_t (bi_ne b4))) b3
  · exact absurd hk12 b1

set_option maxRecDepth 100000 in
set_option maxHeartbeats 4000000 in
theorem lt_obstacle {p : Program} {l : Launch} {e : Env} {s : State} {m : MethodId} {below : List Frame} {meth : Method} {c : Code} {b L : Nat} {xs : Nat → Int32} {E : En} {Q : State → Prop} (C : lwC p l s m meth c b L xs E) (i : Nat) (hi : i + 6 ≤ L) (M : Me) (nn : Nat → Nat) (hI : Iv M nn) (H : Heap) (locs : List Loc) (cells slots : Nat) (ls : Array Slot) (hcl : cells ≤ 100 + i) (hsl : slots ≤ 2000 + 6 * i) (hP : wP E M H) (hS : va_S (wA E) s.heap H locs) (hl : lv_has ls 8 [(4, .int (ji (i : Int))), (0, .ref b), (1, .ref (E.2.1 0)), (2, .ref (E.2.1 28)), (3, .ref (E.2.1 35))])
    (next : ∀ (M : Me) (nn : Nat → Nat) (H : Heap) (locs : List Loc) (cells slots : Nat) (ls : Array Slot), Iv M nn → cells ≤ 100 + (i + 6) → slots ≤ 2000 + 6 * (i + 6) → wP E M H → va_S (wA E) s.heap H locs → lv_has ls 8 [(4, .int (ji (i : Int))), (0, .ref b), (1, .ref (E.2.1 0)), (2, .ref (E.2.1 28)), (3, .ref (E.2.1 35))] → W p l e room_1 s m #[Value.ref b] below meth c H locs cells slots Q (F0 m 846 ls [])) : W p l e room_1 s m #[Value.ref b] below meth c H locs cells slots Q (F0 m 531 ls []) := by
  obtain ⟨hx, hb, hml, hown, hg, hK, hnc, hth0, hX, hbl, hbA, hA, hL, hJ, hlf⟩ := C
  have hthA := fun {H locs} (hS : va_S (wA E) s.heap H locs) => thA hth0 hA hS
  refine lv_aload_n hx hb dL_law_531 rfl (lv_at hl 2 rfl) ?_
  refine lv_aload_n hx hb dL_law_532 rfl (lv_at hl 1 rfl) ?_
  refine lv_iload hx hb dL_law_533 (lv_at hl 0 rfl) ?_
  refine j_iconst hx hb dL_law_535 ?_
  refine j_iadd hx hb dL_law_536 ?_
  refine j_sld (n := i + 1) hx hb hX hbl hbA hS (by omega) hL (by omega) dL_law_537 ?_
  refine lv_aload_n hx hb dL_law_538 rfl (lv_at hl 4 rfl) ?_
  refine ml_S (M0 := M) (As := [.ref (E.2.1 0), .int (ji (xz xs (i + 1))), .ref (E.2.1 35)]) (rest := []) hx hb hml hown hg hl hK (hthA hS) hnc hP hS (kL_obstacle l hlf E hJ M (xz xs (i + 1)) (xz_b xs _) nn hI.ci) wd393 wd394 wd0 wd395 ⟨rfl, rfl⟩ (n := 3) (by decide +kernel) rfl ⟨by decide, by decide⟩ rfl (Nat.le_of_ble_eq_true rfl) dL_law_539 ⟨by show _ ≤ 601024; omega, by show _ ≤ 7293034; omega⟩ (fun v M1 H locs hq hP hS _ => ?_)
  obtain ⟨k9, rfl⟩ := vL_obstacle (nn := nn) hq
  have h28 : ∀ q, q = 28 ∨ q = 29 ∨ q = 30 → M1 q = M q := kL28_obstacle hI hq
  have hI1 : ∀ g, g < 2 → MI M1 g (nn g) := fun g hg2 => by have := hI.mi g hg2; unfold MI at this ⊢; rw [h28 29 (by omega)]; unfold aM at this ⊢; rw [h28 30 (by omega)]; exact this
  refine lv_istore hx hb dL_law_542 hl (by decide) rfl (fun ls hl => ?_)
  have hl : lv_has ls 8 [(5, .int (ji k9)), (4, .int (ji ((i:Int)))), (0, .ref b), (1, .ref (E.2.1 0)), (2, .ref (E.2.1 28)), (3, .ref (E.2.1 35))] := hl
  refine lv_aload_n hx hb dL_law_544 rfl (lv_at hl 4 rfl) ?_
  refine lv_aload_n hx hb dL_law_545 rfl (lv_at hl 2 rfl) ?_
  refine lv_iload hx hb dL_law_546 (lv_at hl 1 rfl) ?_
  refine j_iconst hx hb dL_law_548 ?_
  refine j_iadd hx hb dL_law_549 ?_
  refine j_sld (n := i + 1) hx hb hX hbl hbA hS (by omega) hL (by omega) dL_law_550 ?_
  refine mm_V (As := [.int (ji (xz xs (i + 1)))]) (rest := []) hx hb hml hown hg hl hK hP hS (by omega) (sh_M E _) rfl (kM_obstacle l E hJ M1 (xz xs (i + 1)) (xz_b xs _) nn hI1) wd591 wd592 wd593 wd5 wd594 ⟨rfl, rfl⟩ (n := 1) (by decide +kernel) rfl ⟨by decide, by decide⟩ rfl (Nat.le_of_ble_eq_true rfl) dL_law_551 ⟨by show _ ≤ 601024; omega, by show _ ≤ 7293034; omega⟩ (fun v M2 H locs hq2 hP hS => ?_)
  obtain ⟨k8, z9, hk8, rfl, hz9, hkc, hk12, h35, nn2, hI2⟩ := it_obstacle hI hq hq2
  have hkk : ji k9 = ji k8 := by
    have h9 := Option.some.inj hk8
    injection h9
  refine lv_istore hx hb dL_law_554 hl (by decide) rfl (fun ls hl => ?_)
  have hl : lv_has ls 8 [(6, .int (ji z9)), (5, .int (ji k9)), (4, .int (ji ((i:Int)))), (0, .ref b), (1, .ref (E.2.1 0)), (2, .ref (E.2.1 28)), (3, .ref (E.2.1 35))] := hl
  refine lv_aload_n hx hb dL_law_556 rfl (lv_at hl 5 rfl) ?_
  rw [hkk] at hl
  refine mm_V (As := []) (rest := []) hx hb hml hown hg hl hK hP hS (by omega) (sh_M E _) rfl (kM_thrown l E hJ M2) wd499 wd500 wd501 wd5 wd502 ⟨rfl, rfl⟩ (n := 0) (by decide +kernel) rfl ⟨by decide, by decide⟩ rfl (Nat.le_of_ble_eq_true rfl) dL_law_557 ⟨by show _ ≤ 601024; omega, by show _ ≤ 7293034; omega⟩ (fun v M3 H locs hq3 hP hS => ?_)
  obtain ⟨rfl, hM3⟩ := hq3
  rw [hM3] at hP
  refine lv_iload hx hb dL_law_560 (lv_at hl 1 rfl) ?_
  refine j_icmp_eq hx hb (by rw [hk12]; omega) (by omega) dL_law_562 rfl (fun b1 => ?_) (fun b1 => ?_)
  · refine lv_iload hx hb dL_law_567 (lv_at hl 1 rfl) ?_
    refine j_if_ne hx hb (by omega) dL_law_569 rfl (fun b2 => ?_) (fun b2 => ?_)
    · refine lv_goto hx hb dL_law_584 rfl ?_
      exact next M2 nn2 H locs _ _ ls hI2 (by omega) (by omega) hP hS (lv_sub hl [2, 3, 4, 5, 6] rfl)
    · refine lv_aload_n hx hb dL_law_572 rfl (lv_at hl 6 rfl) ?_
      refine j_iconst hx hb dL_law_573 ?_
      refine m_lald (n := 0) hx hb hK hP (by omega) (sh_35 E _) rfl (by omega) (by decide) dL_law_574 ?_
      refine lv_iload hx hb dL_law_575 (lv_at hl 0 rfl) ?_
      refine j_i2l hx hb hz9 dL_law_577 ?_
      refine j_lc_eq hx hb (by rw [h35 b2]; omega) (by omega) dL_law_578 dL_law_579 rfl (fun b3 => ?_) (fun b3 => ?_)
      · refine lv_goto hx hb dL_law_584 rfl ?_
        exact next M2 nn2 H locs _ _ ls hI2 (by omega) (by omega) hP hS (lv_sub hl [2, 3, 4, 5, 6] rfl)
      · exact absurd (h35 b2) b3
  · exact absurd hk12 b1

set_option maxRecDepth 100000 in
set_option maxHeartbeats 4000000 in
theorem lt_takes {p : Program} {l : Launch} {e : Env} {s : State} {m : MethodId} {below : List Frame} {meth : Method} {c : Code} {b L : Nat} {xs : Nat → Int32} {E : En} {Q : State → Prop} (C : lwC p l s m meth c b L xs E) (i : Nat) (hi : i + 6 ≤ L) (M : Me) (nn : Nat → Nat) (hI : Iv M nn) (H : Heap) (locs : List Loc) (cells slots : Nat) (ls : Array Slot) (hcl : cells ≤ 100 + i) (hsl : slots ≤ 2000 + 6 * i) (hP : wP E M H) (hS : va_S (wA E) s.heap H locs) (hl : lv_has ls 8 [(4, .int (ji (i : Int))), (0, .ref b), (1, .ref (E.2.1 0)), (2, .ref (E.2.1 28)), (3, .ref (E.2.1 35))])
    (next : ∀ (M : Me) (nn : Nat → Nat) (H : Heap) (locs : List Loc) (cells slots : Nat) (ls : Array Slot), Iv M nn → cells ≤ 100 + (i + 6) → slots ≤ 2000 + 6 * (i + 6) → wP E M H → va_S (wA E) s.heap H locs → lv_has ls 8 [(4, .int (ji (i : Int))), (0, .ref b), (1, .ref (E.2.1 0)), (2, .ref (E.2.1 28)), (3, .ref (E.2.1 35))] → W p l e room_1 s m #[Value.ref b] below meth c H locs cells slots Q (F0 m 846 ls [])) : W p l e room_1 s m #[Value.ref b] below meth c H locs cells slots Q (F0 m 587 ls []) := by
  obtain ⟨hx, hb, hml, hown, hg, hK, hnc, hth0, hX, hbl, hbA, hA, hL, hJ, hlf⟩ := C
  have hthA := fun {H locs} (hS : va_S (wA E) s.heap H locs) => thA hth0 hA hS
  refine lv_aload_n hx hb dL_law_587 rfl (lv_at hl 2 rfl) ?_
  refine lv_aload_n hx hb dL_law_588 rfl (lv_at hl 1 rfl) ?_
  refine lv_iload hx hb dL_law_589 (lv_at hl 0 rfl) ?_
  refine j_iconst hx hb dL_law_591 ?_
  refine j_iadd hx hb dL_law_592 ?_
  refine j_sld (n := i + 1) hx hb hX hbl hbA hS (by omega) hL (by omega) dL_law_593 ?_
  refine lv_aload_n hx hb dL_law_594 rfl (lv_at hl 1 rfl) ?_
  refine lv_iload hx hb dL_law_595 (lv_at hl 0 rfl) ?_
  refine j_iconst hx hb dL_law_597 ?_
  refine j_iadd hx hb dL_law_598 ?_
  refine j_sld (n := i + 2) hx hb hX hbl hbA hS (by omega) hL (by omega) dL_law_599 ?_
  refine lv_aload_n hx hb dL_law_600 rfl (lv_at hl 4 rfl) ?_
  refine ml_S (M0 := M) (As := [.ref (E.2.1 0), .int (ji (xz xs (i + 1))), .int (ji (xz xs (i + 2))), .ref (E.2.1 35)]) (rest := []) hx hb hml hown hg hl hK (hthA hS) hnc hP hS (kL_takes l hlf E hJ M (xz xs (i + 1)) (xz xs (i + 2)) (xz_b xs _) (xz_b xs _) nn hI.ci) wd410 wd411 wd0 wd412 ⟨rfl, rfl⟩ (n := 4) (by decide +kernel) rfl ⟨by decide, by decide⟩ rfl (Nat.le_of_ble_eq_true rfl) dL_law_601 ⟨by show _ ≤ 601024; omega, by show _ ≤ 7293034; omega⟩ (fun v M1 H locs hq hP hS _ => ?_)
  obtain ⟨k9, rfl⟩ := vL_takes (nn := nn) hq
  have h28 : ∀ q, q = 28 ∨ q = 29 ∨ q = 30 → M1 q = M q := kL28_takes hI hq
  have hI1 : ∀ g, g < 2 → MI M1 g (nn g) := fun g hg2 => by have := hI.mi g hg2; unfold MI at this ⊢; rw [h28 29 (by omega)]; unfold aM at this ⊢; rw [h28 30 (by omega)]; exact this
  refine lv_istore hx hb dL_law_604 hl (by decide) rfl (fun ls hl => ?_)
  have hl : lv_has ls 8 [(5, .int (ji k9)), (4, .int (ji ((i:Int)))), (0, .ref b), (1, .ref (E.2.1 0)), (2, .ref (E.2.1 28)), (3, .ref (E.2.1 35))] := hl
  refine lv_aload_n hx hb dL_law_606 rfl (lv_at hl 4 rfl) ?_
  refine lv_aload_n hx hb dL_law_607 rfl (lv_at hl 2 rfl) ?_
  refine lv_iload hx hb dL_law_608 (lv_at hl 1 rfl) ?_
  refine j_iconst hx hb dL_law_610 ?_
  refine j_iadd hx hb dL_law_611 ?_
  refine j_sld (n := i + 1) hx hb hX hbl hbA hS (by omega) hL (by omega) dL_law_612 ?_
  refine lv_aload_n hx hb dL_law_613 rfl (lv_at hl 2 rfl) ?_
  refine lv_iload hx hb dL_law_614 (lv_at hl 1 rfl) ?_
  refine j_iconst hx hb dL_law_616 ?_
  refine j_iadd hx hb dL_law_617 ?_
  refine j_sld (n := i + 2) hx hb hX hbl hbA hS (by omega) hL (by omega) dL_law_618 ?_
  refine mm_V (As := [.int (ji (xz xs (i + 1))), .int (ji (xz xs (i + 2)))]) (rest := []) hx hb hml hown hg hl hK hP hS (by omega) (sh_M E _) rfl (kM_takes l E hJ M1 (xz xs (i + 1)) (xz xs (i + 2)) (xz_b xs _) (xz_b xs _) nn hI1) wd599 wd600 wd601 wd5 wd602 ⟨rfl, rfl⟩ (n := 2) (by decide +kernel) rfl ⟨by decide, by decide⟩ rfl (Nat.le_of_ble_eq_true rfl) dL_law_619 ⟨by show _ ≤ 601024; omega, by show _ ≤ 7293034; omega⟩ (fun v M2 H locs hq2 hP hS => ?_)
  obtain ⟨k8, z9, hk8, rfl, hkc, hk12, h35, nn2, hI2⟩ := it_takes hI hq hq2
  have hkk : ji k9 = ji k8 := by
    have h9 := Option.some.inj hk8
    injection h9
  refine lv_istore hx hb dL_law_622 hl (by decide) rfl (fun ls hl => ?_)
  have hl : lv_has ls 8 [(6, .int (ji (bi z9))), (5, .int (ji k9)), (4, .int (ji ((i:Int)))), (0, .ref b), (1, .ref (E.2.1 0)), (2, .ref (E.2.1 28)), (3, .ref (E.2.1 35))] := hl
  refine lv_aload_n hx hb dL_law_624 rfl (lv_at hl 5 rfl) ?_
  rw [hkk] at hl
  refine mm_V (As := []) (rest := []) hx hb hml hown hg hl hK hP hS (by omega) (sh_M E _) rfl (kM_thrown l E hJ M2) wd499 wd500 wd501 wd5 wd502 ⟨rfl, rfl⟩ (n := 0) (by decide +kernel) rfl ⟨by decide, by decide⟩ rfl (Nat.le_of_ble_eq_true rfl) dL_law_625 ⟨by show _ ≤ 601024; omega, by show _ ≤ 7293034; omega⟩ (fun v M3 H locs hq3 hP hS => ?_)
  obtain ⟨rfl, hM3⟩ := hq3
  rw [hM3] at hP
  refine lv_iload hx hb dL_law_628 (lv_at hl 1 rfl) ?_
  refine j_icmp_eq hx hb (by rw [hk12]; omega) (by omega) dL_law_630 rfl (fun b1 => ?_) (fun b1 => ?_)
  · refine lv_iload hx hb dL_law_635 (lv_at hl 1 rfl) ?_
    refine j_if_ne hx hb (by omega) dL_law_637 rfl (fun b2 => ?_) (fun b2 => ?_)
    · refine lv_goto hx hb dL_law_659 rfl ?_
      exact next M2 nn2 H locs _ _ ls hI2 (by omega) (by omega) hP hS (lv_sub hl [2, 3, 4, 5, 6] rfl)
    · refine lv_aload_n hx hb dL_law_640 rfl (lv_at hl 6 rfl) ?_
      refine j_iconst hx hb dL_law_641 ?_
      refine m_lald (n := 0) hx hb hK hP (by omega) (sh_35 E _) rfl (by omega) (by decide) dL_law_642 ?_
      refine lv_iload hx hb dL_law_643 (lv_at hl 0 rfl) ?_
      refine j_if_eq hx hb (bi_b32 _) dL_law_645 rfl (fun b4 => ?_) (fun b4 => ?_)
      · refine j_lconst0 hx hb dL_law_652 ?_
        refine j_lc_eq hx hb (by rw [h35 b2]; have := bi_b32 z9; omega) (by decide) dL_law_653 dL_law_654 rfl (fun b3 => ?_) (fun b3 => ?_)
        · refine lv_goto hx hb dL_law_659 rfl ?_
          exact next M2 nn2 H locs _ _ ls hI2 (by omega) (by omega) hP hS (lv_sub hl [2, 3, 4, 5, 6] rfl)
        · exact absurd ((h35 b2).trans b4) b3
      · refine j_lconst1 hx hb dL_law_648 ?_
        refine lv_goto hx hb dL_law_649 rfl ?_
        refine j_lc_eq hx hb (by rw [h35 b2]; have := bi_b32 z9; omega) (by decide) dL_law_653 dL_law_654 rfl (fun b3 => ?_) (fun b3 => ?_)
        · refine lv_goto hx hb dL_law_659 rfl ?_
          exact next M2 nn2 H locs _ _ ls hI2 (by omega) (by omega) hP hS (lv_sub hl [2, 3, 4, 5, 6] rfl)
        · exact absurd ((h35 b2).trans (bi_t (bi_ne b4))) b3
  · exact absurd hk12 b1

set_option maxRecDepth 100000 in
set_option maxHeartbeats 4000000 in
theorem lt_value {p : Program} {l : Launch} {e : Env} {s : State} {m : MethodId} {below : List Frame} {meth : Method} {c : Code} {b L : Nat} {xs : Nat → Int32} {E : En} {Q : State → Prop} (C : lwC p l s m meth c b L xs E) (i : Nat) (hi : i + 6 ≤ L) (M : Me) (nn : Nat → Nat) (hI : Iv M nn) (H : Heap) (locs : List Loc) (cells slots : Nat) (ls : Array Slot) (hcl : cells ≤ 100 + i) (hsl : slots ≤ 2000 + 6 * i) (hP : wP E M H) (hS : va_S (wA E) s.heap H locs) (hl : lv_has ls 8 [(4, .int (ji (i : Int))), (0, .ref b), (1, .ref (E.2.1 0)), (2, .ref (E.2.1 28)), (3, .ref (E.2.1 35))])
    (next : ∀ (M : Me) (nn : Nat → Nat) (H : Heap) (locs : List Loc) (cells slots : Nat) (ls : Array Slot), Iv M nn → cells ≤ 100 + (i + 6) → slots ≤ 2000 + 6 * (i + 6) → wP E M H → va_S (wA E) s.heap H locs → lv_has ls 8 [(4, .int (ji (i : Int))), (0, .ref b), (1, .ref (E.2.1 0)), (2, .ref (E.2.1 28)), (3, .ref (E.2.1 35))] → W p l e room_1 s m #[Value.ref b] below meth c H locs cells slots Q (F0 m 846 ls [])) : W p l e room_1 s m #[Value.ref b] below meth c H locs cells slots Q (F0 m 675 ls []) := by
  obtain ⟨hx, hb, hml, hown, hg, hK, hnc, hth0, hX, hbl, hbA, hA, hL, hJ, hlf⟩ := C
  have hthA := fun {H locs} (hS : va_S (wA E) s.heap H locs) => thA hth0 hA hS
  refine lv_aload_n hx hb dL_law_675 rfl (lv_at hl 2 rfl) ?_
  refine lv_aload_n hx hb dL_law_676 rfl (lv_at hl 1 rfl) ?_
  refine lv_iload hx hb dL_law_677 (lv_at hl 0 rfl) ?_
  refine j_iconst hx hb dL_law_679 ?_
  refine j_iadd hx hb dL_law_680 ?_
  refine j_sld (n := i + 1) hx hb hX hbl hbA hS (by omega) hL (by omega) dL_law_681 ?_
  refine lv_aload_n hx hb dL_law_682 rfl (lv_at hl 1 rfl) ?_
  refine lv_iload hx hb dL_law_683 (lv_at hl 0 rfl) ?_
  refine j_iconst hx hb dL_law_685 ?_
  refine j_iadd hx hb dL_law_686 ?_
  refine j_sld (n := i + 2) hx hb hX hbl hbA hS (by omega) hL (by omega) dL_law_687 ?_
  refine lv_aload_n hx hb dL_law_688 rfl (lv_at hl 1 rfl) ?_
  refine lv_iload hx hb dL_law_689 (lv_at hl 0 rfl) ?_
  refine j_iconst hx hb dL_law_691 ?_
  refine j_iadd hx hb dL_law_692 ?_
  refine j_sld (n := i + 3) hx hb hX hbl hbA hS (by omega) hL (by omega) dL_law_693 ?_
  refine lv_aload_n hx hb dL_law_694 rfl (lv_at hl 1 rfl) ?_
  refine lv_iload hx hb dL_law_695 (lv_at hl 0 rfl) ?_
  refine j_iconst hx hb dL_law_697 ?_
  refine j_iadd hx hb dL_law_698 ?_
  refine j_sld (n := i + 4) hx hb hX hbl hbA hS (by omega) hL (by omega) dL_law_699 ?_
  refine lv_aload_n hx hb dL_law_700 rfl (lv_at hl 1 rfl) ?_
  refine lv_iload hx hb dL_law_701 (lv_at hl 0 rfl) ?_
  refine j_iconst hx hb dL_law_703 ?_
  refine j_iadd hx hb dL_law_704 ?_
  refine j_sld (n := i + 5) hx hb hX hbl hbA hS (by omega) hL (by omega) dL_law_705 ?_
  refine lv_aload_n hx hb dL_law_706 rfl (lv_at hl 4 rfl) ?_
  refine ml_S (M0 := M) (As := [.ref (E.2.1 0), .int (ji (xz xs (i + 1))), .int (ji (xz xs (i + 2))), .int (ji (xz xs (i + 3))), .int (ji (xz xs (i + 4))), .int (ji (xz xs (i + 5))), .ref (E.2.1 35)]) (rest := []) hx hb hml hown hg hl hK (hthA hS) hnc hP hS (kL_value l hlf E hJ M (xz xs (i + 1)) (xz xs (i + 2)) (xz xs (i + 3)) (xz xs (i + 4)) (xz xs (i + 5)) (xz_b xs _) (xz_b xs _) (xz_b xs _) (xz_b xs _) (xz_b xs _) nn hI.ci) wd430 wd431 wd0 wd432 ⟨rfl, rfl⟩ (n := 7) (by decide +kernel) rfl ⟨by decide, by decide⟩ rfl (Nat.le_of_ble_eq_true rfl) dL_law_707 ⟨by show _ ≤ 601024; omega, by show _ ≤ 7293034; omega⟩ (fun v M1 H locs hq hP hS _ => ?_)
  obtain ⟨k9, rfl⟩ := vL_value (nn := nn) hq
  have h28 : ∀ q, q = 28 ∨ q = 29 ∨ q = 30 → M1 q = M q := kL28_value hI hq
  have hI1 : ∀ g, g < 2 → MI M1 g (nn g) := fun g hg2 => by have := hI.mi g hg2; unfold MI at this ⊢; rw [h28 29 (by omega)]; unfold aM at this ⊢; rw [h28 30 (by omega)]; exact this
  refine lv_istore hx hb dL_law_710 hl (by decide) rfl (fun ls hl => ?_)
  have hl : lv_has ls 8 [(5, .int (ji k9)), (4, .int (ji ((i:Int)))), (0, .ref b), (1, .ref (E.2.1 0)), (2, .ref (E.2.1 28)), (3, .ref (E.2.1 35))] := hl
  refine lv_aload_n hx hb dL_law_712 rfl (lv_at hl 4 rfl) ?_
  refine lv_aload_n hx hb dL_law_713 rfl (lv_at hl 2 rfl) ?_
  refine lv_iload hx hb dL_law_714 (lv_at hl 1 rfl) ?_
  refine j_iconst hx hb dL_law_716 ?_
  refine j_iadd hx hb dL_law_717 ?_
  refine j_sld (n := i + 1) hx hb hX hbl hbA hS (by omega) hL (by omega) dL_law_718 ?_
  refine lv_aload_n hx hb dL_law_719 rfl (lv_at hl 2 rfl) ?_
  refine lv_iload hx hb dL_law_720 (lv_at hl 1 rfl) ?_
  refine j_iconst hx hb dL_law_722 ?_
  refine j_iadd hx hb dL_law_723 ?_
  refine j_sld (n := i + 2) hx hb hX hbl hbA hS (by omega) hL (by omega) dL_law_724 ?_
  refine lv_aload_n hx hb dL_law_725 rfl (lv_at hl 2 rfl) ?_
  refine lv_iload hx hb dL_law_726 (lv_at hl 1 rfl) ?_
  refine j_iconst hx hb dL_law_728 ?_
  refine j_iadd hx hb dL_law_729 ?_
  refine j_sld (n := i + 3) hx hb hX hbl hbA hS (by omega) hL (by omega) dL_law_730 ?_
  refine lv_aload_n hx hb dL_law_731 rfl (lv_at hl 2 rfl) ?_
  refine lv_iload hx hb dL_law_732 (lv_at hl 1 rfl) ?_
  refine j_iconst hx hb dL_law_734 ?_
  refine j_iadd hx hb dL_law_735 ?_
  refine j_sld (n := i + 4) hx hb hX hbl hbA hS (by omega) hL (by omega) dL_law_736 ?_
  refine lv_aload_n hx hb dL_law_737 rfl (lv_at hl 2 rfl) ?_
  refine lv_iload hx hb dL_law_738 (lv_at hl 1 rfl) ?_
  refine j_iconst hx hb dL_law_740 ?_
  refine j_iadd hx hb dL_law_741 ?_
  refine j_sld (n := i + 5) hx hb hX hbl hbA hS (by omega) hL (by omega) dL_law_742 ?_
  refine mm_V (As := [.int (ji (xz xs (i + 1))), .int (ji (xz xs (i + 2))), .int (ji (xz xs (i + 3))), .int (ji (xz xs (i + 4))), .int (ji (xz xs (i + 5)))]) (rest := []) hx hb hml hown hg hl hK hP hS (by omega) (sh_M E _) rfl (kM_value l E hJ M1 (xz xs (i + 1)) (xz xs (i + 2)) (xz xs (i + 3)) (xz xs (i + 4)) (xz xs (i + 5)) (xz_b xs _) (xz_b xs _) (xz_b xs _) (xz_b xs _) (xz_b xs _) nn hI1) wd611 wd612 wd613 wd5 wd614 ⟨rfl, rfl⟩ (n := 5) (by decide +kernel) rfl ⟨by decide, by decide⟩ rfl (Nat.le_of_ble_eq_true rfl) dL_law_743 ⟨by show _ ≤ 601024; omega, by show _ ≤ 7293034; omega⟩ (fun v M2 H locs hq2 hP hS => ?_)
  obtain ⟨k8, z9, hk8, rfl, hkc, hk12, h35, nn2, hI2⟩ := it_value hI hq hq2
  have hkk : ji k9 = ji k8 := by
    have h9 := Option.some.inj hk8
    injection h9
  refine lv_lstore hx hb dL_law_746 hl (by decide) rfl (fun ls hl => ?_)
  have hl : lv_has ls 8 [(6, .long (jl z9)), (5, .int (ji k9)), (4, .int (ji ((i:Int)))), (0, .ref b), (1, .ref (E.2.1 0)), (2, .ref (E.2.1 28)), (3, .ref (E.2.1 35))] := hl
  refine lv_aload_n hx hb dL_law_748 rfl (lv_at hl 5 rfl) ?_
  rw [hkk] at hl
  refine mm_V (As := []) (rest := []) hx hb hml hown hg hl hK hP hS (by omega) (sh_M E _) rfl (kM_thrown l E hJ M2) wd499 wd500 wd501 wd5 wd502 ⟨rfl, rfl⟩ (n := 0) (by decide +kernel) rfl ⟨by decide, by decide⟩ rfl (Nat.le_of_ble_eq_true rfl) dL_law_749 ⟨by show _ ≤ 601024; omega, by show _ ≤ 7293034; omega⟩ (fun v M3 H locs hq3 hP hS => ?_)
  obtain ⟨rfl, hM3⟩ := hq3
  rw [hM3] at hP
  refine lv_iload hx hb dL_law_752 (lv_at hl 1 rfl) ?_
  refine j_icmp_eq hx hb (by rw [hk12]; omega) (by omega) dL_law_754 rfl (fun b1 => ?_) (fun b1 => ?_)
  · refine lv_iload hx hb dL_law_759 (lv_at hl 1 rfl) ?_
    refine j_if_ne hx hb (by omega) dL_law_761 rfl (fun b2 => ?_) (fun b2 => ?_)
    · refine lv_goto hx hb dL_law_775 rfl ?_
      exact next M2 nn2 H locs _ _ ls hI2 (by omega) (by omega) hP hS (lv_sub hl [2, 3, 4, 5, 6] rfl)
    · refine lv_aload_n hx hb dL_law_764 rfl (lv_at hl 6 rfl) ?_
      refine j_iconst hx hb dL_law_765 ?_
      refine m_lald (n := 0) hx hb hK hP (by omega) (sh_35 E _) rfl (by omega) (by decide) dL_law_766 ?_
      refine lv_lload hx hb dL_law_767 (lv_at hl 0 rfl) ?_
      obtain ⟨z8, hz8, e8⟩ := jl_of (jl z9)
      rw [h35 b2, e8]
      refine j_lc_eq hx hb hz8 hz8 dL_law_769 dL_law_770 rfl (fun b3 => ?_) (fun b3 => ?_)
      · refine lv_goto hx hb dL_law_775 rfl ?_
        exact next M2 nn2 H locs _ _ ls hI2 (by omega) (by omega) hP hS (lv_sub hl [2, 3, 4, 5, 6] rfl)
      · exact absurd rfl b3
  · exact absurd hk12 b1

set_option maxRecDepth 100000 in
set_option maxHeartbeats 4000000 in
theorem lt_sign {p : Program} {l : Launch} {e : Env} {s : State} {m : MethodId} {below : List Frame} {meth : Method} {c : Code} {b L : Nat} {xs : Nat → Int32} {E : En} {Q : State → Prop} (C : lwC p l s m meth c b L xs E) (i : Nat) (hi : i + 6 ≤ L) (M : Me) (nn : Nat → Nat) (hI : Iv M nn) (H : Heap) (locs : List Loc) (cells slots : Nat) (ls : Array Slot) (hcl : cells ≤ 100 + i) (hsl : slots ≤ 2000 + 6 * i) (hP : wP E M H) (hS : va_S (wA E) s.heap H locs) (hl : lv_has ls 8 [(4, .int (ji (i : Int))), (0, .ref b), (1, .ref (E.2.1 0)), (2, .ref (E.2.1 28)), (3, .ref (E.2.1 35))])
    (next : ∀ (M : Me) (nn : Nat → Nat) (H : Heap) (locs : List Loc) (cells slots : Nat) (ls : Array Slot), Iv M nn → cells ≤ 100 + (i + 6) → slots ≤ 2000 + 6 * (i + 6) → wP E M H → va_S (wA E) s.heap H locs → lv_has ls 8 [(4, .int (ji (i : Int))), (0, .ref b), (1, .ref (E.2.1 0)), (2, .ref (E.2.1 28)), (3, .ref (E.2.1 35))] → W p l e room_1 s m #[Value.ref b] below meth c H locs cells slots Q (F0 m 846 ls [])) : W p l e room_1 s m #[Value.ref b] below meth c H locs cells slots Q (F0 m 778 ls []) := by
  obtain ⟨hx, hb, hml, hown, hg, hK, hnc, hth0, hX, hbl, hbA, hA, hL, hJ, hlf⟩ := C
  have hthA := fun {H locs} (hS : va_S (wA E) s.heap H locs) => thA hth0 hA hS
  refine lv_aload_n hx hb dL_law_778 rfl (lv_at hl 2 rfl) ?_
  refine lv_aload_n hx hb dL_law_779 rfl (lv_at hl 1 rfl) ?_
  refine lv_iload hx hb dL_law_780 (lv_at hl 0 rfl) ?_
  refine j_iconst hx hb dL_law_782 ?_
  refine j_iadd hx hb dL_law_783 ?_
  refine j_sld (n := i + 1) hx hb hX hbl hbA hS (by omega) hL (by omega) dL_law_784 ?_
  refine lv_aload_n hx hb dL_law_785 rfl (lv_at hl 1 rfl) ?_
  refine lv_iload hx hb dL_law_786 (lv_at hl 0 rfl) ?_
  refine j_iconst hx hb dL_law_788 ?_
  refine j_iadd hx hb dL_law_789 ?_
  refine j_sld (n := i + 2) hx hb hX hbl hbA hS (by omega) hL (by omega) dL_law_790 ?_
  refine lv_aload_n hx hb dL_law_791 rfl (lv_at hl 4 rfl) ?_
  refine ml_S (M0 := M) (As := [.ref (E.2.1 0), .int (ji (xz xs (i + 1))), .int (ji (xz xs (i + 2))), .ref (E.2.1 35)]) (rest := []) hx hb hml hown hg hl hK (hthA hS) hnc hP hS (kL_sign l hlf E hJ M (xz xs (i + 1)) (xz xs (i + 2)) (xz_b xs _) (xz_b xs _) nn hI.ci) wd441 wd442 wd0 wd443 ⟨rfl, rfl⟩ (n := 4) (by decide +kernel) rfl ⟨by decide, by decide⟩ rfl (Nat.le_of_ble_eq_true rfl) dL_law_792 ⟨by show _ ≤ 601024; omega, by show _ ≤ 7293034; omega⟩ (fun v M1 H locs hq hP hS _ => ?_)
  obtain ⟨k9, rfl⟩ := vL_sign (nn := nn) hq
  have h28 : ∀ q, q = 28 ∨ q = 29 ∨ q = 30 → M1 q = M q := kL28_sign hI hq
  have hI1 : ∀ g, g < 2 → MI M1 g (nn g) := fun g hg2 => by have := hI.mi g hg2; unfold MI at this ⊢; rw [h28 29 (by omega)]; unfold aM at this ⊢; rw [h28 30 (by omega)]; exact this
  refine lv_istore hx hb dL_law_795 hl (by decide) rfl (fun ls hl => ?_)
  have hl : lv_has ls 8 [(5, .int (ji k9)), (4, .int (ji ((i:Int)))), (0, .ref b), (1, .ref (E.2.1 0)), (2, .ref (E.2.1 28)), (3, .ref (E.2.1 35))] := hl
  refine lv_aload_n hx hb dL_law_797 rfl (lv_at hl 4 rfl) ?_
  refine lv_aload_n hx hb dL_law_798 rfl (lv_at hl 2 rfl) ?_
  refine lv_iload hx hb dL_law_799 (lv_at hl 1 rfl) ?_
  refine j_iconst hx hb dL_law_801 ?_
  refine j_iadd hx hb dL_law_802 ?_
  refine j_sld (n := i + 1) hx hb hX hbl hbA hS (by omega) hL (by omega) dL_law_803 ?_
  refine lv_aload_n hx hb dL_law_804 rfl (lv_at hl 2 rfl) ?_
  refine lv_iload hx hb dL_law_805 (lv_at hl 1 rfl) ?_
  refine j_iconst hx hb dL_law_807 ?_
  refine j_iadd hx hb dL_law_808 ?_
  refine j_sld (n := i + 2) hx hb hX hbl hbA hS (by omega) hL (by omega) dL_law_809 ?_
  refine mm_V (As := [.int (ji (xz xs (i + 1))), .int (ji (xz xs (i + 2)))]) (rest := []) hx hb hml hown hg hl hK hP hS (by omega) (sh_M E _) rfl (kM_sign l E hJ M1 (xz xs (i + 1)) (xz xs (i + 2)) (xz_b xs _) (xz_b xs _) nn hI1) wd615 wd616 wd617 wd5 wd618 ⟨rfl, rfl⟩ (n := 2) (by decide +kernel) rfl ⟨by decide, by decide⟩ rfl (Nat.le_of_ble_eq_true rfl) dL_law_810 ⟨by show _ ≤ 601024; omega, by show _ ≤ 7293034; omega⟩ (fun v M2 H locs hq2 hP hS => ?_)
  obtain ⟨k8, z9, hk8, rfl, hz9, hkc, hk12, h35, nn2, hI2⟩ := it_sign hI hq hq2
  have hkk : ji k9 = ji k8 := by
    have h9 := Option.some.inj hk8
    injection h9
  refine lv_istore hx hb dL_law_813 hl (by decide) rfl (fun ls hl => ?_)
  have hl : lv_has ls 8 [(6, .int (ji z9)), (5, .int (ji k9)), (4, .int (ji ((i:Int)))), (0, .ref b), (1, .ref (E.2.1 0)), (2, .ref (E.2.1 28)), (3, .ref (E.2.1 35))] := hl
  refine lv_aload_n hx hb dL_law_815 rfl (lv_at hl 5 rfl) ?_
  rw [hkk] at hl
  refine mm_V (As := []) (rest := []) hx hb hml hown hg hl hK hP hS (by omega) (sh_M E _) rfl (kM_thrown l E hJ M2) wd499 wd500 wd501 wd5 wd502 ⟨rfl, rfl⟩ (n := 0) (by decide +kernel) rfl ⟨by decide, by decide⟩ rfl (Nat.le_of_ble_eq_true rfl) dL_law_816 ⟨by show _ ≤ 601024; omega, by show _ ≤ 7293034; omega⟩ (fun v M3 H locs hq3 hP hS => ?_)
  obtain ⟨rfl, hM3⟩ := hq3
  rw [hM3] at hP
  refine lv_iload hx hb dL_law_819 (lv_at hl 1 rfl) ?_
  refine j_icmp_eq hx hb (by rw [hk12]; omega) (by omega) dL_law_821 rfl (fun b1 => ?_) (fun b1 => ?_)
  · refine lv_iload hx hb dL_law_826 (lv_at hl 1 rfl) ?_
    refine j_if_ne hx hb (by omega) dL_law_828 rfl (fun b2 => ?_) (fun b2 => ?_)
    · refine lv_goto hx hb dL_law_843 rfl ?_
      exact next M2 nn2 H locs _ _ ls hI2 (by omega) (by omega) hP hS (lv_sub hl [2, 3, 4, 5, 6] rfl)
    · refine lv_aload_n hx hb dL_law_831 rfl (lv_at hl 6 rfl) ?_
      refine j_iconst hx hb dL_law_832 ?_
      refine m_lald (n := 0) hx hb hK hP (by omega) (sh_35 E _) rfl (by omega) (by decide) dL_law_833 ?_
      refine lv_iload hx hb dL_law_834 (lv_at hl 0 rfl) ?_
      refine j_i2l hx hb hz9 dL_law_836 ?_
      refine j_lc_eq hx hb (by rw [h35 b2]; omega) (by omega) dL_law_837 dL_law_838 rfl (fun b3 => ?_) (fun b3 => ?_)
      · refine lv_goto hx hb dL_law_843 rfl ?_
        exact next M2 nn2 H locs _ _ ls hI2 (by omega) (by omega) hP hS (lv_sub hl [2, 3, 4, 5, 6] rfl)
      · exact absurd (h35 b2) b3
  · exact absurd hk12 b1
