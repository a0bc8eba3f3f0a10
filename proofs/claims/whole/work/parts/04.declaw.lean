theorem dW_law_0 : decode bW_law 0 = .ok (.new 8, 3) := by decide +kernel
theorem dW_law_3 : decode bW_law 3 = .ok (.dup, 1) := by decide +kernel
theorem dW_law_4 : decode bW_law 4 = .ok (.invokespecial 51, 3) := by decide +kernel
theorem dW_law_7 : decode bW_law 7 = .ok (.astore_n 1, 1) := by decide +kernel
theorem dW_law_8 : decode bW_law 8 = .ok (.new 52, 3) := by decide +kernel
theorem dW_law_11 : decode bW_law 11 = .ok (.dup, 1) := by decide +kernel
theorem dW_law_12 : decode bW_law 12 = .ok (.invokespecial 54, 3) := by decide +kernel
theorem dW_law_15 : decode bW_law 15 = .ok (.astore_n 2, 1) := by decide +kernel
theorem dW_law_16 : decode bW_law 16 = .ok (.iconst 1, 1) := by decide +kernel
theorem dW_law_17 : decode bW_law 17 = .ok (.newarray .long, 2) := by decide +kernel
theorem dW_law_19 : decode bW_law 19 = .ok (.astore_n 3, 1) := by decide +kernel
theorem dW_law_20 : decode bW_law 20 = .ok (.iconst 0, 1) := by decide +kernel
theorem dW_law_21 : decode bW_law 21 = .ok (.istore 4, 2) := by decide +kernel
theorem dW_law_23 : decode bW_law 23 = .ok (.iload 4, 2) := by decide +kernel
theorem dW_law_25 : decode bW_law 25 = .ok (.aload_n 0, 1) := by decide +kernel
theorem dW_law_26 : decode bW_law 26 = .ok (.arraylength, 1) := by decide +kernel
theorem dW_law_27 : decode bW_law 27 = .ok (.iconst 4, 1) := by decide +kernel
theorem dW_law_28 : decode bW_law 28 = .ok (.isub, 1) := by decide +kernel
theorem dW_law_29 : decode bW_law 29 = .ok (.if_icmp .gt 891, 3) := by decide +kernel
theorem dW_law_32 : decode bW_law 32 = .ok (.aload_n 0, 1) := by decide +kernel
theorem dW_law_33 : decode bW_law 33 = .ok (.iload 4, 2) := by decide +kernel
theorem dW_law_35 : decode bW_law 35 = .ok (.iaload, 1) := by decide +kernel
theorem dW_law_36 : decode bW_law 36 = .ok (.bipush 15, 2) := by decide +kernel
theorem dW_law_38 : decode bW_law 38 = .ok (.iand, 1) := by decide +kernel
theorem dW_law_39 : decode bW_law 39 = .ok (.tableswitch 875 0 12 #[65, 145, 201, 214, 270, 350, 418, 498, 578, 646, 702, 782, 850], 65) := by decide +kernel
theorem dW_law_104 : decode bW_law 104 = .ok (.aload_n 1, 1) := by decide +kernel
theorem dW_law_105 : decode bW_law 105 = .ok (.aload_n 0, 1) := by decide +kernel
theorem dW_law_106 : decode bW_law 106 = .ok (.iload 4, 2) := by decide +kernel
theorem dW_law_108 : decode bW_law 108 = .ok (.iconst 1, 1) := by decide +kernel
theorem dW_law_109 : decode bW_law 109 = .ok (.iadd, 1) := by decide +kernel
theorem dW_law_110 : decode bW_law 110 = .ok (.iaload, 1) := by decide +kernel
theorem dW_law_111 : decode bW_law 111 = .ok (.aload_n 0, 1) := by decide +kernel
theorem dW_law_112 : decode bW_law 112 = .ok (.iload 4, 2) := by decide +kernel
theorem dW_law_114 : decode bW_law 114 = .ok (.iconst 2, 1) := by decide +kernel
theorem dW_law_115 : decode bW_law 115 = .ok (.iadd, 1) := by decide +kernel
theorem dW_law_116 : decode bW_law 116 = .ok (.iaload, 1) := by decide +kernel
theorem dW_law_117 : decode bW_law 117 = .ok (.aload_n 0, 1) := by decide +kernel
theorem dW_law_118 : decode bW_law 118 = .ok (.iload 4, 2) := by decide +kernel
theorem dW_law_120 : decode bW_law 120 = .ok (.iconst 3, 1) := by decide +kernel
theorem dW_law_121 : decode bW_law 121 = .ok (.iadd, 1) := by decide +kernel
theorem dW_law_122 : decode bW_law 122 = .ok (.iaload, 1) := by decide +kernel
theorem dW_law_123 : decode bW_law 123 = .ok (.aload_n 3, 1) := by decide +kernel
theorem dW_law_124 : decode bW_law 124 = .ok (.invokestatic 55, 3) := by decide +kernel
theorem dW_law_127 : decode bW_law 127 = .ok (.istore 5, 2) := by decide +kernel
theorem dW_law_129 : decode bW_law 129 = .ok (.aload_n 2, 1) := by decide +kernel
theorem dW_law_130 : decode bW_law 130 = .ok (.aload_n 0, 1) := by decide +kernel
theorem dW_law_131 : decode bW_law 131 = .ok (.iload 4, 2) := by decide +kernel
theorem dW_law_133 : decode bW_law 133 = .ok (.iconst 1, 1) := by decide +kernel
theorem dW_law_134 : decode bW_law 134 = .ok (.iadd, 1) := by decide +kernel
theorem dW_law_135 : decode bW_law 135 = .ok (.iaload, 1) := by decide +kernel
theorem dW_law_136 : decode bW_law 136 = .ok (.aload_n 0, 1) := by decide +kernel
theorem dW_law_137 : decode bW_law 137 = .ok (.iload 4, 2) := by decide +kernel
theorem dW_law_139 : decode bW_law 139 = .ok (.iconst 2, 1) := by decide +kernel
theorem dW_law_140 : decode bW_law 140 = .ok (.iadd, 1) := by decide +kernel
theorem dW_law_141 : decode bW_law 141 = .ok (.iaload, 1) := by decide +kernel
theorem dW_law_142 : decode bW_law 142 = .ok (.aload_n 0, 1) := by decide +kernel
theorem dW_law_143 : decode bW_law 143 = .ok (.iload 4, 2) := by decide +kernel
theorem dW_law_145 : decode bW_law 145 = .ok (.iconst 3, 1) := by decide +kernel
theorem dW_law_146 : decode bW_law 146 = .ok (.iadd, 1) := by decide +kernel
theorem dW_law_147 : decode bW_law 147 = .ok (.iaload, 1) := by decide +kernel
theorem dW_law_148 : decode bW_law 148 = .ok (.invokevirtual 60, 3) := by decide +kernel
theorem dW_law_151 : decode bW_law 151 = .ok (.istore 6, 2) := by decide +kernel
theorem dW_law_153 : decode bW_law 153 = .ok (.aload_n 2, 1) := by decide +kernel
theorem dW_law_154 : decode bW_law 154 = .ok (.invokevirtual 61, 3) := by decide +kernel
theorem dW_law_157 : decode bW_law 157 = .ok (.iload 5, 2) := by decide +kernel
theorem dW_law_159 : decode bW_law 159 = .ok (.if_icmp .eq 5, 3) := by decide +kernel
theorem dW_law_162 : decode bW_law 162 = .ok (.iconst 0, 1) := by decide +kernel
theorem dW_law_163 : decode bW_law 163 = .ok (.ireturn, 1) := by decide +kernel
theorem dW_law_164 : decode bW_law 164 = .ok (.iload 5, 2) := by decide +kernel
theorem dW_law_166 : decode bW_law 166 = .ok (.ifCond .ne 15, 3) := by decide +kernel
theorem dW_law_169 : decode bW_law 169 = .ok (.aload_n 3, 1) := by decide +kernel
theorem dW_law_170 : decode bW_law 170 = .ok (.iconst 0, 1) := by decide +kernel
theorem dW_law_171 : decode bW_law 171 = .ok (.laload, 1) := by decide +kernel
theorem dW_law_172 : decode bW_law 172 = .ok (.iload 6, 2) := by decide +kernel
theorem dW_law_174 : decode bW_law 174 = .ok (.i2l, 1) := by decide +kernel
theorem dW_law_175 : decode bW_law 175 = .ok (.lcmp, 1) := by decide +kernel
theorem dW_law_176 : decode bW_law 176 = .ok (.ifCond .eq 5, 3) := by decide +kernel
theorem dW_law_179 : decode bW_law 179 = .ok (.iconst 0, 1) := by decide +kernel
theorem dW_law_180 : decode bW_law 180 = .ok (.ireturn, 1) := by decide +kernel
theorem dW_law_181 : decode bW_law 181 = .ok (.goto 733, 3) := by decide +kernel
theorem dW_law_184 : decode bW_law 184 = .ok (.aload_n 1, 1) := by decide +kernel
theorem dW_law_185 : decode bW_law 185 = .ok (.aload_n 0, 1) := by decide +kernel
theorem dW_law_186 : decode bW_law 186 = .ok (.iload 4, 2) := by decide +kernel
theorem dW_law_188 : decode bW_law 188 = .ok (.iconst 1, 1) := by decide +kernel
theorem dW_law_189 : decode bW_law 189 = .ok (.iadd, 1) := by decide +kernel
theorem dW_law_190 : decode bW_law 190 = .ok (.iaload, 1) := by decide +kernel
theorem dW_law_191 : decode bW_law 191 = .ok (.aload_n 3, 1) := by decide +kernel
theorem dW_law_192 : decode bW_law 192 = .ok (.invokestatic 65, 3) := by decide +kernel
theorem dW_law_195 : decode bW_law 195 = .ok (.istore 5, 2) := by decide +kernel
theorem dW_law_197 : decode bW_law 197 = .ok (.aload_n 2, 1) := by decide +kernel
theorem dW_law_198 : decode bW_law 198 = .ok (.aload_n 0, 1) := by decide +kernel
theorem dW_law_199 : decode bW_law 199 = .ok (.iload 4, 2) := by decide +kernel
theorem dW_law_201 : decode bW_law 201 = .ok (.iconst 1, 1) := by decide +kernel
theorem dW_law_202 : decode bW_law 202 = .ok (.iadd, 1) := by decide +kernel
theorem dW_law_203 : decode bW_law 203 = .ok (.iaload, 1) := by decide +kernel
theorem dW_law_204 : decode bW_law 204 = .ok (.invokevirtual 68, 3) := by decide +kernel
theorem dW_law_207 : decode bW_law 207 = .ok (.istore 6, 2) := by decide +kernel
theorem dW_law_209 : decode bW_law 209 = .ok (.aload_n 2, 1) := by decide +kernel
theorem dW_law_210 : decode bW_law 210 = .ok (.invokevirtual 61, 3) := by decide +kernel
theorem dW_law_213 : decode bW_law 213 = .ok (.iload 5, 2) := by decide +kernel
theorem dW_law_215 : decode bW_law 215 = .ok (.if_icmp .eq 5, 3) := by decide +kernel
theorem dW_law_218 : decode bW_law 218 = .ok (.iconst 0, 1) := by decide +kernel
theorem dW_law_219 : decode bW_law 219 = .ok (.ireturn, 1) := by decide +kernel
theorem dW_law_220 : decode bW_law 220 = .ok (.iload 5, 2) := by decide +kernel
theorem dW_law_222 : decode bW_law 222 = .ok (.ifCond .ne 15, 3) := by decide +kernel
theorem dW_law_225 : decode bW_law 225 = .ok (.aload_n 3, 1) := by decide +kernel
theorem dW_law_226 : decode bW_law 226 = .ok (.iconst 0, 1) := by decide +kernel
theorem dW_law_227 : decode bW_law 227 = .ok (.laload, 1) := by decide +kernel
theorem dW_law_228 : decode bW_law 228 = .ok (.iload 6, 2) := by decide +kernel
theorem dW_law_230 : decode bW_law 230 = .ok (.i2l, 1) := by decide +kernel
theorem dW_law_231 : decode bW_law 231 = .ok (.lcmp, 1) := by decide +kernel
theorem dW_law_232 : decode bW_law 232 = .ok (.ifCond .eq 5, 3) := by decide +kernel
theorem dW_law_235 : decode bW_law 235 = .ok (.iconst 0, 1) := by decide +kernel
theorem dW_law_236 : decode bW_law 236 = .ok (.ireturn, 1) := by decide +kernel
theorem dW_law_237 : decode bW_law 237 = .ok (.goto 677, 3) := by decide +kernel
theorem dW_law_240 : decode bW_law 240 = .ok (.aload_n 1, 1) := by decide +kernel
theorem dW_law_241 : decode bW_law 241 = .ok (.invokevirtual 69, 3) := by decide +kernel
theorem dW_law_244 : decode bW_law 244 = .ok (.aload_n 2, 1) := by decide +kernel
theorem dW_law_245 : decode bW_law 245 = .ok (.invokevirtual 72, 3) := by decide +kernel
theorem dW_law_248 : decode bW_law 248 = .ok (.if_icmp .eq 666, 3) := by decide +kernel
theorem dW_law_251 : decode bW_law 251 = .ok (.iconst 0, 1) := by decide +kernel
theorem dW_law_252 : decode bW_law 252 = .ok (.ireturn, 1) := by decide +kernel
theorem dW_law_253 : decode bW_law 253 = .ok (.aload_n 1, 1) := by decide +kernel
theorem dW_law_254 : decode bW_law 254 = .ok (.aload_n 0, 1) := by decide +kernel
theorem dW_law_255 : decode bW_law 255 = .ok (.iload 4, 2) := by decide +kernel
theorem dW_law_257 : decode bW_law 257 = .ok (.iconst 1, 1) := by decide +kernel
theorem dW_law_258 : decode bW_law 258 = .ok (.iadd, 1) := by decide +kernel
theorem dW_law_259 : decode bW_law 259 = .ok (.iaload, 1) := by decide +kernel
theorem dW_law_260 : decode bW_law 260 = .ok (.aload_n 3, 1) := by decide +kernel
theorem dW_law_261 : decode bW_law 261 = .ok (.invokestatic 73, 3) := by decide +kernel
theorem dW_law_264 : decode bW_law 264 = .ok (.istore 5, 2) := by decide +kernel
theorem dW_law_266 : decode bW_law 266 = .ok (.aload_n 2, 1) := by decide +kernel
theorem dW_law_267 : decode bW_law 267 = .ok (.aload_n 0, 1) := by decide +kernel
theorem dW_law_268 : decode bW_law 268 = .ok (.iload 4, 2) := by decide +kernel
theorem dW_law_270 : decode bW_law 270 = .ok (.iconst 1, 1) := by decide +kernel
theorem dW_law_271 : decode bW_law 271 = .ok (.iadd, 1) := by decide +kernel
theorem dW_law_272 : decode bW_law 272 = .ok (.iaload, 1) := by decide +kernel
theorem dW_law_273 : decode bW_law 273 = .ok (.invokevirtual 75, 3) := by decide +kernel
theorem dW_law_276 : decode bW_law 276 = .ok (.istore 6, 2) := by decide +kernel
theorem dW_law_278 : decode bW_law 278 = .ok (.aload_n 2, 1) := by decide +kernel
theorem dW_law_279 : decode bW_law 279 = .ok (.invokevirtual 61, 3) := by decide +kernel
theorem dW_law_282 : decode bW_law 282 = .ok (.iload 5, 2) := by decide +kernel
theorem dW_law_284 : decode bW_law 284 = .ok (.if_icmp .eq 5, 3) := by decide +kernel
theorem dW_law_287 : decode bW_law 287 = .ok (.iconst 0, 1) := by decide +kernel
theorem dW_law_288 : decode bW_law 288 = .ok (.ireturn, 1) := by decide +kernel
theorem dW_law_289 : decode bW_law 289 = .ok (.iload 5, 2) := by decide +kernel
theorem dW_law_291 : decode bW_law 291 = .ok (.ifCond .ne 15, 3) := by decide +kernel
theorem dW_law_294 : decode bW_law 294 = .ok (.aload_n 3, 1) := by decide +kernel
theorem dW_law_295 : decode bW_law 295 = .ok (.iconst 0, 1) := by decide +kernel
theorem dW_law_296 : decode bW_law 296 = .ok (.laload, 1) := by decide +kernel
theorem dW_law_297 : decode bW_law 297 = .ok (.iload 6, 2) := by decide +kernel
theorem dW_law_299 : decode bW_law 299 = .ok (.i2l, 1) := by decide +kernel
theorem dW_law_300 : decode bW_law 300 = .ok (.lcmp, 1) := by decide +kernel
theorem dW_law_301 : decode bW_law 301 = .ok (.ifCond .eq 5, 3) := by decide +kernel
theorem dW_law_304 : decode bW_law 304 = .ok (.iconst 0, 1) := by decide +kernel
theorem dW_law_305 : decode bW_law 305 = .ok (.ireturn, 1) := by decide +kernel
theorem dW_law_306 : decode bW_law 306 = .ok (.goto 608, 3) := by decide +kernel
theorem dW_law_309 : decode bW_law 309 = .ok (.aload_n 1, 1) := by decide +kernel
theorem dW_law_310 : decode bW_law 310 = .ok (.aload_n 0, 1) := by decide +kernel
theorem dW_law_311 : decode bW_law 311 = .ok (.iload 4, 2) := by decide +kernel
theorem dW_law_313 : decode bW_law 313 = .ok (.iconst 1, 1) := by decide +kernel
theorem dW_law_314 : decode bW_law 314 = .ok (.iadd, 1) := by decide +kernel
theorem dW_law_315 : decode bW_law 315 = .ok (.iaload, 1) := by decide +kernel
theorem dW_law_316 : decode bW_law 316 = .ok (.aload_n 0, 1) := by decide +kernel
theorem dW_law_317 : decode bW_law 317 = .ok (.iload 4, 2) := by decide +kernel
theorem dW_law_319 : decode bW_law 319 = .ok (.iconst 2, 1) := by decide +kernel
theorem dW_law_320 : decode bW_law 320 = .ok (.iadd, 1) := by decide +kernel
theorem dW_law_321 : decode bW_law 321 = .ok (.iaload, 1) := by decide +kernel
theorem dW_law_322 : decode bW_law 322 = .ok (.aload_n 0, 1) := by decide +kernel
theorem dW_law_323 : decode bW_law 323 = .ok (.iload 4, 2) := by decide +kernel
theorem dW_law_325 : decode bW_law 325 = .ok (.iconst 3, 1) := by decide +kernel
theorem dW_law_326 : decode bW_law 326 = .ok (.iadd, 1) := by decide +kernel
theorem dW_law_327 : decode bW_law 327 = .ok (.iaload, 1) := by decide +kernel
theorem dW_law_328 : decode bW_law 328 = .ok (.aload_n 3, 1) := by decide +kernel
theorem dW_law_329 : decode bW_law 329 = .ok (.invokestatic 76, 3) := by decide +kernel
theorem dW_law_332 : decode bW_law 332 = .ok (.istore 5, 2) := by decide +kernel
theorem dW_law_334 : decode bW_law 334 = .ok (.aload_n 2, 1) := by decide +kernel
theorem dW_law_335 : decode bW_law 335 = .ok (.aload_n 0, 1) := by decide +kernel
theorem dW_law_336 : decode bW_law 336 = .ok (.iload 4, 2) := by decide +kernel
theorem dW_law_338 : decode bW_law 338 = .ok (.iconst 1, 1) := by decide +kernel
theorem dW_law_339 : decode bW_law 339 = .ok (.iadd, 1) := by decide +kernel
theorem dW_law_340 : decode bW_law 340 = .ok (.iaload, 1) := by decide +kernel
theorem dW_law_341 : decode bW_law 341 = .ok (.aload_n 0, 1) := by decide +kernel
theorem dW_law_342 : decode bW_law 342 = .ok (.iload 4, 2) := by decide +kernel
theorem dW_law_344 : decode bW_law 344 = .ok (.iconst 2, 1) := by decide +kernel
theorem dW_law_345 : decode bW_law 345 = .ok (.iadd, 1) := by decide +kernel
theorem dW_law_346 : decode bW_law 346 = .ok (.iaload, 1) := by decide +kernel
theorem dW_law_347 : decode bW_law 347 = .ok (.aload_n 0, 1) := by decide +kernel
theorem dW_law_348 : decode bW_law 348 = .ok (.iload 4, 2) := by decide +kernel
theorem dW_law_350 : decode bW_law 350 = .ok (.iconst 3, 1) := by decide +kernel
theorem dW_law_351 : decode bW_law 351 = .ok (.iadd, 1) := by decide +kernel
theorem dW_law_352 : decode bW_law 352 = .ok (.iaload, 1) := by decide +kernel
theorem dW_law_353 : decode bW_law 353 = .ok (.invokevirtual 78, 3) := by decide +kernel
theorem dW_law_356 : decode bW_law 356 = .ok (.istore 6, 2) := by decide +kernel
theorem dW_law_358 : decode bW_law 358 = .ok (.aload_n 2, 1) := by decide +kernel
theorem dW_law_359 : decode bW_law 359 = .ok (.invokevirtual 61, 3) := by decide +kernel
theorem dW_law_362 : decode bW_law 362 = .ok (.iload 5, 2) := by decide +kernel
theorem dW_law_364 : decode bW_law 364 = .ok (.if_icmp .eq 5, 3) := by decide +kernel
theorem dW_law_367 : decode bW_law 367 = .ok (.iconst 0, 1) := by decide +kernel
theorem dW_law_368 : decode bW_law 368 = .ok (.ireturn, 1) := by decide +kernel
theorem dW_law_369 : decode bW_law 369 = .ok (.iload 5, 2) := by decide +kernel
theorem dW_law_371 : decode bW_law 371 = .ok (.ifCond .ne 15, 3) := by decide +kernel
theorem dW_law_374 : decode bW_law 374 = .ok (.aload_n 3, 1) := by decide +kernel
theorem dW_law_375 : decode bW_law 375 = .ok (.iconst 0, 1) := by decide +kernel
theorem dW_law_376 : decode bW_law 376 = .ok (.laload, 1) := by decide +kernel
theorem dW_law_377 : decode bW_law 377 = .ok (.iload 6, 2) := by decide +kernel
theorem dW_law_379 : decode bW_law 379 = .ok (.i2l, 1) := by decide +kernel
theorem dW_law_380 : decode bW_law 380 = .ok (.lcmp, 1) := by decide +kernel
theorem dW_law_381 : decode bW_law 381 = .ok (.ifCond .eq 5, 3) := by decide +kernel
theorem dW_law_384 : decode bW_law 384 = .ok (.iconst 0, 1) := by decide +kernel
theorem dW_law_385 : decode bW_law 385 = .ok (.ireturn, 1) := by decide +kernel
theorem dW_law_386 : decode bW_law 386 = .ok (.goto 528, 3) := by decide +kernel
theorem dW_law_389 : decode bW_law 389 = .ok (.aload_n 1, 1) := by decide +kernel
theorem dW_law_390 : decode bW_law 390 = .ok (.aload_n 0, 1) := by decide +kernel
theorem dW_law_391 : decode bW_law 391 = .ok (.iload 4, 2) := by decide +kernel
theorem dW_law_393 : decode bW_law 393 = .ok (.iconst 1, 1) := by decide +kernel
theorem dW_law_394 : decode bW_law 394 = .ok (.iadd, 1) := by decide +kernel
theorem dW_law_395 : decode bW_law 395 = .ok (.iaload, 1) := by decide +kernel
theorem dW_law_396 : decode bW_law 396 = .ok (.aload_n 0, 1) := by decide +kernel
theorem dW_law_397 : decode bW_law 397 = .ok (.iload 4, 2) := by decide +kernel
theorem dW_law_399 : decode bW_law 399 = .ok (.iconst 2, 1) := by decide +kernel
theorem dW_law_400 : decode bW_law 400 = .ok (.iadd, 1) := by decide +kernel
theorem dW_law_401 : decode bW_law 401 = .ok (.iaload, 1) := by decide +kernel
theorem dW_law_402 : decode bW_law 402 = .ok (.aload_n 3, 1) := by decide +kernel
theorem dW_law_403 : decode bW_law 403 = .ok (.invokestatic 79, 3) := by decide +kernel
theorem dW_law_406 : decode bW_law 406 = .ok (.istore 5, 2) := by decide +kernel
theorem dW_law_408 : decode bW_law 408 = .ok (.aload_n 2, 1) := by decide +kernel
theorem dW_law_409 : decode bW_law 409 = .ok (.aload_n 0, 1) := by decide +kernel
theorem dW_law_410 : decode bW_law 410 = .ok (.iload 4, 2) := by decide +kernel
theorem dW_law_412 : decode bW_law 412 = .ok (.iconst 1, 1) := by decide +kernel
theorem dW_law_413 : decode bW_law 413 = .ok (.iadd, 1) := by decide +kernel
theorem dW_law_414 : decode bW_law 414 = .ok (.iaload, 1) := by decide +kernel
theorem dW_law_415 : decode bW_law 415 = .ok (.aload_n 0, 1) := by decide +kernel
theorem dW_law_416 : decode bW_law 416 = .ok (.iload 4, 2) := by decide +kernel
theorem dW_law_418 : decode bW_law 418 = .ok (.iconst 2, 1) := by decide +kernel
theorem dW_law_419 : decode bW_law 419 = .ok (.iadd, 1) := by decide +kernel
theorem dW_law_420 : decode bW_law 420 = .ok (.iaload, 1) := by decide +kernel
theorem dW_law_421 : decode bW_law 421 = .ok (.invokevirtual 82, 3) := by decide +kernel
theorem dW_law_424 : decode bW_law 424 = .ok (.istore 6, 2) := by decide +kernel
theorem dW_law_426 : decode bW_law 426 = .ok (.aload_n 2, 1) := by decide +kernel
theorem dW_law_427 : decode bW_law 427 = .ok (.invokevirtual 61, 3) := by decide +kernel
theorem dW_law_430 : decode bW_law 430 = .ok (.iload 5, 2) := by decide +kernel
theorem dW_law_432 : decode bW_law 432 = .ok (.if_icmp .eq 5, 3) := by decide +kernel
theorem dW_law_435 : decode bW_law 435 = .ok (.iconst 0, 1) := by decide +kernel
theorem dW_law_436 : decode bW_law 436 = .ok (.ireturn, 1) := by decide +kernel
theorem dW_law_437 : decode bW_law 437 = .ok (.iload 5, 2) := by decide +kernel
theorem dW_law_439 : decode bW_law 439 = .ok (.ifCond .ne 15, 3) := by decide +kernel
theorem dW_law_442 : decode bW_law 442 = .ok (.aload_n 3, 1) := by decide +kernel
theorem dW_law_443 : decode bW_law 443 = .ok (.iconst 0, 1) := by decide +kernel
theorem dW_law_444 : decode bW_law 444 = .ok (.laload, 1) := by decide +kernel
theorem dW_law_445 : decode bW_law 445 = .ok (.iload 6, 2) := by decide +kernel
theorem dW_law_447 : decode bW_law 447 = .ok (.i2l, 1) := by decide +kernel
theorem dW_law_448 : decode bW_law 448 = .ok (.lcmp, 1) := by decide +kernel
theorem dW_law_449 : decode bW_law 449 = .ok (.ifCond .eq 5, 3) := by decide +kernel
theorem dW_law_452 : decode bW_law 452 = .ok (.iconst 0, 1) := by decide +kernel
theorem dW_law_453 : decode bW_law 453 = .ok (.ireturn, 1) := by decide +kernel
theorem dW_law_454 : decode bW_law 454 = .ok (.goto 460, 3) := by decide +kernel
theorem dW_law_457 : decode bW_law 457 = .ok (.aload_n 1, 1) := by decide +kernel
theorem dW_law_458 : decode bW_law 458 = .ok (.aload_n 0, 1) := by decide +kernel
theorem dW_law_459 : decode bW_law 459 = .ok (.iload 4, 2) := by decide +kernel
theorem dW_law_461 : decode bW_law 461 = .ok (.iconst 1, 1) := by decide +kernel
theorem dW_law_462 : decode bW_law 462 = .ok (.iadd, 1) := by decide +kernel
theorem dW_law_463 : decode bW_law 463 = .ok (.iaload, 1) := by decide +kernel
theorem dW_law_464 : decode bW_law 464 = .ok (.aload_n 0, 1) := by decide +kernel
theorem dW_law_465 : decode bW_law 465 = .ok (.iload 4, 2) := by decide +kernel
theorem dW_law_467 : decode bW_law 467 = .ok (.iconst 2, 1) := by decide +kernel
theorem dW_law_468 : decode bW_law 468 = .ok (.iadd, 1) := by decide +kernel
theorem dW_law_469 : decode bW_law 469 = .ok (.iaload, 1) := by decide +kernel
theorem dW_law_470 : decode bW_law 470 = .ok (.aload_n 0, 1) := by decide +kernel
theorem dW_law_471 : decode bW_law 471 = .ok (.iload 4, 2) := by decide +kernel
theorem dW_law_473 : decode bW_law 473 = .ok (.iconst 3, 1) := by decide +kernel
theorem dW_law_474 : decode bW_law 474 = .ok (.iadd, 1) := by decide +kernel
theorem dW_law_475 : decode bW_law 475 = .ok (.iaload, 1) := by decide +kernel
theorem dW_law_476 : decode bW_law 476 = .ok (.aload_n 3, 1) := by decide +kernel
theorem dW_law_477 : decode bW_law 477 = .ok (.invokestatic 83, 3) := by decide +kernel
theorem dW_law_480 : decode bW_law 480 = .ok (.istore 5, 2) := by decide +kernel
theorem dW_law_482 : decode bW_law 482 = .ok (.aload_n 2, 1) := by decide +kernel
theorem dW_law_483 : decode bW_law 483 = .ok (.aload_n 0, 1) := by decide +kernel
theorem dW_law_484 : decode bW_law 484 = .ok (.iload 4, 2) := by decide +kernel
theorem dW_law_486 : decode bW_law 486 = .ok (.iconst 1, 1) := by decide +kernel
theorem dW_law_487 : decode bW_law 487 = .ok (.iadd, 1) := by decide +kernel
theorem dW_law_488 : decode bW_law 488 = .ok (.iaload, 1) := by decide +kernel
theorem dW_law_489 : decode bW_law 489 = .ok (.aload_n 0, 1) := by decide +kernel
theorem dW_law_490 : decode bW_law 490 = .ok (.iload 4, 2) := by decide +kernel
theorem dW_law_492 : decode bW_law 492 = .ok (.iconst 2, 1) := by decide +kernel
theorem dW_law_493 : decode bW_law 493 = .ok (.iadd, 1) := by decide +kernel
theorem dW_law_494 : decode bW_law 494 = .ok (.iaload, 1) := by decide +kernel
theorem dW_law_495 : decode bW_law 495 = .ok (.aload_n 0, 1) := by decide +kernel
theorem dW_law_496 : decode bW_law 496 = .ok (.iload 4, 2) := by decide +kernel
theorem dW_law_498 : decode bW_law 498 = .ok (.iconst 3, 1) := by decide +kernel
theorem dW_law_499 : decode bW_law 499 = .ok (.iadd, 1) := by decide +kernel
theorem dW_law_500 : decode bW_law 500 = .ok (.iaload, 1) := by decide +kernel
theorem dW_law_501 : decode bW_law 501 = .ok (.invokevirtual 85, 3) := by decide +kernel
theorem dW_law_504 : decode bW_law 504 = .ok (.istore 6, 2) := by decide +kernel
theorem dW_law_506 : decode bW_law 506 = .ok (.aload_n 2, 1) := by decide +kernel
theorem dW_law_507 : decode bW_law 507 = .ok (.invokevirtual 61, 3) := by decide +kernel
theorem dW_law_510 : decode bW_law 510 = .ok (.iload 5, 2) := by decide +kernel
theorem dW_law_512 : decode bW_law 512 = .ok (.if_icmp .eq 5, 3) := by decide +kernel
theorem dW_law_515 : decode bW_law 515 = .ok (.iconst 0, 1) := by decide +kernel
theorem dW_law_516 : decode bW_law 516 = .ok (.ireturn, 1) := by decide +kernel
theorem dW_law_517 : decode bW_law 517 = .ok (.iload 5, 2) := by decide +kernel
theorem dW_law_519 : decode bW_law 519 = .ok (.ifCond .ne 15, 3) := by decide +kernel
theorem dW_law_522 : decode bW_law 522 = .ok (.aload_n 3, 1) := by decide +kernel
theorem dW_law_523 : decode bW_law 523 = .ok (.iconst 0, 1) := by decide +kernel
theorem dW_law_524 : decode bW_law 524 = .ok (.laload, 1) := by decide +kernel
theorem dW_law_525 : decode bW_law 525 = .ok (.iload 6, 2) := by decide +kernel
theorem dW_law_527 : decode bW_law 527 = .ok (.i2l, 1) := by decide +kernel
theorem dW_law_528 : decode bW_law 528 = .ok (.lcmp, 1) := by decide +kernel
theorem dW_law_529 : decode bW_law 529 = .ok (.ifCond .eq 5, 3) := by decide +kernel
theorem dW_law_532 : decode bW_law 532 = .ok (.iconst 0, 1) := by decide +kernel
theorem dW_law_533 : decode bW_law 533 = .ok (.ireturn, 1) := by decide +kernel
theorem dW_law_534 : decode bW_law 534 = .ok (.goto 380, 3) := by decide +kernel
theorem dW_law_537 : decode bW_law 537 = .ok (.aload_n 1, 1) := by decide +kernel
theorem dW_law_538 : decode bW_law 538 = .ok (.aload_n 0, 1) := by decide +kernel
theorem dW_law_539 : decode bW_law 539 = .ok (.iload 4, 2) := by decide +kernel
theorem dW_law_541 : decode bW_law 541 = .ok (.iconst 1, 1) := by decide +kernel
theorem dW_law_542 : decode bW_law 542 = .ok (.iadd, 1) := by decide +kernel
theorem dW_law_543 : decode bW_law 543 = .ok (.iaload, 1) := by decide +kernel
theorem dW_law_544 : decode bW_law 544 = .ok (.aload_n 0, 1) := by decide +kernel
theorem dW_law_545 : decode bW_law 545 = .ok (.iload 4, 2) := by decide +kernel
theorem dW_law_547 : decode bW_law 547 = .ok (.iconst 2, 1) := by decide +kernel
theorem dW_law_548 : decode bW_law 548 = .ok (.iadd, 1) := by decide +kernel
theorem dW_law_549 : decode bW_law 549 = .ok (.iaload, 1) := by decide +kernel
theorem dW_law_550 : decode bW_law 550 = .ok (.aload_n 0, 1) := by decide +kernel
theorem dW_law_551 : decode bW_law 551 = .ok (.iload 4, 2) := by decide +kernel
theorem dW_law_553 : decode bW_law 553 = .ok (.iconst 3, 1) := by decide +kernel
theorem dW_law_554 : decode bW_law 554 = .ok (.iadd, 1) := by decide +kernel
theorem dW_law_555 : decode bW_law 555 = .ok (.iaload, 1) := by decide +kernel
theorem dW_law_556 : decode bW_law 556 = .ok (.aload_n 3, 1) := by decide +kernel
theorem dW_law_557 : decode bW_law 557 = .ok (.invokestatic 86, 3) := by decide +kernel
theorem dW_law_560 : decode bW_law 560 = .ok (.istore 5, 2) := by decide +kernel
theorem dW_law_562 : decode bW_law 562 = .ok (.aload_n 2, 1) := by decide +kernel
theorem dW_law_563 : decode bW_law 563 = .ok (.aload_n 0, 1) := by decide +kernel
theorem dW_law_564 : decode bW_law 564 = .ok (.iload 4, 2) := by decide +kernel
theorem dW_law_566 : decode bW_law 566 = .ok (.iconst 1, 1) := by decide +kernel
theorem dW_law_567 : decode bW_law 567 = .ok (.iadd, 1) := by decide +kernel
theorem dW_law_568 : decode bW_law 568 = .ok (.iaload, 1) := by decide +kernel
theorem dW_law_569 : decode bW_law 569 = .ok (.aload_n 0, 1) := by decide +kernel
theorem dW_law_570 : decode bW_law 570 = .ok (.iload 4, 2) := by decide +kernel
theorem dW_law_572 : decode bW_law 572 = .ok (.iconst 2, 1) := by decide +kernel
theorem dW_law_573 : decode bW_law 573 = .ok (.iadd, 1) := by decide +kernel
theorem dW_law_574 : decode bW_law 574 = .ok (.iaload, 1) := by decide +kernel
theorem dW_law_575 : decode bW_law 575 = .ok (.aload_n 0, 1) := by decide +kernel
theorem dW_law_576 : decode bW_law 576 = .ok (.iload 4, 2) := by decide +kernel
theorem dW_law_578 : decode bW_law 578 = .ok (.iconst 3, 1) := by decide +kernel
theorem dW_law_579 : decode bW_law 579 = .ok (.iadd, 1) := by decide +kernel
theorem dW_law_580 : decode bW_law 580 = .ok (.iaload, 1) := by decide +kernel
theorem dW_law_581 : decode bW_law 581 = .ok (.invokevirtual 88, 3) := by decide +kernel
theorem dW_law_584 : decode bW_law 584 = .ok (.istore 6, 2) := by decide +kernel
theorem dW_law_586 : decode bW_law 586 = .ok (.aload_n 2, 1) := by decide +kernel
theorem dW_law_587 : decode bW_law 587 = .ok (.invokevirtual 61, 3) := by decide +kernel
theorem dW_law_590 : decode bW_law 590 = .ok (.iload 5, 2) := by decide +kernel
theorem dW_law_592 : decode bW_law 592 = .ok (.if_icmp .eq 5, 3) := by decide +kernel
theorem dW_law_595 : decode bW_law 595 = .ok (.iconst 0, 1) := by decide +kernel
theorem dW_law_596 : decode bW_law 596 = .ok (.ireturn, 1) := by decide +kernel
theorem dW_law_597 : decode bW_law 597 = .ok (.iload 5, 2) := by decide +kernel
theorem dW_law_599 : decode bW_law 599 = .ok (.ifCond .ne 15, 3) := by decide +kernel
theorem dW_law_602 : decode bW_law 602 = .ok (.aload_n 3, 1) := by decide +kernel
theorem dW_law_603 : decode bW_law 603 = .ok (.iconst 0, 1) := by decide +kernel
theorem dW_law_604 : decode bW_law 604 = .ok (.laload, 1) := by decide +kernel
theorem dW_law_605 : decode bW_law 605 = .ok (.iload 6, 2) := by decide +kernel
theorem dW_law_607 : decode bW_law 607 = .ok (.i2l, 1) := by decide +kernel
theorem dW_law_608 : decode bW_law 608 = .ok (.lcmp, 1) := by decide +kernel
theorem dW_law_609 : decode bW_law 609 = .ok (.ifCond .eq 5, 3) := by decide +kernel
theorem dW_law_612 : decode bW_law 612 = .ok (.iconst 0, 1) := by decide +kernel
theorem dW_law_613 : decode bW_law 613 = .ok (.ireturn, 1) := by decide +kernel
theorem dW_law_614 : decode bW_law 614 = .ok (.goto 300, 3) := by decide +kernel
theorem dW_law_617 : decode bW_law 617 = .ok (.aload_n 1, 1) := by decide +kernel
theorem dW_law_618 : decode bW_law 618 = .ok (.aload_n 0, 1) := by decide +kernel
theorem dW_law_619 : decode bW_law 619 = .ok (.iload 4, 2) := by decide +kernel
theorem dW_law_621 : decode bW_law 621 = .ok (.iconst 1, 1) := by decide +kernel
theorem dW_law_622 : decode bW_law 622 = .ok (.iadd, 1) := by decide +kernel
theorem dW_law_623 : decode bW_law 623 = .ok (.iaload, 1) := by decide +kernel
theorem dW_law_624 : decode bW_law 624 = .ok (.aload_n 0, 1) := by decide +kernel
theorem dW_law_625 : decode bW_law 625 = .ok (.iload 4, 2) := by decide +kernel
theorem dW_law_627 : decode bW_law 627 = .ok (.iconst 2, 1) := by decide +kernel
theorem dW_law_628 : decode bW_law 628 = .ok (.iadd, 1) := by decide +kernel
theorem dW_law_629 : decode bW_law 629 = .ok (.iaload, 1) := by decide +kernel
theorem dW_law_630 : decode bW_law 630 = .ok (.aload_n 3, 1) := by decide +kernel
theorem dW_law_631 : decode bW_law 631 = .ok (.invokestatic 89, 3) := by decide +kernel
theorem dW_law_634 : decode bW_law 634 = .ok (.istore 5, 2) := by decide +kernel
theorem dW_law_636 : decode bW_law 636 = .ok (.aload_n 2, 1) := by decide +kernel
theorem dW_law_637 : decode bW_law 637 = .ok (.aload_n 0, 1) := by decide +kernel
theorem dW_law_638 : decode bW_law 638 = .ok (.iload 4, 2) := by decide +kernel
theorem dW_law_640 : decode bW_law 640 = .ok (.iconst 1, 1) := by decide +kernel
theorem dW_law_641 : decode bW_law 641 = .ok (.iadd, 1) := by decide +kernel
theorem dW_law_642 : decode bW_law 642 = .ok (.iaload, 1) := by decide +kernel
theorem dW_law_643 : decode bW_law 643 = .ok (.aload_n 0, 1) := by decide +kernel
theorem dW_law_644 : decode bW_law 644 = .ok (.iload 4, 2) := by decide +kernel
theorem dW_law_646 : decode bW_law 646 = .ok (.iconst 2, 1) := by decide +kernel
theorem dW_law_647 : decode bW_law 647 = .ok (.iadd, 1) := by decide +kernel
theorem dW_law_648 : decode bW_law 648 = .ok (.iaload, 1) := by decide +kernel
theorem dW_law_649 : decode bW_law 649 = .ok (.invokevirtual 91, 3) := by decide +kernel
theorem dW_law_652 : decode bW_law 652 = .ok (.istore 6, 2) := by decide +kernel
theorem dW_law_654 : decode bW_law 654 = .ok (.aload_n 2, 1) := by decide +kernel
theorem dW_law_655 : decode bW_law 655 = .ok (.invokevirtual 61, 3) := by decide +kernel
theorem dW_law_658 : decode bW_law 658 = .ok (.iload 5, 2) := by decide +kernel
theorem dW_law_660 : decode bW_law 660 = .ok (.if_icmp .eq 5, 3) := by decide +kernel
theorem dW_law_663 : decode bW_law 663 = .ok (.iconst 0, 1) := by decide +kernel
theorem dW_law_664 : decode bW_law 664 = .ok (.ireturn, 1) := by decide +kernel
theorem dW_law_665 : decode bW_law 665 = .ok (.iload 5, 2) := by decide +kernel
theorem dW_law_667 : decode bW_law 667 = .ok (.ifCond .ne 15, 3) := by decide +kernel
theorem dW_law_670 : decode bW_law 670 = .ok (.aload_n 3, 1) := by decide +kernel
theorem dW_law_671 : decode bW_law 671 = .ok (.iconst 0, 1) := by decide +kernel
theorem dW_law_672 : decode bW_law 672 = .ok (.laload, 1) := by decide +kernel
theorem dW_law_673 : decode bW_law 673 = .ok (.iload 6, 2) := by decide +kernel
theorem dW_law_675 : decode bW_law 675 = .ok (.i2l, 1) := by decide +kernel
theorem dW_law_676 : decode bW_law 676 = .ok (.lcmp, 1) := by decide +kernel
theorem dW_law_677 : decode bW_law 677 = .ok (.ifCond .eq 5, 3) := by decide +kernel
theorem dW_law_680 : decode bW_law 680 = .ok (.iconst 0, 1) := by decide +kernel
theorem dW_law_681 : decode bW_law 681 = .ok (.ireturn, 1) := by decide +kernel
theorem dW_law_682 : decode bW_law 682 = .ok (.goto 232, 3) := by decide +kernel
theorem dW_law_685 : decode bW_law 685 = .ok (.aload_n 1, 1) := by decide +kernel
theorem dW_law_686 : decode bW_law 686 = .ok (.aload_n 0, 1) := by decide +kernel
theorem dW_law_687 : decode bW_law 687 = .ok (.iload 4, 2) := by decide +kernel
theorem dW_law_689 : decode bW_law 689 = .ok (.iconst 1, 1) := by decide +kernel
theorem dW_law_690 : decode bW_law 690 = .ok (.iadd, 1) := by decide +kernel
theorem dW_law_691 : decode bW_law 691 = .ok (.iaload, 1) := by decide +kernel
theorem dW_law_692 : decode bW_law 692 = .ok (.aload_n 3, 1) := by decide +kernel
theorem dW_law_693 : decode bW_law 693 = .ok (.invokestatic 92, 3) := by decide +kernel
theorem dW_law_696 : decode bW_law 696 = .ok (.istore 5, 2) := by decide +kernel
theorem dW_law_698 : decode bW_law 698 = .ok (.aload_n 2, 1) := by decide +kernel
theorem dW_law_699 : decode bW_law 699 = .ok (.aload_n 0, 1) := by decide +kernel
theorem dW_law_700 : decode bW_law 700 = .ok (.iload 4, 2) := by decide +kernel
theorem dW_law_702 : decode bW_law 702 = .ok (.iconst 1, 1) := by decide +kernel
theorem dW_law_703 : decode bW_law 703 = .ok (.iadd, 1) := by decide +kernel
theorem dW_law_704 : decode bW_law 704 = .ok (.iaload, 1) := by decide +kernel
theorem dW_law_705 : decode bW_law 705 = .ok (.invokevirtual 94, 3) := by decide +kernel
theorem dW_law_708 : decode bW_law 708 = .ok (.istore 6, 2) := by decide +kernel
theorem dW_law_710 : decode bW_law 710 = .ok (.aload_n 2, 1) := by decide +kernel
theorem dW_law_711 : decode bW_law 711 = .ok (.invokevirtual 61, 3) := by decide +kernel
theorem dW_law_714 : decode bW_law 714 = .ok (.iload 5, 2) := by decide +kernel
theorem dW_law_716 : decode bW_law 716 = .ok (.if_icmp .eq 5, 3) := by decide +kernel
theorem dW_law_719 : decode bW_law 719 = .ok (.iconst 0, 1) := by decide +kernel
theorem dW_law_720 : decode bW_law 720 = .ok (.ireturn, 1) := by decide +kernel
theorem dW_law_721 : decode bW_law 721 = .ok (.iload 5, 2) := by decide +kernel
theorem dW_law_723 : decode bW_law 723 = .ok (.ifCond .ne 15, 3) := by decide +kernel
theorem dW_law_726 : decode bW_law 726 = .ok (.aload_n 3, 1) := by decide +kernel
theorem dW_law_727 : decode bW_law 727 = .ok (.iconst 0, 1) := by decide +kernel
theorem dW_law_728 : decode bW_law 728 = .ok (.laload, 1) := by decide +kernel
theorem dW_law_729 : decode bW_law 729 = .ok (.iload 6, 2) := by decide +kernel
theorem dW_law_731 : decode bW_law 731 = .ok (.i2l, 1) := by decide +kernel
theorem dW_law_732 : decode bW_law 732 = .ok (.lcmp, 1) := by decide +kernel
theorem dW_law_733 : decode bW_law 733 = .ok (.ifCond .eq 5, 3) := by decide +kernel
theorem dW_law_736 : decode bW_law 736 = .ok (.iconst 0, 1) := by decide +kernel
theorem dW_law_737 : decode bW_law 737 = .ok (.ireturn, 1) := by decide +kernel
theorem dW_law_738 : decode bW_law 738 = .ok (.goto 176, 3) := by decide +kernel
theorem dW_law_741 : decode bW_law 741 = .ok (.aload_n 1, 1) := by decide +kernel
theorem dW_law_742 : decode bW_law 742 = .ok (.aload_n 0, 1) := by decide +kernel
theorem dW_law_743 : decode bW_law 743 = .ok (.iload 4, 2) := by decide +kernel
theorem dW_law_745 : decode bW_law 745 = .ok (.iconst 1, 1) := by decide +kernel
theorem dW_law_746 : decode bW_law 746 = .ok (.iadd, 1) := by decide +kernel
theorem dW_law_747 : decode bW_law 747 = .ok (.iaload, 1) := by decide +kernel
theorem dW_law_748 : decode bW_law 748 = .ok (.aload_n 0, 1) := by decide +kernel
theorem dW_law_749 : decode bW_law 749 = .ok (.iload 4, 2) := by decide +kernel
theorem dW_law_751 : decode bW_law 751 = .ok (.iconst 2, 1) := by decide +kernel
theorem dW_law_752 : decode bW_law 752 = .ok (.iadd, 1) := by decide +kernel
theorem dW_law_753 : decode bW_law 753 = .ok (.iaload, 1) := by decide +kernel
theorem dW_law_754 : decode bW_law 754 = .ok (.aload_n 0, 1) := by decide +kernel
theorem dW_law_755 : decode bW_law 755 = .ok (.iload 4, 2) := by decide +kernel
theorem dW_law_757 : decode bW_law 757 = .ok (.iconst 3, 1) := by decide +kernel
theorem dW_law_758 : decode bW_law 758 = .ok (.iadd, 1) := by decide +kernel
theorem dW_law_759 : decode bW_law 759 = .ok (.iaload, 1) := by decide +kernel
theorem dW_law_760 : decode bW_law 760 = .ok (.aload_n 3, 1) := by decide +kernel
theorem dW_law_761 : decode bW_law 761 = .ok (.invokestatic 95, 3) := by decide +kernel
theorem dW_law_764 : decode bW_law 764 = .ok (.istore 5, 2) := by decide +kernel
theorem dW_law_766 : decode bW_law 766 = .ok (.aload_n 2, 1) := by decide +kernel
theorem dW_law_767 : decode bW_law 767 = .ok (.aload_n 0, 1) := by decide +kernel
theorem dW_law_768 : decode bW_law 768 = .ok (.iload 4, 2) := by decide +kernel
theorem dW_law_770 : decode bW_law 770 = .ok (.iconst 1, 1) := by decide +kernel
theorem dW_law_771 : decode bW_law 771 = .ok (.iadd, 1) := by decide +kernel
theorem dW_law_772 : decode bW_law 772 = .ok (.iaload, 1) := by decide +kernel
theorem dW_law_773 : decode bW_law 773 = .ok (.aload_n 0, 1) := by decide +kernel
theorem dW_law_774 : decode bW_law 774 = .ok (.iload 4, 2) := by decide +kernel
theorem dW_law_776 : decode bW_law 776 = .ok (.iconst 2, 1) := by decide +kernel
theorem dW_law_777 : decode bW_law 777 = .ok (.iadd, 1) := by decide +kernel
theorem dW_law_778 : decode bW_law 778 = .ok (.iaload, 1) := by decide +kernel
theorem dW_law_779 : decode bW_law 779 = .ok (.aload_n 0, 1) := by decide +kernel
theorem dW_law_780 : decode bW_law 780 = .ok (.iload 4, 2) := by decide +kernel
theorem dW_law_782 : decode bW_law 782 = .ok (.iconst 3, 1) := by decide +kernel
theorem dW_law_783 : decode bW_law 783 = .ok (.iadd, 1) := by decide +kernel
theorem dW_law_784 : decode bW_law 784 = .ok (.iaload, 1) := by decide +kernel
theorem dW_law_785 : decode bW_law 785 = .ok (.invokevirtual 97, 3) := by decide +kernel
theorem dW_law_788 : decode bW_law 788 = .ok (.istore 6, 2) := by decide +kernel
theorem dW_law_790 : decode bW_law 790 = .ok (.aload_n 2, 1) := by decide +kernel
theorem dW_law_791 : decode bW_law 791 = .ok (.invokevirtual 61, 3) := by decide +kernel
theorem dW_law_794 : decode bW_law 794 = .ok (.iload 5, 2) := by decide +kernel
theorem dW_law_796 : decode bW_law 796 = .ok (.if_icmp .eq 5, 3) := by decide +kernel
theorem dW_law_799 : decode bW_law 799 = .ok (.iconst 0, 1) := by decide +kernel
theorem dW_law_800 : decode bW_law 800 = .ok (.ireturn, 1) := by decide +kernel
theorem dW_law_801 : decode bW_law 801 = .ok (.iload 5, 2) := by decide +kernel
theorem dW_law_803 : decode bW_law 803 = .ok (.ifCond .ne 15, 3) := by decide +kernel
theorem dW_law_806 : decode bW_law 806 = .ok (.aload_n 3, 1) := by decide +kernel
theorem dW_law_807 : decode bW_law 807 = .ok (.iconst 0, 1) := by decide +kernel
theorem dW_law_808 : decode bW_law 808 = .ok (.laload, 1) := by decide +kernel
theorem dW_law_809 : decode bW_law 809 = .ok (.iload 6, 2) := by decide +kernel
theorem dW_law_811 : decode bW_law 811 = .ok (.i2l, 1) := by decide +kernel
theorem dW_law_812 : decode bW_law 812 = .ok (.lcmp, 1) := by decide +kernel
theorem dW_law_813 : decode bW_law 813 = .ok (.ifCond .eq 5, 3) := by decide +kernel
theorem dW_law_816 : decode bW_law 816 = .ok (.iconst 0, 1) := by decide +kernel
theorem dW_law_817 : decode bW_law 817 = .ok (.ireturn, 1) := by decide +kernel
theorem dW_law_818 : decode bW_law 818 = .ok (.goto 96, 3) := by decide +kernel
theorem dW_law_821 : decode bW_law 821 = .ok (.aload_n 1, 1) := by decide +kernel
theorem dW_law_822 : decode bW_law 822 = .ok (.aload_n 0, 1) := by decide +kernel
theorem dW_law_823 : decode bW_law 823 = .ok (.iload 4, 2) := by decide +kernel
theorem dW_law_825 : decode bW_law 825 = .ok (.iconst 1, 1) := by decide +kernel
theorem dW_law_826 : decode bW_law 826 = .ok (.iadd, 1) := by decide +kernel
theorem dW_law_827 : decode bW_law 827 = .ok (.iaload, 1) := by decide +kernel
theorem dW_law_828 : decode bW_law 828 = .ok (.aload_n 0, 1) := by decide +kernel
theorem dW_law_829 : decode bW_law 829 = .ok (.iload 4, 2) := by decide +kernel
theorem dW_law_831 : decode bW_law 831 = .ok (.iconst 2, 1) := by decide +kernel
theorem dW_law_832 : decode bW_law 832 = .ok (.iadd, 1) := by decide +kernel
theorem dW_law_833 : decode bW_law 833 = .ok (.iaload, 1) := by decide +kernel
theorem dW_law_834 : decode bW_law 834 = .ok (.aload_n 3, 1) := by decide +kernel
theorem dW_law_835 : decode bW_law 835 = .ok (.invokestatic 98, 3) := by decide +kernel
theorem dW_law_838 : decode bW_law 838 = .ok (.istore 5, 2) := by decide +kernel
theorem dW_law_840 : decode bW_law 840 = .ok (.aload_n 2, 1) := by decide +kernel
theorem dW_law_841 : decode bW_law 841 = .ok (.aload_n 0, 1) := by decide +kernel
theorem dW_law_842 : decode bW_law 842 = .ok (.iload 4, 2) := by decide +kernel
theorem dW_law_844 : decode bW_law 844 = .ok (.iconst 1, 1) := by decide +kernel
theorem dW_law_845 : decode bW_law 845 = .ok (.iadd, 1) := by decide +kernel
theorem dW_law_846 : decode bW_law 846 = .ok (.iaload, 1) := by decide +kernel
theorem dW_law_847 : decode bW_law 847 = .ok (.aload_n 0, 1) := by decide +kernel
theorem dW_law_848 : decode bW_law 848 = .ok (.iload 4, 2) := by decide +kernel
theorem dW_law_850 : decode bW_law 850 = .ok (.iconst 2, 1) := by decide +kernel
theorem dW_law_851 : decode bW_law 851 = .ok (.iadd, 1) := by decide +kernel
theorem dW_law_852 : decode bW_law 852 = .ok (.iaload, 1) := by decide +kernel
theorem dW_law_853 : decode bW_law 853 = .ok (.invokevirtual 100, 3) := by decide +kernel
theorem dW_law_856 : decode bW_law 856 = .ok (.istore 6, 2) := by decide +kernel
theorem dW_law_858 : decode bW_law 858 = .ok (.aload_n 2, 1) := by decide +kernel
theorem dW_law_859 : decode bW_law 859 = .ok (.invokevirtual 61, 3) := by decide +kernel
theorem dW_law_862 : decode bW_law 862 = .ok (.iload 5, 2) := by decide +kernel
theorem dW_law_864 : decode bW_law 864 = .ok (.if_icmp .eq 5, 3) := by decide +kernel
theorem dW_law_867 : decode bW_law 867 = .ok (.iconst 0, 1) := by decide +kernel
theorem dW_law_868 : decode bW_law 868 = .ok (.ireturn, 1) := by decide +kernel
theorem dW_law_869 : decode bW_law 869 = .ok (.iload 5, 2) := by decide +kernel
theorem dW_law_871 : decode bW_law 871 = .ok (.ifCond .ne 15, 3) := by decide +kernel
theorem dW_law_874 : decode bW_law 874 = .ok (.aload_n 3, 1) := by decide +kernel
theorem dW_law_875 : decode bW_law 875 = .ok (.iconst 0, 1) := by decide +kernel
theorem dW_law_876 : decode bW_law 876 = .ok (.laload, 1) := by decide +kernel
theorem dW_law_877 : decode bW_law 877 = .ok (.iload 6, 2) := by decide +kernel
theorem dW_law_879 : decode bW_law 879 = .ok (.i2l, 1) := by decide +kernel
theorem dW_law_880 : decode bW_law 880 = .ok (.lcmp, 1) := by decide +kernel
theorem dW_law_881 : decode bW_law 881 = .ok (.ifCond .eq 5, 3) := by decide +kernel
theorem dW_law_884 : decode bW_law 884 = .ok (.iconst 0, 1) := by decide +kernel
theorem dW_law_885 : decode bW_law 885 = .ok (.ireturn, 1) := by decide +kernel
theorem dW_law_886 : decode bW_law 886 = .ok (.goto 28, 3) := by decide +kernel
theorem dW_law_889 : decode bW_law 889 = .ok (.aload_n 1, 1) := by decide +kernel
theorem dW_law_890 : decode bW_law 890 = .ok (.aload_n 0, 1) := by decide +kernel
theorem dW_law_891 : decode bW_law 891 = .ok (.iload 4, 2) := by decide +kernel
theorem dW_law_893 : decode bW_law 893 = .ok (.iconst 1, 1) := by decide +kernel
theorem dW_law_894 : decode bW_law 894 = .ok (.iadd, 1) := by decide +kernel
theorem dW_law_895 : decode bW_law 895 = .ok (.iaload, 1) := by decide +kernel
theorem dW_law_896 : decode bW_law 896 = .ok (.invokevirtual 101, 3) := by decide +kernel
theorem dW_law_899 : decode bW_law 899 = .ok (.aload_n 2, 1) := by decide +kernel
theorem dW_law_900 : decode bW_law 900 = .ok (.aload_n 0, 1) := by decide +kernel
theorem dW_law_901 : decode bW_law 901 = .ok (.iload 4, 2) := by decide +kernel
theorem dW_law_903 : decode bW_law 903 = .ok (.iconst 1, 1) := by decide +kernel
theorem dW_law_904 : decode bW_law 904 = .ok (.iadd, 1) := by decide +kernel
theorem dW_law_905 : decode bW_law 905 = .ok (.iaload, 1) := by decide +kernel
theorem dW_law_906 : decode bW_law 906 = .ok (.invokevirtual 104, 3) := by decide +kernel
theorem dW_law_909 : decode bW_law 909 = .ok (.if_icmp .eq 5, 3) := by decide +kernel
theorem dW_law_912 : decode bW_law 912 = .ok (.iconst 0, 1) := by decide +kernel
theorem dW_law_913 : decode bW_law 913 = .ok (.ireturn, 1) := by decide +kernel
theorem dW_law_914 : decode bW_law 914 = .ok (.iinc 4 4, 3) := by decide +kernel
theorem dW_law_917 : decode bW_law 917 = .ok (.goto (-894), 3) := by decide +kernel
theorem dW_law_920 : decode bW_law 920 = .ok (.iconst 1, 1) := by decide +kernel
theorem dW_law_921 : decode bW_law 921 = .ok (.ireturn, 1) := by decide +kernel
