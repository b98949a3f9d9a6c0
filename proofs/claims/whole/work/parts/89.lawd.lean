theorem d_Law_law_0 : decode code 0 = .ok (.new 8, 3) := by decide +kernel
theorem d_Law_law_3 : decode code 3 = .ok (.dup, 1) := by decide +kernel
theorem d_Law_law_4 : decode code 4 = .ok (.invokespecial 49, 3) := by decide +kernel
theorem d_Law_law_7 : decode code 7 = .ok (.astore_n 1, 1) := by decide +kernel
theorem d_Law_law_8 : decode code 8 = .ok (.new 50, 3) := by decide +kernel
theorem d_Law_law_11 : decode code 11 = .ok (.dup, 1) := by decide +kernel
theorem d_Law_law_12 : decode code 12 = .ok (.invokespecial 52, 3) := by decide +kernel
theorem d_Law_law_15 : decode code 15 = .ok (.astore_n 2, 1) := by decide +kernel
theorem d_Law_law_16 : decode code 16 = .ok (.iconst 1, 1) := by decide +kernel
theorem d_Law_law_17 : decode code 17 = .ok (.newarray .long, 2) := by decide +kernel
theorem d_Law_law_19 : decode code 19 = .ok (.astore_n 3, 1) := by decide +kernel
theorem d_Law_law_20 : decode code 20 = .ok (.iconst 0, 1) := by decide +kernel
theorem d_Law_law_21 : decode code 21 = .ok (.istore 4, 2) := by decide +kernel
theorem d_Law_law_23 : decode code 23 = .ok (.iload 4, 2) := by decide +kernel
theorem d_Law_law_25 : decode code 25 = .ok (.aload_n 0, 1) := by decide +kernel
theorem d_Law_law_26 : decode code 26 = .ok (.arraylength, 1) := by decide +kernel
theorem d_Law_law_27 : decode code 27 = .ok (.iconst 5, 1) := by decide +kernel
theorem d_Law_law_28 : decode code 28 = .ok (.isub, 1) := by decide +kernel
theorem d_Law_law_29 : decode code 29 = .ok (.if_icmp .gt 850, 3) := by decide +kernel
theorem d_Law_law_32 : decode code 32 = .ok (.aload_n 0, 1) := by decide +kernel
theorem d_Law_law_33 : decode code 33 = .ok (.iload 4, 2) := by decide +kernel
theorem d_Law_law_35 : decode code 35 = .ok (.iaload, 1) := by decide +kernel
theorem d_Law_law_36 : decode code 36 = .ok (.bipush 15, 2) := by decide +kernel
theorem d_Law_law_38 : decode code 38 = .ok (.iand, 1) := by decide +kernel
theorem d_Law_law_39 : decode code 39 = .ok (.tableswitch 834 0 10 #[57, 145, 201, 214, 313, 400, 456, 544, 611, 667, 778], 57) := by decide +kernel
theorem d_Law_law_96 : decode code 96 = .ok (.aload_n 1, 1) := by decide +kernel
theorem d_Law_law_97 : decode code 97 = .ok (.aload_n 0, 1) := by decide +kernel
theorem d_Law_law_98 : decode code 98 = .ok (.iload 4, 2) := by decide +kernel
theorem d_Law_law_100 : decode code 100 = .ok (.iconst 1, 1) := by decide +kernel
theorem d_Law_law_101 : decode code 101 = .ok (.iadd, 1) := by decide +kernel
theorem d_Law_law_102 : decode code 102 = .ok (.iaload, 1) := by decide +kernel
theorem d_Law_law_103 : decode code 103 = .ok (.i2l, 1) := by decide +kernel
theorem d_Law_law_104 : decode code 104 = .ok (.bipush 32, 2) := by decide +kernel
theorem d_Law_law_106 : decode code 106 = .ok (.lshl, 1) := by decide +kernel
theorem d_Law_law_107 : decode code 107 = .ok (.aload_n 0, 1) := by decide +kernel
theorem d_Law_law_108 : decode code 108 = .ok (.iload 4, 2) := by decide +kernel
theorem d_Law_law_110 : decode code 110 = .ok (.iconst 2, 1) := by decide +kernel
theorem d_Law_law_111 : decode code 111 = .ok (.iadd, 1) := by decide +kernel
theorem d_Law_law_112 : decode code 112 = .ok (.iaload, 1) := by decide +kernel
theorem d_Law_law_113 : decode code 113 = .ok (.i2l, 1) := by decide +kernel
theorem d_Law_law_114 : decode code 114 = .ok (.ldc2_w 53, 3) := by decide +kernel
theorem d_Law_law_117 : decode code 117 = .ok (.land, 1) := by decide +kernel
theorem d_Law_law_118 : decode code 118 = .ok (.lor, 1) := by decide +kernel
theorem d_Law_law_119 : decode code 119 = .ok (.aload_n 3, 1) := by decide +kernel
theorem d_Law_law_120 : decode code 120 = .ok (.invokestatic 55, 3) := by decide +kernel
theorem d_Law_law_123 : decode code 123 = .ok (.istore 5, 2) := by decide +kernel
theorem d_Law_law_125 : decode code 125 = .ok (.aload_n 2, 1) := by decide +kernel
theorem d_Law_law_126 : decode code 126 = .ok (.aload_n 0, 1) := by decide +kernel
theorem d_Law_law_127 : decode code 127 = .ok (.iload 4, 2) := by decide +kernel
theorem d_Law_law_129 : decode code 129 = .ok (.iconst 1, 1) := by decide +kernel
theorem d_Law_law_130 : decode code 130 = .ok (.iadd, 1) := by decide +kernel
theorem d_Law_law_131 : decode code 131 = .ok (.iaload, 1) := by decide +kernel
theorem d_Law_law_132 : decode code 132 = .ok (.i2l, 1) := by decide +kernel
theorem d_Law_law_133 : decode code 133 = .ok (.bipush 32, 2) := by decide +kernel
theorem d_Law_law_135 : decode code 135 = .ok (.lshl, 1) := by decide +kernel
theorem d_Law_law_136 : decode code 136 = .ok (.aload_n 0, 1) := by decide +kernel
theorem d_Law_law_137 : decode code 137 = .ok (.iload 4, 2) := by decide +kernel
theorem d_Law_law_139 : decode code 139 = .ok (.iconst 2, 1) := by decide +kernel
theorem d_Law_law_140 : decode code 140 = .ok (.iadd, 1) := by decide +kernel
theorem d_Law_law_141 : decode code 141 = .ok (.iaload, 1) := by decide +kernel
theorem d_Law_law_142 : decode code 142 = .ok (.i2l, 1) := by decide +kernel
theorem d_Law_law_143 : decode code 143 = .ok (.ldc2_w 53, 3) := by decide +kernel
theorem d_Law_law_146 : decode code 146 = .ok (.land, 1) := by decide +kernel
theorem d_Law_law_147 : decode code 147 = .ok (.lor, 1) := by decide +kernel
theorem d_Law_law_148 : decode code 148 = .ok (.invokevirtual 60, 3) := by decide +kernel
theorem d_Law_law_151 : decode code 151 = .ok (.istore 6, 2) := by decide +kernel
theorem d_Law_law_153 : decode code 153 = .ok (.aload_n 2, 1) := by decide +kernel
theorem d_Law_law_154 : decode code 154 = .ok (.invokevirtual 61, 3) := by decide +kernel
theorem d_Law_law_157 : decode code 157 = .ok (.iload 5, 2) := by decide +kernel
theorem d_Law_law_159 : decode code 159 = .ok (.if_icmp .eq 5, 3) := by decide +kernel
theorem d_Law_law_162 : decode code 162 = .ok (.iconst 0, 1) := by decide +kernel
theorem d_Law_law_163 : decode code 163 = .ok (.ireturn, 1) := by decide +kernel
theorem d_Law_law_164 : decode code 164 = .ok (.iload 5, 2) := by decide +kernel
theorem d_Law_law_166 : decode code 166 = .ok (.ifCond .ne 15, 3) := by decide +kernel
theorem d_Law_law_169 : decode code 169 = .ok (.aload_n 3, 1) := by decide +kernel
theorem d_Law_law_170 : decode code 170 = .ok (.iconst 0, 1) := by decide +kernel
theorem d_Law_law_171 : decode code 171 = .ok (.laload, 1) := by decide +kernel
theorem d_Law_law_172 : decode code 172 = .ok (.iload 6, 2) := by decide +kernel
theorem d_Law_law_174 : decode code 174 = .ok (.i2l, 1) := by decide +kernel
theorem d_Law_law_175 : decode code 175 = .ok (.lcmp, 1) := by decide +kernel
theorem d_Law_law_176 : decode code 176 = .ok (.ifCond .eq 5, 3) := by decide +kernel
theorem d_Law_law_179 : decode code 179 = .ok (.iconst 0, 1) := by decide +kernel
theorem d_Law_law_180 : decode code 180 = .ok (.ireturn, 1) := by decide +kernel
theorem d_Law_law_181 : decode code 181 = .ok (.goto 692, 3) := by decide +kernel
theorem d_Law_law_184 : decode code 184 = .ok (.aload_n 1, 1) := by decide +kernel
theorem d_Law_law_185 : decode code 185 = .ok (.aload_n 0, 1) := by decide +kernel
theorem d_Law_law_186 : decode code 186 = .ok (.iload 4, 2) := by decide +kernel
theorem d_Law_law_188 : decode code 188 = .ok (.iconst 1, 1) := by decide +kernel
theorem d_Law_law_189 : decode code 189 = .ok (.iadd, 1) := by decide +kernel
theorem d_Law_law_190 : decode code 190 = .ok (.iaload, 1) := by decide +kernel
theorem d_Law_law_191 : decode code 191 = .ok (.aload_n 3, 1) := by decide +kernel
theorem d_Law_law_192 : decode code 192 = .ok (.invokestatic 65, 3) := by decide +kernel
theorem d_Law_law_195 : decode code 195 = .ok (.istore 5, 2) := by decide +kernel
theorem d_Law_law_197 : decode code 197 = .ok (.aload_n 2, 1) := by decide +kernel
theorem d_Law_law_198 : decode code 198 = .ok (.aload_n 0, 1) := by decide +kernel
theorem d_Law_law_199 : decode code 199 = .ok (.iload 4, 2) := by decide +kernel
theorem d_Law_law_201 : decode code 201 = .ok (.iconst 1, 1) := by decide +kernel
theorem d_Law_law_202 : decode code 202 = .ok (.iadd, 1) := by decide +kernel
theorem d_Law_law_203 : decode code 203 = .ok (.iaload, 1) := by decide +kernel
theorem d_Law_law_204 : decode code 204 = .ok (.invokevirtual 68, 3) := by decide +kernel
theorem d_Law_law_207 : decode code 207 = .ok (.istore 6, 2) := by decide +kernel
theorem d_Law_law_209 : decode code 209 = .ok (.aload_n 2, 1) := by decide +kernel
theorem d_Law_law_210 : decode code 210 = .ok (.invokevirtual 61, 3) := by decide +kernel
theorem d_Law_law_213 : decode code 213 = .ok (.iload 5, 2) := by decide +kernel
theorem d_Law_law_215 : decode code 215 = .ok (.if_icmp .eq 5, 3) := by decide +kernel
theorem d_Law_law_218 : decode code 218 = .ok (.iconst 0, 1) := by decide +kernel
theorem d_Law_law_219 : decode code 219 = .ok (.ireturn, 1) := by decide +kernel
theorem d_Law_law_220 : decode code 220 = .ok (.iload 5, 2) := by decide +kernel
theorem d_Law_law_222 : decode code 222 = .ok (.ifCond .ne 15, 3) := by decide +kernel
theorem d_Law_law_225 : decode code 225 = .ok (.aload_n 3, 1) := by decide +kernel
theorem d_Law_law_226 : decode code 226 = .ok (.iconst 0, 1) := by decide +kernel
theorem d_Law_law_227 : decode code 227 = .ok (.laload, 1) := by decide +kernel
theorem d_Law_law_228 : decode code 228 = .ok (.iload 6, 2) := by decide +kernel
theorem d_Law_law_230 : decode code 230 = .ok (.i2l, 1) := by decide +kernel
theorem d_Law_law_231 : decode code 231 = .ok (.lcmp, 1) := by decide +kernel
theorem d_Law_law_232 : decode code 232 = .ok (.ifCond .eq 5, 3) := by decide +kernel
theorem d_Law_law_235 : decode code 235 = .ok (.iconst 0, 1) := by decide +kernel
theorem d_Law_law_236 : decode code 236 = .ok (.ireturn, 1) := by decide +kernel
theorem d_Law_law_237 : decode code 237 = .ok (.goto 636, 3) := by decide +kernel
theorem d_Law_law_240 : decode code 240 = .ok (.aload_n 1, 1) := by decide +kernel
theorem d_Law_law_241 : decode code 241 = .ok (.invokevirtual 69, 3) := by decide +kernel
theorem d_Law_law_244 : decode code 244 = .ok (.aload_n 2, 1) := by decide +kernel
theorem d_Law_law_245 : decode code 245 = .ok (.invokevirtual 72, 3) := by decide +kernel
theorem d_Law_law_248 : decode code 248 = .ok (.if_icmp .eq 625, 3) := by decide +kernel
theorem d_Law_law_251 : decode code 251 = .ok (.iconst 0, 1) := by decide +kernel
theorem d_Law_law_252 : decode code 252 = .ok (.ireturn, 1) := by decide +kernel
theorem d_Law_law_253 : decode code 253 = .ok (.aload_n 1, 1) := by decide +kernel
theorem d_Law_law_254 : decode code 254 = .ok (.aload_n 0, 1) := by decide +kernel
theorem d_Law_law_255 : decode code 255 = .ok (.iload 4, 2) := by decide +kernel
theorem d_Law_law_257 : decode code 257 = .ok (.iconst 1, 1) := by decide +kernel
theorem d_Law_law_258 : decode code 258 = .ok (.iadd, 1) := by decide +kernel
theorem d_Law_law_259 : decode code 259 = .ok (.iaload, 1) := by decide +kernel
theorem d_Law_law_260 : decode code 260 = .ok (.i2l, 1) := by decide +kernel
theorem d_Law_law_261 : decode code 261 = .ok (.bipush 32, 2) := by decide +kernel
theorem d_Law_law_263 : decode code 263 = .ok (.lshl, 1) := by decide +kernel
theorem d_Law_law_264 : decode code 264 = .ok (.aload_n 0, 1) := by decide +kernel
theorem d_Law_law_265 : decode code 265 = .ok (.iload 4, 2) := by decide +kernel
theorem d_Law_law_267 : decode code 267 = .ok (.iconst 2, 1) := by decide +kernel
theorem d_Law_law_268 : decode code 268 = .ok (.iadd, 1) := by decide +kernel
theorem d_Law_law_269 : decode code 269 = .ok (.iaload, 1) := by decide +kernel
theorem d_Law_law_270 : decode code 270 = .ok (.i2l, 1) := by decide +kernel
theorem d_Law_law_271 : decode code 271 = .ok (.ldc2_w 53, 3) := by decide +kernel
theorem d_Law_law_274 : decode code 274 = .ok (.land, 1) := by decide +kernel
theorem d_Law_law_275 : decode code 275 = .ok (.lor, 1) := by decide +kernel
theorem d_Law_law_276 : decode code 276 = .ok (.aload_n 0, 1) := by decide +kernel
theorem d_Law_law_277 : decode code 277 = .ok (.iload 4, 2) := by decide +kernel
theorem d_Law_law_279 : decode code 279 = .ok (.iconst 3, 1) := by decide +kernel
theorem d_Law_law_280 : decode code 280 = .ok (.iadd, 1) := by decide +kernel
theorem d_Law_law_281 : decode code 281 = .ok (.iaload, 1) := by decide +kernel
theorem d_Law_law_282 : decode code 282 = .ok (.aload_n 3, 1) := by decide +kernel
theorem d_Law_law_283 : decode code 283 = .ok (.invokestatic 73, 3) := by decide +kernel
theorem d_Law_law_286 : decode code 286 = .ok (.istore 5, 2) := by decide +kernel
theorem d_Law_law_288 : decode code 288 = .ok (.aload_n 2, 1) := by decide +kernel
theorem d_Law_law_289 : decode code 289 = .ok (.aload_n 0, 1) := by decide +kernel
theorem d_Law_law_290 : decode code 290 = .ok (.iload 4, 2) := by decide +kernel
theorem d_Law_law_292 : decode code 292 = .ok (.iconst 1, 1) := by decide +kernel
theorem d_Law_law_293 : decode code 293 = .ok (.iadd, 1) := by decide +kernel
theorem d_Law_law_294 : decode code 294 = .ok (.iaload, 1) := by decide +kernel
theorem d_Law_law_295 : decode code 295 = .ok (.i2l, 1) := by decide +kernel
theorem d_Law_law_296 : decode code 296 = .ok (.bipush 32, 2) := by decide +kernel
theorem d_Law_law_298 : decode code 298 = .ok (.lshl, 1) := by decide +kernel
theorem d_Law_law_299 : decode code 299 = .ok (.aload_n 0, 1) := by decide +kernel
theorem d_Law_law_300 : decode code 300 = .ok (.iload 4, 2) := by decide +kernel
theorem d_Law_law_302 : decode code 302 = .ok (.iconst 2, 1) := by decide +kernel
theorem d_Law_law_303 : decode code 303 = .ok (.iadd, 1) := by decide +kernel
theorem d_Law_law_304 : decode code 304 = .ok (.iaload, 1) := by decide +kernel
theorem d_Law_law_305 : decode code 305 = .ok (.i2l, 1) := by decide +kernel
theorem d_Law_law_306 : decode code 306 = .ok (.ldc2_w 53, 3) := by decide +kernel
theorem d_Law_law_309 : decode code 309 = .ok (.land, 1) := by decide +kernel
theorem d_Law_law_310 : decode code 310 = .ok (.lor, 1) := by decide +kernel
theorem d_Law_law_311 : decode code 311 = .ok (.aload_n 0, 1) := by decide +kernel
theorem d_Law_law_312 : decode code 312 = .ok (.iload 4, 2) := by decide +kernel
theorem d_Law_law_314 : decode code 314 = .ok (.iconst 3, 1) := by decide +kernel
theorem d_Law_law_315 : decode code 315 = .ok (.iadd, 1) := by decide +kernel
theorem d_Law_law_316 : decode code 316 = .ok (.iaload, 1) := by decide +kernel
theorem d_Law_law_317 : decode code 317 = .ok (.invokevirtual 76, 3) := by decide +kernel
theorem d_Law_law_320 : decode code 320 = .ok (.lstore 6, 2) := by decide +kernel
theorem d_Law_law_322 : decode code 322 = .ok (.aload_n 2, 1) := by decide +kernel
theorem d_Law_law_323 : decode code 323 = .ok (.invokevirtual 61, 3) := by decide +kernel
theorem d_Law_law_326 : decode code 326 = .ok (.iload 5, 2) := by decide +kernel
theorem d_Law_law_328 : decode code 328 = .ok (.if_icmp .eq 5, 3) := by decide +kernel
theorem d_Law_law_331 : decode code 331 = .ok (.iconst 0, 1) := by decide +kernel
theorem d_Law_law_332 : decode code 332 = .ok (.ireturn, 1) := by decide +kernel
theorem d_Law_law_333 : decode code 333 = .ok (.iload 5, 2) := by decide +kernel
theorem d_Law_law_335 : decode code 335 = .ok (.ifCond .ne 14, 3) := by decide +kernel
theorem d_Law_law_338 : decode code 338 = .ok (.aload_n 3, 1) := by decide +kernel
theorem d_Law_law_339 : decode code 339 = .ok (.iconst 0, 1) := by decide +kernel
theorem d_Law_law_340 : decode code 340 = .ok (.laload, 1) := by decide +kernel
theorem d_Law_law_341 : decode code 341 = .ok (.lload 6, 2) := by decide +kernel
theorem d_Law_law_343 : decode code 343 = .ok (.lcmp, 1) := by decide +kernel
theorem d_Law_law_344 : decode code 344 = .ok (.ifCond .eq 5, 3) := by decide +kernel
theorem d_Law_law_347 : decode code 347 = .ok (.iconst 0, 1) := by decide +kernel
theorem d_Law_law_348 : decode code 348 = .ok (.ireturn, 1) := by decide +kernel
theorem d_Law_law_349 : decode code 349 = .ok (.goto 524, 3) := by decide +kernel
theorem d_Law_law_352 : decode code 352 = .ok (.aload_n 1, 1) := by decide +kernel
theorem d_Law_law_353 : decode code 353 = .ok (.aload_n 0, 1) := by decide +kernel
theorem d_Law_law_354 : decode code 354 = .ok (.iload 4, 2) := by decide +kernel
theorem d_Law_law_356 : decode code 356 = .ok (.iconst 1, 1) := by decide +kernel
theorem d_Law_law_357 : decode code 357 = .ok (.iadd, 1) := by decide +kernel
theorem d_Law_law_358 : decode code 358 = .ok (.iaload, 1) := by decide +kernel
theorem d_Law_law_359 : decode code 359 = .ok (.i2l, 1) := by decide +kernel
theorem d_Law_law_360 : decode code 360 = .ok (.bipush 32, 2) := by decide +kernel
theorem d_Law_law_362 : decode code 362 = .ok (.lshl, 1) := by decide +kernel
theorem d_Law_law_363 : decode code 363 = .ok (.aload_n 0, 1) := by decide +kernel
theorem d_Law_law_364 : decode code 364 = .ok (.iload 4, 2) := by decide +kernel
theorem d_Law_law_366 : decode code 366 = .ok (.iconst 2, 1) := by decide +kernel
theorem d_Law_law_367 : decode code 367 = .ok (.iadd, 1) := by decide +kernel
theorem d_Law_law_368 : decode code 368 = .ok (.iaload, 1) := by decide +kernel
theorem d_Law_law_369 : decode code 369 = .ok (.i2l, 1) := by decide +kernel
theorem d_Law_law_370 : decode code 370 = .ok (.ldc2_w 53, 3) := by decide +kernel
theorem d_Law_law_373 : decode code 373 = .ok (.land, 1) := by decide +kernel
theorem d_Law_law_374 : decode code 374 = .ok (.lor, 1) := by decide +kernel
theorem d_Law_law_375 : decode code 375 = .ok (.aload_n 3, 1) := by decide +kernel
theorem d_Law_law_376 : decode code 376 = .ok (.invokestatic 77, 3) := by decide +kernel
theorem d_Law_law_379 : decode code 379 = .ok (.istore 5, 2) := by decide +kernel
theorem d_Law_law_381 : decode code 381 = .ok (.aload_n 2, 1) := by decide +kernel
theorem d_Law_law_382 : decode code 382 = .ok (.aload_n 0, 1) := by decide +kernel
theorem d_Law_law_383 : decode code 383 = .ok (.iload 4, 2) := by decide +kernel
theorem d_Law_law_385 : decode code 385 = .ok (.iconst 1, 1) := by decide +kernel
theorem d_Law_law_386 : decode code 386 = .ok (.iadd, 1) := by decide +kernel
theorem d_Law_law_387 : decode code 387 = .ok (.iaload, 1) := by decide +kernel
theorem d_Law_law_388 : decode code 388 = .ok (.i2l, 1) := by decide +kernel
theorem d_Law_law_389 : decode code 389 = .ok (.bipush 32, 2) := by decide +kernel
theorem d_Law_law_391 : decode code 391 = .ok (.lshl, 1) := by decide +kernel
theorem d_Law_law_392 : decode code 392 = .ok (.aload_n 0, 1) := by decide +kernel
theorem d_Law_law_393 : decode code 393 = .ok (.iload 4, 2) := by decide +kernel
theorem d_Law_law_395 : decode code 395 = .ok (.iconst 2, 1) := by decide +kernel
theorem d_Law_law_396 : decode code 396 = .ok (.iadd, 1) := by decide +kernel
theorem d_Law_law_397 : decode code 397 = .ok (.iaload, 1) := by decide +kernel
theorem d_Law_law_398 : decode code 398 = .ok (.i2l, 1) := by decide +kernel
theorem d_Law_law_399 : decode code 399 = .ok (.ldc2_w 53, 3) := by decide +kernel
theorem d_Law_law_402 : decode code 402 = .ok (.land, 1) := by decide +kernel
theorem d_Law_law_403 : decode code 403 = .ok (.lor, 1) := by decide +kernel
theorem d_Law_law_404 : decode code 404 = .ok (.invokevirtual 79, 3) := by decide +kernel
theorem d_Law_law_407 : decode code 407 = .ok (.lstore 6, 2) := by decide +kernel
theorem d_Law_law_409 : decode code 409 = .ok (.aload_n 2, 1) := by decide +kernel
theorem d_Law_law_410 : decode code 410 = .ok (.invokevirtual 61, 3) := by decide +kernel
theorem d_Law_law_413 : decode code 413 = .ok (.iload 5, 2) := by decide +kernel
theorem d_Law_law_415 : decode code 415 = .ok (.if_icmp .eq 5, 3) := by decide +kernel
theorem d_Law_law_418 : decode code 418 = .ok (.iconst 0, 1) := by decide +kernel
theorem d_Law_law_419 : decode code 419 = .ok (.ireturn, 1) := by decide +kernel
theorem d_Law_law_420 : decode code 420 = .ok (.iload 5, 2) := by decide +kernel
theorem d_Law_law_422 : decode code 422 = .ok (.ifCond .ne 14, 3) := by decide +kernel
theorem d_Law_law_425 : decode code 425 = .ok (.aload_n 3, 1) := by decide +kernel
theorem d_Law_law_426 : decode code 426 = .ok (.iconst 0, 1) := by decide +kernel
theorem d_Law_law_427 : decode code 427 = .ok (.laload, 1) := by decide +kernel
theorem d_Law_law_428 : decode code 428 = .ok (.lload 6, 2) := by decide +kernel
theorem d_Law_law_430 : decode code 430 = .ok (.lcmp, 1) := by decide +kernel
theorem d_Law_law_431 : decode code 431 = .ok (.ifCond .eq 5, 3) := by decide +kernel
theorem d_Law_law_434 : decode code 434 = .ok (.iconst 0, 1) := by decide +kernel
theorem d_Law_law_435 : decode code 435 = .ok (.ireturn, 1) := by decide +kernel
theorem d_Law_law_436 : decode code 436 = .ok (.goto 437, 3) := by decide +kernel
theorem d_Law_law_439 : decode code 439 = .ok (.aload_n 1, 1) := by decide +kernel
theorem d_Law_law_440 : decode code 440 = .ok (.aload_n 0, 1) := by decide +kernel
theorem d_Law_law_441 : decode code 441 = .ok (.iload 4, 2) := by decide +kernel
theorem d_Law_law_443 : decode code 443 = .ok (.iconst 1, 1) := by decide +kernel
theorem d_Law_law_444 : decode code 444 = .ok (.iadd, 1) := by decide +kernel
theorem d_Law_law_445 : decode code 445 = .ok (.iaload, 1) := by decide +kernel
theorem d_Law_law_446 : decode code 446 = .ok (.aload_n 3, 1) := by decide +kernel
theorem d_Law_law_447 : decode code 447 = .ok (.invokestatic 80, 3) := by decide +kernel
theorem d_Law_law_450 : decode code 450 = .ok (.istore 5, 2) := by decide +kernel
theorem d_Law_law_452 : decode code 452 = .ok (.aload_n 2, 1) := by decide +kernel
theorem d_Law_law_453 : decode code 453 = .ok (.aload_n 0, 1) := by decide +kernel
theorem d_Law_law_454 : decode code 454 = .ok (.iload 4, 2) := by decide +kernel
theorem d_Law_law_456 : decode code 456 = .ok (.iconst 1, 1) := by decide +kernel
theorem d_Law_law_457 : decode code 457 = .ok (.iadd, 1) := by decide +kernel
theorem d_Law_law_458 : decode code 458 = .ok (.iaload, 1) := by decide +kernel
theorem d_Law_law_459 : decode code 459 = .ok (.invokevirtual 82, 3) := by decide +kernel
theorem d_Law_law_462 : decode code 462 = .ok (.istore 6, 2) := by decide +kernel
theorem d_Law_law_464 : decode code 464 = .ok (.aload_n 2, 1) := by decide +kernel
theorem d_Law_law_465 : decode code 465 = .ok (.invokevirtual 61, 3) := by decide +kernel
theorem d_Law_law_468 : decode code 468 = .ok (.iload 5, 2) := by decide +kernel
theorem d_Law_law_470 : decode code 470 = .ok (.if_icmp .eq 5, 3) := by decide +kernel
theorem d_Law_law_473 : decode code 473 = .ok (.iconst 0, 1) := by decide +kernel
theorem d_Law_law_474 : decode code 474 = .ok (.ireturn, 1) := by decide +kernel
theorem d_Law_law_475 : decode code 475 = .ok (.iload 5, 2) := by decide +kernel
theorem d_Law_law_477 : decode code 477 = .ok (.ifCond .ne 15, 3) := by decide +kernel
theorem d_Law_law_480 : decode code 480 = .ok (.aload_n 3, 1) := by decide +kernel
theorem d_Law_law_481 : decode code 481 = .ok (.iconst 0, 1) := by decide +kernel
theorem d_Law_law_482 : decode code 482 = .ok (.laload, 1) := by decide +kernel
theorem d_Law_law_483 : decode code 483 = .ok (.iload 6, 2) := by decide +kernel
theorem d_Law_law_485 : decode code 485 = .ok (.i2l, 1) := by decide +kernel
theorem d_Law_law_486 : decode code 486 = .ok (.lcmp, 1) := by decide +kernel
theorem d_Law_law_487 : decode code 487 = .ok (.ifCond .eq 5, 3) := by decide +kernel
theorem d_Law_law_490 : decode code 490 = .ok (.iconst 0, 1) := by decide +kernel
theorem d_Law_law_491 : decode code 491 = .ok (.ireturn, 1) := by decide +kernel
theorem d_Law_law_492 : decode code 492 = .ok (.goto 381, 3) := by decide +kernel
theorem d_Law_law_495 : decode code 495 = .ok (.aload_n 1, 1) := by decide +kernel
theorem d_Law_law_496 : decode code 496 = .ok (.aload_n 0, 1) := by decide +kernel
theorem d_Law_law_497 : decode code 497 = .ok (.iload 4, 2) := by decide +kernel
theorem d_Law_law_499 : decode code 499 = .ok (.iconst 1, 1) := by decide +kernel
theorem d_Law_law_500 : decode code 500 = .ok (.iadd, 1) := by decide +kernel
theorem d_Law_law_501 : decode code 501 = .ok (.iaload, 1) := by decide +kernel
theorem d_Law_law_502 : decode code 502 = .ok (.i2l, 1) := by decide +kernel
theorem d_Law_law_503 : decode code 503 = .ok (.bipush 32, 2) := by decide +kernel
theorem d_Law_law_505 : decode code 505 = .ok (.lshl, 1) := by decide +kernel
theorem d_Law_law_506 : decode code 506 = .ok (.aload_n 0, 1) := by decide +kernel
theorem d_Law_law_507 : decode code 507 = .ok (.iload 4, 2) := by decide +kernel
theorem d_Law_law_509 : decode code 509 = .ok (.iconst 2, 1) := by decide +kernel
theorem d_Law_law_510 : decode code 510 = .ok (.iadd, 1) := by decide +kernel
theorem d_Law_law_511 : decode code 511 = .ok (.iaload, 1) := by decide +kernel
theorem d_Law_law_512 : decode code 512 = .ok (.i2l, 1) := by decide +kernel
theorem d_Law_law_513 : decode code 513 = .ok (.ldc2_w 53, 3) := by decide +kernel
theorem d_Law_law_516 : decode code 516 = .ok (.land, 1) := by decide +kernel
theorem d_Law_law_517 : decode code 517 = .ok (.lor, 1) := by decide +kernel
theorem d_Law_law_518 : decode code 518 = .ok (.aload_n 3, 1) := by decide +kernel
theorem d_Law_law_519 : decode code 519 = .ok (.invokestatic 83, 3) := by decide +kernel
theorem d_Law_law_522 : decode code 522 = .ok (.istore 5, 2) := by decide +kernel
theorem d_Law_law_524 : decode code 524 = .ok (.aload_n 2, 1) := by decide +kernel
theorem d_Law_law_525 : decode code 525 = .ok (.aload_n 0, 1) := by decide +kernel
theorem d_Law_law_526 : decode code 526 = .ok (.iload 4, 2) := by decide +kernel
theorem d_Law_law_528 : decode code 528 = .ok (.iconst 1, 1) := by decide +kernel
theorem d_Law_law_529 : decode code 529 = .ok (.iadd, 1) := by decide +kernel
theorem d_Law_law_530 : decode code 530 = .ok (.iaload, 1) := by decide +kernel
theorem d_Law_law_531 : decode code 531 = .ok (.i2l, 1) := by decide +kernel
theorem d_Law_law_532 : decode code 532 = .ok (.bipush 32, 2) := by decide +kernel
theorem d_Law_law_534 : decode code 534 = .ok (.lshl, 1) := by decide +kernel
theorem d_Law_law_535 : decode code 535 = .ok (.aload_n 0, 1) := by decide +kernel
theorem d_Law_law_536 : decode code 536 = .ok (.iload 4, 2) := by decide +kernel
theorem d_Law_law_538 : decode code 538 = .ok (.iconst 2, 1) := by decide +kernel
theorem d_Law_law_539 : decode code 539 = .ok (.iadd, 1) := by decide +kernel
theorem d_Law_law_540 : decode code 540 = .ok (.iaload, 1) := by decide +kernel
theorem d_Law_law_541 : decode code 541 = .ok (.i2l, 1) := by decide +kernel
theorem d_Law_law_542 : decode code 542 = .ok (.ldc2_w 53, 3) := by decide +kernel
theorem d_Law_law_545 : decode code 545 = .ok (.land, 1) := by decide +kernel
theorem d_Law_law_546 : decode code 546 = .ok (.lor, 1) := by decide +kernel
theorem d_Law_law_547 : decode code 547 = .ok (.invokevirtual 85, 3) := by decide +kernel
theorem d_Law_law_550 : decode code 550 = .ok (.istore 6, 2) := by decide +kernel
theorem d_Law_law_552 : decode code 552 = .ok (.aload_n 2, 1) := by decide +kernel
theorem d_Law_law_553 : decode code 553 = .ok (.invokevirtual 61, 3) := by decide +kernel
theorem d_Law_law_556 : decode code 556 = .ok (.iload 5, 2) := by decide +kernel
theorem d_Law_law_558 : decode code 558 = .ok (.if_icmp .eq 5, 3) := by decide +kernel
theorem d_Law_law_561 : decode code 561 = .ok (.iconst 0, 1) := by decide +kernel
theorem d_Law_law_562 : decode code 562 = .ok (.ireturn, 1) := by decide +kernel
theorem d_Law_law_563 : decode code 563 = .ok (.iload 5, 2) := by decide +kernel
theorem d_Law_law_565 : decode code 565 = .ok (.ifCond .ne 15, 3) := by decide +kernel
theorem d_Law_law_568 : decode code 568 = .ok (.aload_n 3, 1) := by decide +kernel
theorem d_Law_law_569 : decode code 569 = .ok (.iconst 0, 1) := by decide +kernel
theorem d_Law_law_570 : decode code 570 = .ok (.laload, 1) := by decide +kernel
theorem d_Law_law_571 : decode code 571 = .ok (.iload 6, 2) := by decide +kernel
theorem d_Law_law_573 : decode code 573 = .ok (.i2l, 1) := by decide +kernel
theorem d_Law_law_574 : decode code 574 = .ok (.lcmp, 1) := by decide +kernel
theorem d_Law_law_575 : decode code 575 = .ok (.ifCond .eq 5, 3) := by decide +kernel
theorem d_Law_law_578 : decode code 578 = .ok (.iconst 0, 1) := by decide +kernel
theorem d_Law_law_579 : decode code 579 = .ok (.ireturn, 1) := by decide +kernel
theorem d_Law_law_580 : decode code 580 = .ok (.goto 293, 3) := by decide +kernel
theorem d_Law_law_583 : decode code 583 = .ok (.aload_n 1, 1) := by decide +kernel
theorem d_Law_law_584 : decode code 584 = .ok (.aload_n 0, 1) := by decide +kernel
theorem d_Law_law_585 : decode code 585 = .ok (.iload 4, 2) := by decide +kernel
theorem d_Law_law_587 : decode code 587 = .ok (.iconst 1, 1) := by decide +kernel
theorem d_Law_law_588 : decode code 588 = .ok (.iadd, 1) := by decide +kernel
theorem d_Law_law_589 : decode code 589 = .ok (.iaload, 1) := by decide +kernel
theorem d_Law_law_590 : decode code 590 = .ok (.aload_n 0, 1) := by decide +kernel
theorem d_Law_law_591 : decode code 591 = .ok (.iload 4, 2) := by decide +kernel
theorem d_Law_law_593 : decode code 593 = .ok (.iconst 2, 1) := by decide +kernel
theorem d_Law_law_594 : decode code 594 = .ok (.iadd, 1) := by decide +kernel
theorem d_Law_law_595 : decode code 595 = .ok (.iaload, 1) := by decide +kernel
theorem d_Law_law_596 : decode code 596 = .ok (.aload_n 3, 1) := by decide +kernel
theorem d_Law_law_597 : decode code 597 = .ok (.invokestatic 86, 3) := by decide +kernel
theorem d_Law_law_600 : decode code 600 = .ok (.istore 5, 2) := by decide +kernel
theorem d_Law_law_602 : decode code 602 = .ok (.aload_n 2, 1) := by decide +kernel
theorem d_Law_law_603 : decode code 603 = .ok (.aload_n 0, 1) := by decide +kernel
theorem d_Law_law_604 : decode code 604 = .ok (.iload 4, 2) := by decide +kernel
theorem d_Law_law_606 : decode code 606 = .ok (.iconst 1, 1) := by decide +kernel
theorem d_Law_law_607 : decode code 607 = .ok (.iadd, 1) := by decide +kernel
theorem d_Law_law_608 : decode code 608 = .ok (.iaload, 1) := by decide +kernel
theorem d_Law_law_609 : decode code 609 = .ok (.aload_n 0, 1) := by decide +kernel
theorem d_Law_law_610 : decode code 610 = .ok (.iload 4, 2) := by decide +kernel
theorem d_Law_law_612 : decode code 612 = .ok (.iconst 2, 1) := by decide +kernel
theorem d_Law_law_613 : decode code 613 = .ok (.iadd, 1) := by decide +kernel
theorem d_Law_law_614 : decode code 614 = .ok (.iaload, 1) := by decide +kernel
theorem d_Law_law_615 : decode code 615 = .ok (.invokevirtual 89, 3) := by decide +kernel
theorem d_Law_law_618 : decode code 618 = .ok (.lstore 6, 2) := by decide +kernel
theorem d_Law_law_620 : decode code 620 = .ok (.aload_n 2, 1) := by decide +kernel
theorem d_Law_law_621 : decode code 621 = .ok (.invokevirtual 61, 3) := by decide +kernel
theorem d_Law_law_624 : decode code 624 = .ok (.iload 5, 2) := by decide +kernel
theorem d_Law_law_626 : decode code 626 = .ok (.if_icmp .eq 5, 3) := by decide +kernel
theorem d_Law_law_629 : decode code 629 = .ok (.iconst 0, 1) := by decide +kernel
theorem d_Law_law_630 : decode code 630 = .ok (.ireturn, 1) := by decide +kernel
theorem d_Law_law_631 : decode code 631 = .ok (.iload 5, 2) := by decide +kernel
theorem d_Law_law_633 : decode code 633 = .ok (.ifCond .ne 14, 3) := by decide +kernel
theorem d_Law_law_636 : decode code 636 = .ok (.aload_n 3, 1) := by decide +kernel
theorem d_Law_law_637 : decode code 637 = .ok (.iconst 0, 1) := by decide +kernel
theorem d_Law_law_638 : decode code 638 = .ok (.laload, 1) := by decide +kernel
theorem d_Law_law_639 : decode code 639 = .ok (.lload 6, 2) := by decide +kernel
theorem d_Law_law_641 : decode code 641 = .ok (.lcmp, 1) := by decide +kernel
theorem d_Law_law_642 : decode code 642 = .ok (.ifCond .eq 5, 3) := by decide +kernel
theorem d_Law_law_645 : decode code 645 = .ok (.iconst 0, 1) := by decide +kernel
theorem d_Law_law_646 : decode code 646 = .ok (.ireturn, 1) := by decide +kernel
theorem d_Law_law_647 : decode code 647 = .ok (.goto 226, 3) := by decide +kernel
theorem d_Law_law_650 : decode code 650 = .ok (.aload_n 1, 1) := by decide +kernel
theorem d_Law_law_651 : decode code 651 = .ok (.aload_n 0, 1) := by decide +kernel
theorem d_Law_law_652 : decode code 652 = .ok (.iload 4, 2) := by decide +kernel
theorem d_Law_law_654 : decode code 654 = .ok (.iconst 1, 1) := by decide +kernel
theorem d_Law_law_655 : decode code 655 = .ok (.iadd, 1) := by decide +kernel
theorem d_Law_law_656 : decode code 656 = .ok (.iaload, 1) := by decide +kernel
theorem d_Law_law_657 : decode code 657 = .ok (.aload_n 3, 1) := by decide +kernel
theorem d_Law_law_658 : decode code 658 = .ok (.invokestatic 90, 3) := by decide +kernel
theorem d_Law_law_661 : decode code 661 = .ok (.istore 5, 2) := by decide +kernel
theorem d_Law_law_663 : decode code 663 = .ok (.aload_n 2, 1) := by decide +kernel
theorem d_Law_law_664 : decode code 664 = .ok (.aload_n 0, 1) := by decide +kernel
theorem d_Law_law_665 : decode code 665 = .ok (.iload 4, 2) := by decide +kernel
theorem d_Law_law_667 : decode code 667 = .ok (.iconst 1, 1) := by decide +kernel
theorem d_Law_law_668 : decode code 668 = .ok (.iadd, 1) := by decide +kernel
theorem d_Law_law_669 : decode code 669 = .ok (.iaload, 1) := by decide +kernel
theorem d_Law_law_670 : decode code 670 = .ok (.invokevirtual 92, 3) := by decide +kernel
theorem d_Law_law_673 : decode code 673 = .ok (.istore 6, 2) := by decide +kernel
theorem d_Law_law_675 : decode code 675 = .ok (.aload_n 2, 1) := by decide +kernel
theorem d_Law_law_676 : decode code 676 = .ok (.invokevirtual 61, 3) := by decide +kernel
theorem d_Law_law_679 : decode code 679 = .ok (.iload 5, 2) := by decide +kernel
theorem d_Law_law_681 : decode code 681 = .ok (.if_icmp .eq 5, 3) := by decide +kernel
theorem d_Law_law_684 : decode code 684 = .ok (.iconst 0, 1) := by decide +kernel
theorem d_Law_law_685 : decode code 685 = .ok (.ireturn, 1) := by decide +kernel
theorem d_Law_law_686 : decode code 686 = .ok (.iload 5, 2) := by decide +kernel
theorem d_Law_law_688 : decode code 688 = .ok (.ifCond .ne 15, 3) := by decide +kernel
theorem d_Law_law_691 : decode code 691 = .ok (.aload_n 3, 1) := by decide +kernel
theorem d_Law_law_692 : decode code 692 = .ok (.iconst 0, 1) := by decide +kernel
theorem d_Law_law_693 : decode code 693 = .ok (.laload, 1) := by decide +kernel
theorem d_Law_law_694 : decode code 694 = .ok (.iload 6, 2) := by decide +kernel
theorem d_Law_law_696 : decode code 696 = .ok (.i2l, 1) := by decide +kernel
theorem d_Law_law_697 : decode code 697 = .ok (.lcmp, 1) := by decide +kernel
theorem d_Law_law_698 : decode code 698 = .ok (.ifCond .eq 5, 3) := by decide +kernel
theorem d_Law_law_701 : decode code 701 = .ok (.iconst 0, 1) := by decide +kernel
theorem d_Law_law_702 : decode code 702 = .ok (.ireturn, 1) := by decide +kernel
theorem d_Law_law_703 : decode code 703 = .ok (.goto 170, 3) := by decide +kernel
theorem d_Law_law_706 : decode code 706 = .ok (.aload_n 1, 1) := by decide +kernel
theorem d_Law_law_707 : decode code 707 = .ok (.aload_n 0, 1) := by decide +kernel
theorem d_Law_law_708 : decode code 708 = .ok (.iload 4, 2) := by decide +kernel
theorem d_Law_law_710 : decode code 710 = .ok (.iconst 1, 1) := by decide +kernel
theorem d_Law_law_711 : decode code 711 = .ok (.iadd, 1) := by decide +kernel
theorem d_Law_law_712 : decode code 712 = .ok (.iaload, 1) := by decide +kernel
theorem d_Law_law_713 : decode code 713 = .ok (.aload_n 0, 1) := by decide +kernel
theorem d_Law_law_714 : decode code 714 = .ok (.iload 4, 2) := by decide +kernel
theorem d_Law_law_716 : decode code 716 = .ok (.iconst 2, 1) := by decide +kernel
theorem d_Law_law_717 : decode code 717 = .ok (.iadd, 1) := by decide +kernel
theorem d_Law_law_718 : decode code 718 = .ok (.iaload, 1) := by decide +kernel
theorem d_Law_law_719 : decode code 719 = .ok (.i2l, 1) := by decide +kernel
theorem d_Law_law_720 : decode code 720 = .ok (.bipush 32, 2) := by decide +kernel
theorem d_Law_law_722 : decode code 722 = .ok (.lshl, 1) := by decide +kernel
theorem d_Law_law_723 : decode code 723 = .ok (.aload_n 0, 1) := by decide +kernel
theorem d_Law_law_724 : decode code 724 = .ok (.iload 4, 2) := by decide +kernel
theorem d_Law_law_726 : decode code 726 = .ok (.iconst 3, 1) := by decide +kernel
theorem d_Law_law_727 : decode code 727 = .ok (.iadd, 1) := by decide +kernel
theorem d_Law_law_728 : decode code 728 = .ok (.iaload, 1) := by decide +kernel
theorem d_Law_law_729 : decode code 729 = .ok (.i2l, 1) := by decide +kernel
theorem d_Law_law_730 : decode code 730 = .ok (.ldc2_w 53, 3) := by decide +kernel
theorem d_Law_law_733 : decode code 733 = .ok (.land, 1) := by decide +kernel
theorem d_Law_law_734 : decode code 734 = .ok (.lor, 1) := by decide +kernel
theorem d_Law_law_735 : decode code 735 = .ok (.aload_n 0, 1) := by decide +kernel
theorem d_Law_law_736 : decode code 736 = .ok (.iload 4, 2) := by decide +kernel
theorem d_Law_law_738 : decode code 738 = .ok (.iconst 4, 1) := by decide +kernel
theorem d_Law_law_739 : decode code 739 = .ok (.iadd, 1) := by decide +kernel
theorem d_Law_law_740 : decode code 740 = .ok (.iaload, 1) := by decide +kernel
theorem d_Law_law_741 : decode code 741 = .ok (.aload_n 3, 1) := by decide +kernel
theorem d_Law_law_742 : decode code 742 = .ok (.invokestatic 93, 3) := by decide +kernel
theorem d_Law_law_745 : decode code 745 = .ok (.istore 5, 2) := by decide +kernel
theorem d_Law_law_747 : decode code 747 = .ok (.aload_n 2, 1) := by decide +kernel
theorem d_Law_law_748 : decode code 748 = .ok (.aload_n 0, 1) := by decide +kernel
theorem d_Law_law_749 : decode code 749 = .ok (.iload 4, 2) := by decide +kernel
theorem d_Law_law_751 : decode code 751 = .ok (.iconst 1, 1) := by decide +kernel
theorem d_Law_law_752 : decode code 752 = .ok (.iadd, 1) := by decide +kernel
theorem d_Law_law_753 : decode code 753 = .ok (.iaload, 1) := by decide +kernel
theorem d_Law_law_754 : decode code 754 = .ok (.aload_n 0, 1) := by decide +kernel
theorem d_Law_law_755 : decode code 755 = .ok (.iload 4, 2) := by decide +kernel
theorem d_Law_law_757 : decode code 757 = .ok (.iconst 2, 1) := by decide +kernel
theorem d_Law_law_758 : decode code 758 = .ok (.iadd, 1) := by decide +kernel
theorem d_Law_law_759 : decode code 759 = .ok (.iaload, 1) := by decide +kernel
theorem d_Law_law_760 : decode code 760 = .ok (.i2l, 1) := by decide +kernel
theorem d_Law_law_761 : decode code 761 = .ok (.bipush 32, 2) := by decide +kernel
theorem d_Law_law_763 : decode code 763 = .ok (.lshl, 1) := by decide +kernel
theorem d_Law_law_764 : decode code 764 = .ok (.aload_n 0, 1) := by decide +kernel
theorem d_Law_law_765 : decode code 765 = .ok (.iload 4, 2) := by decide +kernel
theorem d_Law_law_767 : decode code 767 = .ok (.iconst 3, 1) := by decide +kernel
theorem d_Law_law_768 : decode code 768 = .ok (.iadd, 1) := by decide +kernel
theorem d_Law_law_769 : decode code 769 = .ok (.iaload, 1) := by decide +kernel
theorem d_Law_law_770 : decode code 770 = .ok (.i2l, 1) := by decide +kernel
theorem d_Law_law_771 : decode code 771 = .ok (.ldc2_w 53, 3) := by decide +kernel
theorem d_Law_law_774 : decode code 774 = .ok (.land, 1) := by decide +kernel
theorem d_Law_law_775 : decode code 775 = .ok (.lor, 1) := by decide +kernel
theorem d_Law_law_776 : decode code 776 = .ok (.aload_n 0, 1) := by decide +kernel
theorem d_Law_law_777 : decode code 777 = .ok (.iload 4, 2) := by decide +kernel
theorem d_Law_law_779 : decode code 779 = .ok (.iconst 4, 1) := by decide +kernel
theorem d_Law_law_780 : decode code 780 = .ok (.iadd, 1) := by decide +kernel
theorem d_Law_law_781 : decode code 781 = .ok (.iaload, 1) := by decide +kernel
theorem d_Law_law_782 : decode code 782 = .ok (.invokevirtual 96, 3) := by decide +kernel
theorem d_Law_law_785 : decode code 785 = .ok (.lstore 6, 2) := by decide +kernel
theorem d_Law_law_787 : decode code 787 = .ok (.aload_n 2, 1) := by decide +kernel
theorem d_Law_law_788 : decode code 788 = .ok (.invokevirtual 61, 3) := by decide +kernel
theorem d_Law_law_791 : decode code 791 = .ok (.iload 5, 2) := by decide +kernel
theorem d_Law_law_793 : decode code 793 = .ok (.if_icmp .eq 5, 3) := by decide +kernel
theorem d_Law_law_796 : decode code 796 = .ok (.iconst 0, 1) := by decide +kernel
theorem d_Law_law_797 : decode code 797 = .ok (.ireturn, 1) := by decide +kernel
theorem d_Law_law_798 : decode code 798 = .ok (.iload 5, 2) := by decide +kernel
theorem d_Law_law_800 : decode code 800 = .ok (.ifCond .ne 14, 3) := by decide +kernel
theorem d_Law_law_803 : decode code 803 = .ok (.aload_n 3, 1) := by decide +kernel
theorem d_Law_law_804 : decode code 804 = .ok (.iconst 0, 1) := by decide +kernel
theorem d_Law_law_805 : decode code 805 = .ok (.laload, 1) := by decide +kernel
theorem d_Law_law_806 : decode code 806 = .ok (.lload 6, 2) := by decide +kernel
theorem d_Law_law_808 : decode code 808 = .ok (.lcmp, 1) := by decide +kernel
theorem d_Law_law_809 : decode code 809 = .ok (.ifCond .eq 5, 3) := by decide +kernel
theorem d_Law_law_812 : decode code 812 = .ok (.iconst 0, 1) := by decide +kernel
theorem d_Law_law_813 : decode code 813 = .ok (.ireturn, 1) := by decide +kernel
theorem d_Law_law_814 : decode code 814 = .ok (.goto 59, 3) := by decide +kernel
theorem d_Law_law_817 : decode code 817 = .ok (.aload_n 1, 1) := by decide +kernel
theorem d_Law_law_818 : decode code 818 = .ok (.aload_n 0, 1) := by decide +kernel
theorem d_Law_law_819 : decode code 819 = .ok (.iload 4, 2) := by decide +kernel
theorem d_Law_law_821 : decode code 821 = .ok (.iconst 1, 1) := by decide +kernel
theorem d_Law_law_822 : decode code 822 = .ok (.iadd, 1) := by decide +kernel
theorem d_Law_law_823 : decode code 823 = .ok (.iaload, 1) := by decide +kernel
theorem d_Law_law_824 : decode code 824 = .ok (.aload_n 3, 1) := by decide +kernel
theorem d_Law_law_825 : decode code 825 = .ok (.invokestatic 97, 3) := by decide +kernel
theorem d_Law_law_828 : decode code 828 = .ok (.istore 5, 2) := by decide +kernel
theorem d_Law_law_830 : decode code 830 = .ok (.aload_n 2, 1) := by decide +kernel
theorem d_Law_law_831 : decode code 831 = .ok (.aload_n 0, 1) := by decide +kernel
theorem d_Law_law_832 : decode code 832 = .ok (.iload 4, 2) := by decide +kernel
theorem d_Law_law_834 : decode code 834 = .ok (.iconst 1, 1) := by decide +kernel
theorem d_Law_law_835 : decode code 835 = .ok (.iadd, 1) := by decide +kernel
theorem d_Law_law_836 : decode code 836 = .ok (.iaload, 1) := by decide +kernel
theorem d_Law_law_837 : decode code 837 = .ok (.invokevirtual 99, 3) := by decide +kernel
theorem d_Law_law_840 : decode code 840 = .ok (.istore 6, 2) := by decide +kernel
theorem d_Law_law_842 : decode code 842 = .ok (.aload_n 2, 1) := by decide +kernel
theorem d_Law_law_843 : decode code 843 = .ok (.invokevirtual 61, 3) := by decide +kernel
theorem d_Law_law_846 : decode code 846 = .ok (.iload 5, 2) := by decide +kernel
theorem d_Law_law_848 : decode code 848 = .ok (.if_icmp .eq 5, 3) := by decide +kernel
theorem d_Law_law_851 : decode code 851 = .ok (.iconst 0, 1) := by decide +kernel
theorem d_Law_law_852 : decode code 852 = .ok (.ireturn, 1) := by decide +kernel
theorem d_Law_law_853 : decode code 853 = .ok (.iload 5, 2) := by decide +kernel
theorem d_Law_law_855 : decode code 855 = .ok (.ifCond .ne 15, 3) := by decide +kernel
theorem d_Law_law_858 : decode code 858 = .ok (.aload_n 3, 1) := by decide +kernel
theorem d_Law_law_859 : decode code 859 = .ok (.iconst 0, 1) := by decide +kernel
theorem d_Law_law_860 : decode code 860 = .ok (.laload, 1) := by decide +kernel
theorem d_Law_law_861 : decode code 861 = .ok (.iload 6, 2) := by decide +kernel
theorem d_Law_law_863 : decode code 863 = .ok (.i2l, 1) := by decide +kernel
theorem d_Law_law_864 : decode code 864 = .ok (.lcmp, 1) := by decide +kernel
theorem d_Law_law_865 : decode code 865 = .ok (.ifCond .eq 5, 3) := by decide +kernel
theorem d_Law_law_868 : decode code 868 = .ok (.iconst 0, 1) := by decide +kernel
theorem d_Law_law_869 : decode code 869 = .ok (.ireturn, 1) := by decide +kernel
theorem d_Law_law_870 : decode code 870 = .ok (.goto 3, 3) := by decide +kernel
theorem d_Law_law_873 : decode code 873 = .ok (.iinc 4 5, 3) := by decide +kernel
theorem d_Law_law_876 : decode code 876 = .ok (.goto (-853), 3) := by decide +kernel
theorem d_Law_law_879 : decode code 879 = .ok (.iconst 1, 1) := by decide +kernel
theorem d_Law_law_880 : decode code 880 = .ok (.ireturn, 1) := by decide +kernel
/-! the law -/
def LC (p : Program) (l : Launch) (s : State) (m : MethodId) (c : Code) (b L : Nat) (xs : Nat → Int32) (dC : Nat → ClassId) (dI : Nat → Nat → Nat) (cB cI cJ : ClassId) : Prop := p.tables.exec = Jvm.exec ∧ c.code = code ∧ c.maxLocals = 8 ∧ s.vm.findClass "PermitRulesLaw" = some m.cls ∧ (∀ w ∈ bgw, w.before #[Value.ref b] s = true) ∧ kx dC dI cB cI cJ s ∧ xk s ∧ l.stackTraces = false ∧ va_X b L xs s s.heap ∧ b < s.heap.size ∧ L ≤ 2560
def LGO (p : Program) (e : Env) (s : State) (m : MethodId) (below : List Frame) (meth : Method) (c : Code) (l : Launch) (b : Nat) (dC : Nat → ClassId) (dI : Nat → Nat → Nat) (cB cI cJ : ClassId) (Z : State → Prop) (pc : Nat) (i : Int32) (cells slots : Nat) : Prop := ∀ (oX oT oD oF oJ aA oB oB2 aT oW aK aP aO aN aV oR aU aL gN gD gC gS gL gR gK gW gN2 gD2 gC2 gS2 gL2 gR2 gK2 gW2 aQ oM mT mN mD mF mS mL mR mE mK mV mO mA mB mU mW mX mY : Nat) (as_ : Int32) (ad : Int32) (tl : Int32) (tf : (Nat → Int32)) (cu : Int32) (wk : (Nat → Int32)) (wp : (Nat → Int32)) (ww : (Nat → Int64)) (fz : Int32) (fn : (Nat → Int64)) (fv : (Nat → Int32)) (js : Int32) (j1 : Int64) (j2 : Int64) (j3 : Int64) (j4 : Int64) (pe : Int32) (wy : Int32) (mi : Int64) (ru : (Nat → Int64)) (rl : (Nat → Int64)) (an : (Nat → Int64)) (rc : Int32) (cc_ : Int32) (sc : Int32) (bn : (Nat → Int64)) (bd : (Nat → Int64)) (bc : (Nat → Int32)) (bs : (Nat → Int32)) (bl : (Nat → Int32)) (br : (Nat → Int32)) (bk : (Nat → Int32)) (bw : (Nat → Int64)) (rc2 : Int32) (cc_2 : Int32) (sc2 : Int32) (bn2 : (Nat → Int64)) (bd2 : (Nat → Int64)) (bc2 : (Nat → Int32)) (bs2 : (Nat → Int32)) (bl2 : (Nat → Int32)) (br2 : (Nat → Int32)) (bk2 : (Nat → Int32)) (bw2 : (Nat → Int64)) (qf : (Nat → Int64)) (th : Int32) (ml : Int32) (ma : Int32) (mk : Int32) (mp : Int32) (mv : Int64) (mw : Int32) (dr : Int32) (dc : Int32) (ds : Int32) (rx : Int32) (cl : Int32) (os : Int32) (fc : Int32) (pi : Int32) (wh : Int32) (ms : Int64) (aq : Int32) (da : Int32) (lu : Int64) (ld : Int64) (qu : Int64) (qd : Int64) (mt : (Nat → Int32)) (nn : (Nat → Int64)) (dd : (Nat → Int64)) (fi : (Nat → Int32)) (sg : (Nat → Int32)) (lf : (Nat → Int32)) (rf : (Nat → Int32)) (ce : (Nat → Int32)) (sk : (Nat → Int32)) (sv : (Nat → Int64)) (op : (Nat → Int32)) (gn : (Nat → Int64)) (gv : (Nat → Int64)) (up : (Nat → Int64)) (dn : (Nat → Int64)) (sx : (Nat → Int32)) (re : (Nat → Int64)) (H : Heap) (locs : List Loc) (ls : Array Slot), REL tl tf ml mt fz fn fv fc gn gv rc cc_ bn bd bc bs bl br bk bw rx cl nn dd fi sg lf rf ce sk sv as_ ad an aq da sx re → va_P (dC, dI) vwCl [(oX, .inr (7, [.ref oT, .ref oD, .ref oF, .ref oJ, .ref aA, .ref oB, .ref oB2, .int as_, .int ad])), (oT, .inr (5, [.ref aT, .int tl])), (aT, .inl (cB, 800, .inl tf)), (oD, .inr (3, [.ref oW])), (oW, .inr (6, [.ref aK, .ref aP, .ref aO, .int cu])), (aK, .inl (cI, 121, .inl wk)), (aP, .inl (cI, 121, .inl wp)), (aO, .inl (cJ, 121, .inr (.inl ww))), (oF, .inr (1, [.ref aN, .ref aV, .int fz])), (aN, .inl (cJ, 40, .inr (.inl fn))), (aV, .inl (cI, 40, .inl fv)), (oJ, .inr (2, [.ref oR, .int js, .long j1, .long j2, .long j3, .long j4])), (oR, .inr (4, [.ref aU, .ref aL, .int pe, .int wy, .long mi])), (aU, .inl (cJ, 19, .inr (.inl ru))), (aL, .inl (cJ, 19, .inr (.inl rl))), (aA, .inl (cJ, 84, .inr (.inl an))), (oB, .inr (0, [.ref gN, .ref gD, .ref gC, .int rc, .ref gS, .ref gL, .ref gR, .int cc_, .ref gK, .ref gW, .int sc])), (gN, .inl (cJ, 12, .inr (.inl bn))), (gD, .inl (cJ, 12, .inr (.inl bd))), (gC, .inl (cI, 12, .inl bc)), (gS, .inl (cI, 30, .inl bs)), (gL, .inl (cI, 30, .inl bl)), (gR, .inl (cI, 30, .inl br)), (gK, .inl (cI, 120, .inl bk)), (gW, .inl (cJ, 120, .inr (.inl bw))), (oB2, .inr (0, [.ref gN2, .ref gD2, .ref gC2, .int rc2, .ref gS2, .ref gL2, .ref gR2, .int cc_2, .ref gK2, .ref gW2, .int sc2])), (gN2, .inl (cJ, 12, .inr (.inl bn2))), (gD2, .inl (cJ, 12, .inr (.inl bd2))), (gC2, .inl (cI, 12, .inl bc2)), (gS2, .inl (cI, 30, .inl bs2)), (gL2, .inl (cI, 30, .inl bl2)), (gR2, .inl (cI, 30, .inl br2)), (gK2, .inl (cI, 120, .inl bk2)), (gW2, .inl (cJ, 120, .inr (.inl bw2))), (aQ, .inl (cJ, 1, .inr (.inl qf))), (oM, .inr (8, [.int th, .ref mT, .int ml, .int ma, .int mk, .int mp, .long mv, .int mw, .ref mN, .ref mD, .ref mF, .ref mS, .ref mL, .ref mR, .ref mE, .ref mK, .ref mV, .int dr, .int dc, .int ds, .int rx, .int cl, .ref mO, .int os, .int fc, .ref mA, .ref mB, .ref mU, .ref mW, .int pi, .int wh, .long ms, .int aq, .int da, .ref mX, .ref mY, .long lu, .long ld, .long qu, .long qd])), (mT, .inl (cI, 800, .inl mt)), (mN, .inl (cJ, 24, .inr (.inl nn))), (mD, .inl (cJ, 24, .inr (.inl dd))), (mF, .inl (cI, 26, .inl fi)), (mS, .inl (cI, 240, .inl sg)), (mL, .inl (cI, 240, .inl lf)), (mR, .inl (cI, 240, .inl rf)), (mE, .inl (cI, 240, .inl ce)), (mK, .inl (cI, 480, .inl sk)), (mV, .inl (cJ, 480, .inr (.inl sv))), (mO, .inl (cI, 130, .inl op)), (mA, .inl (cJ, 40, .inr (.inl gn))), (mB, .inl (cJ, 40, .inr (.inl gv))), (mU, .inl (cJ, 130, .inr (.inl up))), (mW, .inl (cJ, 130, .inr (.inl dn))), (mX, .inl (cI, 12, .inl sx)), (mY, .inl (cJ, 72, .inr (.inl re)))] H → va_D (va_A [] s.heap.size) [(oX, .inr (7, [.ref oT, .ref oD, .ref oF, .ref oJ, .ref aA, .ref oB, .ref oB2, .int as_, .int ad])), (oT, .inr (5, [.ref aT, .int tl])), (aT, .inl (cB, 800, .inl tf)), (oD, .inr (3, [.ref oW])), (oW, .inr (6, [.ref aK, .ref aP, .ref aO, .int cu])), (aK, .inl (cI, 121, .inl wk)), (aP, .inl (cI, 121, .inl wp)), (aO, .inl (cJ, 121, .inr (.inl ww))), (oF, .inr (1, [.ref aN, .ref aV, .int fz])), (aN, .inl (cJ, 40, .inr (.inl fn))), (aV, .inl (cI, 40, .inl fv)), (oJ, .inr (2, [.ref oR, .int js, .long j1, .long j2, .long j3, .long j4])), (oR, .inr (4, [.ref aU, .ref aL, .int pe, .int wy, .long mi])), (aU, .inl (cJ, 19, .inr (.inl ru))), (aL, .inl (cJ, 19, .inr (.inl rl))), (aA, .inl (cJ, 84, .inr (.inl an))), (oB, .inr (0, [.ref gN, .ref gD, .ref gC, .int rc, .ref gS, .ref gL, .ref gR, .int cc_, .ref gK, .ref gW, .int sc])), (gN, .inl (cJ, 12, .inr (.inl bn))), (gD, .inl (cJ, 12, .inr (.inl bd))), (gC, .inl (cI, 12, .inl bc)), (gS, .inl (cI, 30, .inl bs)), (gL, .inl (cI, 30, .inl bl)), (gR, .inl (cI, 30, .inl br)), (gK, .inl (cI, 120, .inl bk)), (gW, .inl (cJ, 120, .inr (.inl bw))), (oB2, .inr (0, [.ref gN2, .ref gD2, .ref gC2, .int rc2, .ref gS2, .ref gL2, .ref gR2, .int cc_2, .ref gK2, .ref gW2, .int sc2])), (gN2, .inl (cJ, 12, .inr (.inl bn2))), (gD2, .inl (cJ, 12, .inr (.inl bd2))), (gC2, .inl (cI, 12, .inl bc2)), (gS2, .inl (cI, 30, .inl bs2)), (gL2, .inl (cI, 30, .inl bl2)), (gR2, .inl (cI, 30, .inl br2)), (gK2, .inl (cI, 120, .inl bk2)), (gW2, .inl (cJ, 120, .inr (.inl bw2))), (aQ, .inl (cJ, 1, .inr (.inl qf))), (oM, .inr (8, [.int th, .ref mT, .int ml, .int ma, .int mk, .int mp, .long mv, .int mw, .ref mN, .ref mD, .ref mF, .ref mS, .ref mL, .ref mR, .ref mE, .ref mK, .ref mV, .int dr, .int dc, .int ds, .int rx, .int cl, .ref mO, .int os, .int fc, .ref mA, .ref mB, .ref mU, .ref mW, .int pi, .int wh, .long ms, .int aq, .int da, .ref mX, .ref mY, .long lu, .long ld, .long qu, .long qd])), (mT, .inl (cI, 800, .inl mt)), (mN, .inl (cJ, 24, .inr (.inl nn))), (mD, .inl (cJ, 24, .inr (.inl dd))), (mF, .inl (cI, 26, .inl fi)), (mS, .inl (cI, 240, .inl sg)), (mL, .inl (cI, 240, .inl lf)), (mR, .inl (cI, 240, .inl rf)), (mE, .inl (cI, 240, .inl ce)), (mK, .inl (cI, 480, .inl sk)), (mV, .inl (cJ, 480, .inr (.inl sv))), (mO, .inl (cI, 130, .inl op)), (mA, .inl (cJ, 40, .inr (.inl gn))), (mB, .inl (cJ, 40, .inr (.inl gv))), (mU, .inl (cJ, 130, .inr (.inl up))), (mW, .inl (cJ, 130, .inr (.inl dn))), (mX, .inl (cI, 12, .inl sx)), (mY, .inl (cJ, 72, .inr (.inl re)))] → va_S (va_A [] s.heap.size) s.heap H locs → lv_has ls 8 [(4, .int i), (3, .ref aQ), (2, .ref oM), (1, .ref oX), (0, .ref b)] → W p l e room_1 s m #[Value.ref b] below meth c H locs cells slots Z (F0 m pc ls [])
