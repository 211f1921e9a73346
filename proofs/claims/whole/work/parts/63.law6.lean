theorem d_law_0 : decode code 0 = .ok (.new 8, 3) := by decide +kernel
theorem d_law_3 : decode code 3 = .ok (.dup, 1) := by decide +kernel
theorem d_law_4 : decode code 4 = .ok (.invokespecial 44, 3) := by decide +kernel
theorem d_law_7 : decode code 7 = .ok (.astore_n 1, 1) := by decide +kernel
theorem d_law_8 : decode code 8 = .ok (.new 45, 3) := by decide +kernel
theorem d_law_11 : decode code 11 = .ok (.dup, 1) := by decide +kernel
theorem d_law_12 : decode code 12 = .ok (.invokespecial 47, 3) := by decide +kernel
theorem d_law_15 : decode code 15 = .ok (.astore_n 2, 1) := by decide +kernel
theorem d_law_16 : decode code 16 = .ok (.iconst 1, 1) := by decide +kernel
theorem d_law_17 : decode code 17 = .ok (.newarray .long, 2) := by decide +kernel
theorem d_law_19 : decode code 19 = .ok (.astore_n 3, 1) := by decide +kernel
theorem d_law_20 : decode code 20 = .ok (.iconst 0, 1) := by decide +kernel
theorem d_law_21 : decode code 21 = .ok (.istore 4, 2) := by decide +kernel
theorem d_law_23 : decode code 23 = .ok (.iload 4, 2) := by decide +kernel
theorem d_law_25 : decode code 25 = .ok (.aload_n 0, 1) := by decide +kernel
theorem d_law_26 : decode code 26 = .ok (.arraylength, 1) := by decide +kernel
theorem d_law_27 : decode code 27 = .ok (.iconst 4, 1) := by decide +kernel
theorem d_law_28 : decode code 28 = .ok (.isub, 1) := by decide +kernel
theorem d_law_29 : decode code 29 = .ok (.if_icmp .gt 664, 3) := by decide +kernel
theorem d_law_32 : decode code 32 = .ok (.aload_n 0, 1) := by decide +kernel
theorem d_law_33 : decode code 33 = .ok (.iload 4, 2) := by decide +kernel
theorem d_law_35 : decode code 35 = .ok (.iaload, 1) := by decide +kernel
theorem d_law_36 : decode code 36 = .ok (.bipush 15, 2) := by decide +kernel
theorem d_law_38 : decode code 38 = .ok (.iand, 1) := by decide +kernel
theorem d_law_39 : decode code 39 = .ok (.tableswitch 648 0 9 #[53, 133, 233, 244, 300, 356, 412, 468, 536, 592], 53) := by decide +kernel
theorem d_law_92 : decode code 92 = .ok (.aload_n 1, 1) := by decide +kernel
theorem d_law_93 : decode code 93 = .ok (.aload_n 0, 1) := by decide +kernel
theorem d_law_94 : decode code 94 = .ok (.iload 4, 2) := by decide +kernel
theorem d_law_96 : decode code 96 = .ok (.iconst 1, 1) := by decide +kernel
theorem d_law_97 : decode code 97 = .ok (.iadd, 1) := by decide +kernel
theorem d_law_98 : decode code 98 = .ok (.iaload, 1) := by decide +kernel
theorem d_law_99 : decode code 99 = .ok (.aload_n 0, 1) := by decide +kernel
theorem d_law_100 : decode code 100 = .ok (.iload 4, 2) := by decide +kernel
theorem d_law_102 : decode code 102 = .ok (.iconst 2, 1) := by decide +kernel
theorem d_law_103 : decode code 103 = .ok (.iadd, 1) := by decide +kernel
theorem d_law_104 : decode code 104 = .ok (.iaload, 1) := by decide +kernel
theorem d_law_105 : decode code 105 = .ok (.i2l, 1) := by decide +kernel
theorem d_law_106 : decode code 106 = .ok (.bipush 32, 2) := by decide +kernel
theorem d_law_108 : decode code 108 = .ok (.lshl, 1) := by decide +kernel
theorem d_law_109 : decode code 109 = .ok (.aload_n 0, 1) := by decide +kernel
theorem d_law_110 : decode code 110 = .ok (.iload 4, 2) := by decide +kernel
theorem d_law_112 : decode code 112 = .ok (.iconst 3, 1) := by decide +kernel
theorem d_law_113 : decode code 113 = .ok (.iadd, 1) := by decide +kernel
theorem d_law_114 : decode code 114 = .ok (.iaload, 1) := by decide +kernel
theorem d_law_115 : decode code 115 = .ok (.i2l, 1) := by decide +kernel
theorem d_law_116 : decode code 116 = .ok (.ldc2_w 48, 3) := by decide +kernel
theorem d_law_119 : decode code 119 = .ok (.land, 1) := by decide +kernel
theorem d_law_120 : decode code 120 = .ok (.lor, 1) := by decide +kernel
theorem d_law_121 : decode code 121 = .ok (.invokestatic 50, 3) := by decide +kernel
theorem d_law_124 : decode code 124 = .ok (.istore 5, 2) := by decide +kernel
theorem d_law_126 : decode code 126 = .ok (.aload_n 2, 1) := by decide +kernel
theorem d_law_127 : decode code 127 = .ok (.aload_n 0, 1) := by decide +kernel
theorem d_law_128 : decode code 128 = .ok (.iload 4, 2) := by decide +kernel
theorem d_law_130 : decode code 130 = .ok (.iconst 1, 1) := by decide +kernel
theorem d_law_131 : decode code 131 = .ok (.iadd, 1) := by decide +kernel
theorem d_law_132 : decode code 132 = .ok (.iaload, 1) := by decide +kernel
theorem d_law_133 : decode code 133 = .ok (.aload_n 0, 1) := by decide +kernel
theorem d_law_134 : decode code 134 = .ok (.iload 4, 2) := by decide +kernel
theorem d_law_136 : decode code 136 = .ok (.iconst 2, 1) := by decide +kernel
theorem d_law_137 : decode code 137 = .ok (.iadd, 1) := by decide +kernel
theorem d_law_138 : decode code 138 = .ok (.iaload, 1) := by decide +kernel
theorem d_law_139 : decode code 139 = .ok (.i2l, 1) := by decide +kernel
theorem d_law_140 : decode code 140 = .ok (.bipush 32, 2) := by decide +kernel
theorem d_law_142 : decode code 142 = .ok (.lshl, 1) := by decide +kernel
theorem d_law_143 : decode code 143 = .ok (.aload_n 0, 1) := by decide +kernel
theorem d_law_144 : decode code 144 = .ok (.iload 4, 2) := by decide +kernel
theorem d_law_146 : decode code 146 = .ok (.iconst 3, 1) := by decide +kernel
theorem d_law_147 : decode code 147 = .ok (.iadd, 1) := by decide +kernel
theorem d_law_148 : decode code 148 = .ok (.iaload, 1) := by decide +kernel
theorem d_law_149 : decode code 149 = .ok (.i2l, 1) := by decide +kernel
theorem d_law_150 : decode code 150 = .ok (.ldc2_w 48, 3) := by decide +kernel
theorem d_law_153 : decode code 153 = .ok (.land, 1) := by decide +kernel
theorem d_law_154 : decode code 154 = .ok (.lor, 1) := by decide +kernel
theorem d_law_155 : decode code 155 = .ok (.invokevirtual 55, 3) := by decide +kernel
theorem d_law_158 : decode code 158 = .ok (.aload_n 2, 1) := by decide +kernel
theorem d_law_159 : decode code 159 = .ok (.invokevirtual 56, 3) := by decide +kernel
theorem d_law_162 : decode code 162 = .ok (.iload 5, 2) := by decide +kernel
theorem d_law_164 : decode code 164 = .ok (.if_icmp .eq 5, 3) := by decide +kernel
theorem d_law_167 : decode code 167 = .ok (.iconst 0, 1) := by decide +kernel
theorem d_law_168 : decode code 168 = .ok (.ireturn, 1) := by decide +kernel
theorem d_law_169 : decode code 169 = .ok (.goto 518, 3) := by decide +kernel
theorem d_law_172 : decode code 172 = .ok (.aload_n 1, 1) := by decide +kernel
theorem d_law_173 : decode code 173 = .ok (.aload_n 0, 1) := by decide +kernel
theorem d_law_174 : decode code 174 = .ok (.iload 4, 2) := by decide +kernel
theorem d_law_176 : decode code 176 = .ok (.iconst 1, 1) := by decide +kernel
theorem d_law_177 : decode code 177 = .ok (.iadd, 1) := by decide +kernel
theorem d_law_178 : decode code 178 = .ok (.iaload, 1) := by decide +kernel
theorem d_law_179 : decode code 179 = .ok (.i2l, 1) := by decide +kernel
theorem d_law_180 : decode code 180 = .ok (.bipush 32, 2) := by decide +kernel
theorem d_law_182 : decode code 182 = .ok (.lshl, 1) := by decide +kernel
theorem d_law_183 : decode code 183 = .ok (.aload_n 0, 1) := by decide +kernel
theorem d_law_184 : decode code 184 = .ok (.iload 4, 2) := by decide +kernel
theorem d_law_186 : decode code 186 = .ok (.iconst 2, 1) := by decide +kernel
theorem d_law_187 : decode code 187 = .ok (.iadd, 1) := by decide +kernel
theorem d_law_188 : decode code 188 = .ok (.iaload, 1) := by decide +kernel
theorem d_law_189 : decode code 189 = .ok (.i2l, 1) := by decide +kernel
theorem d_law_190 : decode code 190 = .ok (.ldc2_w 48, 3) := by decide +kernel
theorem d_law_193 : decode code 193 = .ok (.land, 1) := by decide +kernel
theorem d_law_194 : decode code 194 = .ok (.lor, 1) := by decide +kernel
theorem d_law_195 : decode code 195 = .ok (.aload_n 0, 1) := by decide +kernel
theorem d_law_196 : decode code 196 = .ok (.iload 4, 2) := by decide +kernel
theorem d_law_198 : decode code 198 = .ok (.iconst 3, 1) := by decide +kernel
theorem d_law_199 : decode code 199 = .ok (.iadd, 1) := by decide +kernel
theorem d_law_200 : decode code 200 = .ok (.iaload, 1) := by decide +kernel
theorem d_law_201 : decode code 201 = .ok (.aload_n 3, 1) := by decide +kernel
theorem d_law_202 : decode code 202 = .ok (.invokestatic 60, 3) := by decide +kernel
theorem d_law_205 : decode code 205 = .ok (.istore 5, 2) := by decide +kernel
theorem d_law_207 : decode code 207 = .ok (.aload_n 2, 1) := by decide +kernel
theorem d_law_208 : decode code 208 = .ok (.aload_n 0, 1) := by decide +kernel
theorem d_law_209 : decode code 209 = .ok (.iload 4, 2) := by decide +kernel
theorem d_law_211 : decode code 211 = .ok (.iconst 1, 1) := by decide +kernel
theorem d_law_212 : decode code 212 = .ok (.iadd, 1) := by decide +kernel
theorem d_law_213 : decode code 213 = .ok (.iaload, 1) := by decide +kernel
theorem d_law_214 : decode code 214 = .ok (.i2l, 1) := by decide +kernel
theorem d_law_215 : decode code 215 = .ok (.bipush 32, 2) := by decide +kernel
theorem d_law_217 : decode code 217 = .ok (.lshl, 1) := by decide +kernel
theorem d_law_218 : decode code 218 = .ok (.aload_n 0, 1) := by decide +kernel
theorem d_law_219 : decode code 219 = .ok (.iload 4, 2) := by decide +kernel
theorem d_law_221 : decode code 221 = .ok (.iconst 2, 1) := by decide +kernel
theorem d_law_222 : decode code 222 = .ok (.iadd, 1) := by decide +kernel
theorem d_law_223 : decode code 223 = .ok (.iaload, 1) := by decide +kernel
theorem d_law_224 : decode code 224 = .ok (.i2l, 1) := by decide +kernel
theorem d_law_225 : decode code 225 = .ok (.ldc2_w 48, 3) := by decide +kernel
theorem d_law_228 : decode code 228 = .ok (.land, 1) := by decide +kernel
theorem d_law_229 : decode code 229 = .ok (.lor, 1) := by decide +kernel
theorem d_law_230 : decode code 230 = .ok (.aload_n 0, 1) := by decide +kernel
theorem d_law_231 : decode code 231 = .ok (.iload 4, 2) := by decide +kernel
theorem d_law_233 : decode code 233 = .ok (.iconst 3, 1) := by decide +kernel
theorem d_law_234 : decode code 234 = .ok (.iadd, 1) := by decide +kernel
theorem d_law_235 : decode code 235 = .ok (.iaload, 1) := by decide +kernel
theorem d_law_236 : decode code 236 = .ok (.invokevirtual 63, 3) := by decide +kernel
theorem d_law_239 : decode code 239 = .ok (.istore 6, 2) := by decide +kernel
theorem d_law_241 : decode code 241 = .ok (.aload_n 2, 1) := by decide +kernel
theorem d_law_242 : decode code 242 = .ok (.invokevirtual 56, 3) := by decide +kernel
theorem d_law_245 : decode code 245 = .ok (.iload 5, 2) := by decide +kernel
theorem d_law_247 : decode code 247 = .ok (.if_icmp .eq 5, 3) := by decide +kernel
theorem d_law_250 : decode code 250 = .ok (.iconst 0, 1) := by decide +kernel
theorem d_law_251 : decode code 251 = .ok (.ireturn, 1) := by decide +kernel
theorem d_law_252 : decode code 252 = .ok (.iload 5, 2) := by decide +kernel
theorem d_law_254 : decode code 254 = .ok (.ifCond .ne 15, 3) := by decide +kernel
theorem d_law_257 : decode code 257 = .ok (.aload_n 3, 1) := by decide +kernel
theorem d_law_258 : decode code 258 = .ok (.iconst 0, 1) := by decide +kernel
theorem d_law_259 : decode code 259 = .ok (.laload, 1) := by decide +kernel
theorem d_law_260 : decode code 260 = .ok (.iload 6, 2) := by decide +kernel
theorem d_law_262 : decode code 262 = .ok (.i2l, 1) := by decide +kernel
theorem d_law_263 : decode code 263 = .ok (.lcmp, 1) := by decide +kernel
theorem d_law_264 : decode code 264 = .ok (.ifCond .eq 5, 3) := by decide +kernel
theorem d_law_267 : decode code 267 = .ok (.iconst 0, 1) := by decide +kernel
theorem d_law_268 : decode code 268 = .ok (.ireturn, 1) := by decide +kernel
theorem d_law_269 : decode code 269 = .ok (.goto 418, 3) := by decide +kernel
theorem d_law_272 : decode code 272 = .ok (.aload_n 1, 1) := by decide +kernel
theorem d_law_273 : decode code 273 = .ok (.invokevirtual 64, 3) := by decide +kernel
theorem d_law_276 : decode code 276 = .ok (.aload_n 2, 1) := by decide +kernel
theorem d_law_277 : decode code 277 = .ok (.invokevirtual 67, 3) := by decide +kernel
theorem d_law_280 : decode code 280 = .ok (.goto 407, 3) := by decide +kernel
theorem d_law_283 : decode code 283 = .ok (.aload_n 1, 1) := by decide +kernel
theorem d_law_284 : decode code 284 = .ok (.aload_n 0, 1) := by decide +kernel
theorem d_law_285 : decode code 285 = .ok (.iload 4, 2) := by decide +kernel
theorem d_law_287 : decode code 287 = .ok (.iconst 1, 1) := by decide +kernel
theorem d_law_288 : decode code 288 = .ok (.iadd, 1) := by decide +kernel
theorem d_law_289 : decode code 289 = .ok (.iaload, 1) := by decide +kernel
theorem d_law_290 : decode code 290 = .ok (.aload_n 3, 1) := by decide +kernel
theorem d_law_291 : decode code 291 = .ok (.invokestatic 68, 3) := by decide +kernel
theorem d_law_294 : decode code 294 = .ok (.istore 5, 2) := by decide +kernel
theorem d_law_296 : decode code 296 = .ok (.aload_n 2, 1) := by decide +kernel
theorem d_law_297 : decode code 297 = .ok (.aload_n 0, 1) := by decide +kernel
theorem d_law_298 : decode code 298 = .ok (.iload 4, 2) := by decide +kernel
theorem d_law_300 : decode code 300 = .ok (.iconst 1, 1) := by decide +kernel
theorem d_law_301 : decode code 301 = .ok (.iadd, 1) := by decide +kernel
theorem d_law_302 : decode code 302 = .ok (.iaload, 1) := by decide +kernel
theorem d_law_303 : decode code 303 = .ok (.invokevirtual 71, 3) := by decide +kernel
theorem d_law_306 : decode code 306 = .ok (.istore 6, 2) := by decide +kernel
theorem d_law_308 : decode code 308 = .ok (.aload_n 2, 1) := by decide +kernel
theorem d_law_309 : decode code 309 = .ok (.invokevirtual 56, 3) := by decide +kernel
theorem d_law_312 : decode code 312 = .ok (.iload 5, 2) := by decide +kernel
theorem d_law_314 : decode code 314 = .ok (.if_icmp .eq 5, 3) := by decide +kernel
theorem d_law_317 : decode code 317 = .ok (.iconst 0, 1) := by decide +kernel
theorem d_law_318 : decode code 318 = .ok (.ireturn, 1) := by decide +kernel
theorem d_law_319 : decode code 319 = .ok (.iload 5, 2) := by decide +kernel
theorem d_law_321 : decode code 321 = .ok (.ifCond .ne 15, 3) := by decide +kernel
theorem d_law_324 : decode code 324 = .ok (.aload_n 3, 1) := by decide +kernel
theorem d_law_325 : decode code 325 = .ok (.iconst 0, 1) := by decide +kernel
theorem d_law_326 : decode code 326 = .ok (.laload, 1) := by decide +kernel
theorem d_law_327 : decode code 327 = .ok (.iload 6, 2) := by decide +kernel
theorem d_law_329 : decode code 329 = .ok (.i2l, 1) := by decide +kernel
theorem d_law_330 : decode code 330 = .ok (.lcmp, 1) := by decide +kernel
theorem d_law_331 : decode code 331 = .ok (.ifCond .eq 5, 3) := by decide +kernel
theorem d_law_334 : decode code 334 = .ok (.iconst 0, 1) := by decide +kernel
theorem d_law_335 : decode code 335 = .ok (.ireturn, 1) := by decide +kernel
theorem d_law_336 : decode code 336 = .ok (.goto 351, 3) := by decide +kernel
theorem d_law_339 : decode code 339 = .ok (.aload_n 1, 1) := by decide +kernel
theorem d_law_340 : decode code 340 = .ok (.aload_n 0, 1) := by decide +kernel
theorem d_law_341 : decode code 341 = .ok (.iload 4, 2) := by decide +kernel
theorem d_law_343 : decode code 343 = .ok (.iconst 1, 1) := by decide +kernel
theorem d_law_344 : decode code 344 = .ok (.iadd, 1) := by decide +kernel
theorem d_law_345 : decode code 345 = .ok (.iaload, 1) := by decide +kernel
theorem d_law_346 : decode code 346 = .ok (.aload_n 3, 1) := by decide +kernel
theorem d_law_347 : decode code 347 = .ok (.invokestatic 72, 3) := by decide +kernel
theorem d_law_350 : decode code 350 = .ok (.istore 5, 2) := by decide +kernel
theorem d_law_352 : decode code 352 = .ok (.aload_n 2, 1) := by decide +kernel
theorem d_law_353 : decode code 353 = .ok (.aload_n 0, 1) := by decide +kernel
theorem d_law_354 : decode code 354 = .ok (.iload 4, 2) := by decide +kernel
theorem d_law_356 : decode code 356 = .ok (.iconst 1, 1) := by decide +kernel
theorem d_law_357 : decode code 357 = .ok (.iadd, 1) := by decide +kernel
theorem d_law_358 : decode code 358 = .ok (.iaload, 1) := by decide +kernel
theorem d_law_359 : decode code 359 = .ok (.invokevirtual 74, 3) := by decide +kernel
theorem d_law_362 : decode code 362 = .ok (.istore 6, 2) := by decide +kernel
theorem d_law_364 : decode code 364 = .ok (.aload_n 2, 1) := by decide +kernel
theorem d_law_365 : decode code 365 = .ok (.invokevirtual 56, 3) := by decide +kernel
theorem d_law_368 : decode code 368 = .ok (.iload 5, 2) := by decide +kernel
theorem d_law_370 : decode code 370 = .ok (.if_icmp .eq 5, 3) := by decide +kernel
theorem d_law_373 : decode code 373 = .ok (.iconst 0, 1) := by decide +kernel
theorem d_law_374 : decode code 374 = .ok (.ireturn, 1) := by decide +kernel
theorem d_law_375 : decode code 375 = .ok (.iload 5, 2) := by decide +kernel
theorem d_law_377 : decode code 377 = .ok (.ifCond .ne 15, 3) := by decide +kernel
theorem d_law_380 : decode code 380 = .ok (.aload_n 3, 1) := by decide +kernel
theorem d_law_381 : decode code 381 = .ok (.iconst 0, 1) := by decide +kernel
theorem d_law_382 : decode code 382 = .ok (.laload, 1) := by decide +kernel
theorem d_law_383 : decode code 383 = .ok (.iload 6, 2) := by decide +kernel
theorem d_law_385 : decode code 385 = .ok (.i2l, 1) := by decide +kernel
theorem d_law_386 : decode code 386 = .ok (.lcmp, 1) := by decide +kernel
theorem d_law_387 : decode code 387 = .ok (.ifCond .eq 5, 3) := by decide +kernel
theorem d_law_390 : decode code 390 = .ok (.iconst 0, 1) := by decide +kernel
theorem d_law_391 : decode code 391 = .ok (.ireturn, 1) := by decide +kernel
theorem d_law_392 : decode code 392 = .ok (.goto 295, 3) := by decide +kernel
theorem d_law_395 : decode code 395 = .ok (.aload_n 1, 1) := by decide +kernel
theorem d_law_396 : decode code 396 = .ok (.aload_n 0, 1) := by decide +kernel
theorem d_law_397 : decode code 397 = .ok (.iload 4, 2) := by decide +kernel
theorem d_law_399 : decode code 399 = .ok (.iconst 1, 1) := by decide +kernel
theorem d_law_400 : decode code 400 = .ok (.iadd, 1) := by decide +kernel
theorem d_law_401 : decode code 401 = .ok (.iaload, 1) := by decide +kernel
theorem d_law_402 : decode code 402 = .ok (.aload_n 3, 1) := by decide +kernel
theorem d_law_403 : decode code 403 = .ok (.invokestatic 75, 3) := by decide +kernel
theorem d_law_406 : decode code 406 = .ok (.istore 5, 2) := by decide +kernel
theorem d_law_408 : decode code 408 = .ok (.aload_n 2, 1) := by decide +kernel
theorem d_law_409 : decode code 409 = .ok (.aload_n 0, 1) := by decide +kernel
theorem d_law_410 : decode code 410 = .ok (.iload 4, 2) := by decide +kernel
theorem d_law_412 : decode code 412 = .ok (.iconst 1, 1) := by decide +kernel
theorem d_law_413 : decode code 413 = .ok (.iadd, 1) := by decide +kernel
theorem d_law_414 : decode code 414 = .ok (.iaload, 1) := by decide +kernel
theorem d_law_415 : decode code 415 = .ok (.invokevirtual 77, 3) := by decide +kernel
theorem d_law_418 : decode code 418 = .ok (.istore 6, 2) := by decide +kernel
theorem d_law_420 : decode code 420 = .ok (.aload_n 2, 1) := by decide +kernel
theorem d_law_421 : decode code 421 = .ok (.invokevirtual 56, 3) := by decide +kernel
theorem d_law_424 : decode code 424 = .ok (.iload 5, 2) := by decide +kernel
theorem d_law_426 : decode code 426 = .ok (.if_icmp .eq 5, 3) := by decide +kernel
theorem d_law_429 : decode code 429 = .ok (.iconst 0, 1) := by decide +kernel
theorem d_law_430 : decode code 430 = .ok (.ireturn, 1) := by decide +kernel
theorem d_law_431 : decode code 431 = .ok (.iload 5, 2) := by decide +kernel
theorem d_law_433 : decode code 433 = .ok (.ifCond .ne 15, 3) := by decide +kernel
theorem d_law_436 : decode code 436 = .ok (.aload_n 3, 1) := by decide +kernel
theorem d_law_437 : decode code 437 = .ok (.iconst 0, 1) := by decide +kernel
theorem d_law_438 : decode code 438 = .ok (.laload, 1) := by decide +kernel
theorem d_law_439 : decode code 439 = .ok (.iload 6, 2) := by decide +kernel
theorem d_law_441 : decode code 441 = .ok (.i2l, 1) := by decide +kernel
theorem d_law_442 : decode code 442 = .ok (.lcmp, 1) := by decide +kernel
theorem d_law_443 : decode code 443 = .ok (.ifCond .eq 5, 3) := by decide +kernel
theorem d_law_446 : decode code 446 = .ok (.iconst 0, 1) := by decide +kernel
theorem d_law_447 : decode code 447 = .ok (.ireturn, 1) := by decide +kernel
theorem d_law_448 : decode code 448 = .ok (.goto 239, 3) := by decide +kernel
theorem d_law_451 : decode code 451 = .ok (.aload_n 1, 1) := by decide +kernel
theorem d_law_452 : decode code 452 = .ok (.aload_n 0, 1) := by decide +kernel
theorem d_law_453 : decode code 453 = .ok (.iload 4, 2) := by decide +kernel
theorem d_law_455 : decode code 455 = .ok (.iconst 1, 1) := by decide +kernel
theorem d_law_456 : decode code 456 = .ok (.iadd, 1) := by decide +kernel
theorem d_law_457 : decode code 457 = .ok (.iaload, 1) := by decide +kernel
theorem d_law_458 : decode code 458 = .ok (.aload_n 3, 1) := by decide +kernel
theorem d_law_459 : decode code 459 = .ok (.invokestatic 78, 3) := by decide +kernel
theorem d_law_462 : decode code 462 = .ok (.istore 5, 2) := by decide +kernel
theorem d_law_464 : decode code 464 = .ok (.aload_n 2, 1) := by decide +kernel
theorem d_law_465 : decode code 465 = .ok (.aload_n 0, 1) := by decide +kernel
theorem d_law_466 : decode code 466 = .ok (.iload 4, 2) := by decide +kernel
theorem d_law_468 : decode code 468 = .ok (.iconst 1, 1) := by decide +kernel
theorem d_law_469 : decode code 469 = .ok (.iadd, 1) := by decide +kernel
theorem d_law_470 : decode code 470 = .ok (.iaload, 1) := by decide +kernel
theorem d_law_471 : decode code 471 = .ok (.invokevirtual 80, 3) := by decide +kernel
theorem d_law_474 : decode code 474 = .ok (.istore 6, 2) := by decide +kernel
theorem d_law_476 : decode code 476 = .ok (.aload_n 2, 1) := by decide +kernel
theorem d_law_477 : decode code 477 = .ok (.invokevirtual 56, 3) := by decide +kernel
theorem d_law_480 : decode code 480 = .ok (.iload 5, 2) := by decide +kernel
theorem d_law_482 : decode code 482 = .ok (.if_icmp .eq 5, 3) := by decide +kernel
theorem d_law_485 : decode code 485 = .ok (.iconst 0, 1) := by decide +kernel
theorem d_law_486 : decode code 486 = .ok (.ireturn, 1) := by decide +kernel
theorem d_law_487 : decode code 487 = .ok (.iload 5, 2) := by decide +kernel
theorem d_law_489 : decode code 489 = .ok (.ifCond .ne 15, 3) := by decide +kernel
theorem d_law_492 : decode code 492 = .ok (.aload_n 3, 1) := by decide +kernel
theorem d_law_493 : decode code 493 = .ok (.iconst 0, 1) := by decide +kernel
theorem d_law_494 : decode code 494 = .ok (.laload, 1) := by decide +kernel
theorem d_law_495 : decode code 495 = .ok (.iload 6, 2) := by decide +kernel
theorem d_law_497 : decode code 497 = .ok (.i2l, 1) := by decide +kernel
theorem d_law_498 : decode code 498 = .ok (.lcmp, 1) := by decide +kernel
theorem d_law_499 : decode code 499 = .ok (.ifCond .eq 5, 3) := by decide +kernel
theorem d_law_502 : decode code 502 = .ok (.iconst 0, 1) := by decide +kernel
theorem d_law_503 : decode code 503 = .ok (.ireturn, 1) := by decide +kernel
theorem d_law_504 : decode code 504 = .ok (.goto 183, 3) := by decide +kernel
theorem d_law_507 : decode code 507 = .ok (.aload_n 1, 1) := by decide +kernel
theorem d_law_508 : decode code 508 = .ok (.aload_n 0, 1) := by decide +kernel
theorem d_law_509 : decode code 509 = .ok (.iload 4, 2) := by decide +kernel
theorem d_law_511 : decode code 511 = .ok (.iconst 1, 1) := by decide +kernel
theorem d_law_512 : decode code 512 = .ok (.iadd, 1) := by decide +kernel
theorem d_law_513 : decode code 513 = .ok (.iaload, 1) := by decide +kernel
theorem d_law_514 : decode code 514 = .ok (.aload_n 0, 1) := by decide +kernel
theorem d_law_515 : decode code 515 = .ok (.iload 4, 2) := by decide +kernel
theorem d_law_517 : decode code 517 = .ok (.iconst 2, 1) := by decide +kernel
theorem d_law_518 : decode code 518 = .ok (.iadd, 1) := by decide +kernel
theorem d_law_519 : decode code 519 = .ok (.iaload, 1) := by decide +kernel
theorem d_law_520 : decode code 520 = .ok (.aload_n 3, 1) := by decide +kernel
theorem d_law_521 : decode code 521 = .ok (.invokestatic 81, 3) := by decide +kernel
theorem d_law_524 : decode code 524 = .ok (.istore 5, 2) := by decide +kernel
theorem d_law_526 : decode code 526 = .ok (.aload_n 2, 1) := by decide +kernel
theorem d_law_527 : decode code 527 = .ok (.aload_n 0, 1) := by decide +kernel
theorem d_law_528 : decode code 528 = .ok (.iload 4, 2) := by decide +kernel
theorem d_law_530 : decode code 530 = .ok (.iconst 1, 1) := by decide +kernel
theorem d_law_531 : decode code 531 = .ok (.iadd, 1) := by decide +kernel
theorem d_law_532 : decode code 532 = .ok (.iaload, 1) := by decide +kernel
theorem d_law_533 : decode code 533 = .ok (.aload_n 0, 1) := by decide +kernel
theorem d_law_534 : decode code 534 = .ok (.iload 4, 2) := by decide +kernel
theorem d_law_536 : decode code 536 = .ok (.iconst 2, 1) := by decide +kernel
theorem d_law_537 : decode code 537 = .ok (.iadd, 1) := by decide +kernel
theorem d_law_538 : decode code 538 = .ok (.iaload, 1) := by decide +kernel
theorem d_law_539 : decode code 539 = .ok (.invokevirtual 84, 3) := by decide +kernel
theorem d_law_542 : decode code 542 = .ok (.istore 6, 2) := by decide +kernel
theorem d_law_544 : decode code 544 = .ok (.aload_n 2, 1) := by decide +kernel
theorem d_law_545 : decode code 545 = .ok (.invokevirtual 56, 3) := by decide +kernel
theorem d_law_548 : decode code 548 = .ok (.iload 5, 2) := by decide +kernel
theorem d_law_550 : decode code 550 = .ok (.if_icmp .eq 5, 3) := by decide +kernel
theorem d_law_553 : decode code 553 = .ok (.iconst 0, 1) := by decide +kernel
theorem d_law_554 : decode code 554 = .ok (.ireturn, 1) := by decide +kernel
theorem d_law_555 : decode code 555 = .ok (.iload 5, 2) := by decide +kernel
theorem d_law_557 : decode code 557 = .ok (.ifCond .ne 15, 3) := by decide +kernel
theorem d_law_560 : decode code 560 = .ok (.aload_n 3, 1) := by decide +kernel
theorem d_law_561 : decode code 561 = .ok (.iconst 0, 1) := by decide +kernel
theorem d_law_562 : decode code 562 = .ok (.laload, 1) := by decide +kernel
theorem d_law_563 : decode code 563 = .ok (.iload 6, 2) := by decide +kernel
theorem d_law_565 : decode code 565 = .ok (.i2l, 1) := by decide +kernel
theorem d_law_566 : decode code 566 = .ok (.lcmp, 1) := by decide +kernel
theorem d_law_567 : decode code 567 = .ok (.ifCond .eq 5, 3) := by decide +kernel
theorem d_law_570 : decode code 570 = .ok (.iconst 0, 1) := by decide +kernel
theorem d_law_571 : decode code 571 = .ok (.ireturn, 1) := by decide +kernel
theorem d_law_572 : decode code 572 = .ok (.goto 115, 3) := by decide +kernel
theorem d_law_575 : decode code 575 = .ok (.aload_n 1, 1) := by decide +kernel
theorem d_law_576 : decode code 576 = .ok (.aload_n 0, 1) := by decide +kernel
theorem d_law_577 : decode code 577 = .ok (.iload 4, 2) := by decide +kernel
theorem d_law_579 : decode code 579 = .ok (.iconst 1, 1) := by decide +kernel
theorem d_law_580 : decode code 580 = .ok (.iadd, 1) := by decide +kernel
theorem d_law_581 : decode code 581 = .ok (.iaload, 1) := by decide +kernel
theorem d_law_582 : decode code 582 = .ok (.aload_n 3, 1) := by decide +kernel
theorem d_law_583 : decode code 583 = .ok (.invokestatic 85, 3) := by decide +kernel
theorem d_law_586 : decode code 586 = .ok (.istore 5, 2) := by decide +kernel
theorem d_law_588 : decode code 588 = .ok (.aload_n 2, 1) := by decide +kernel
theorem d_law_589 : decode code 589 = .ok (.aload_n 0, 1) := by decide +kernel
theorem d_law_590 : decode code 590 = .ok (.iload 4, 2) := by decide +kernel
theorem d_law_592 : decode code 592 = .ok (.iconst 1, 1) := by decide +kernel
theorem d_law_593 : decode code 593 = .ok (.iadd, 1) := by decide +kernel
theorem d_law_594 : decode code 594 = .ok (.iaload, 1) := by decide +kernel
theorem d_law_595 : decode code 595 = .ok (.invokevirtual 87, 3) := by decide +kernel
theorem d_law_598 : decode code 598 = .ok (.istore 6, 2) := by decide +kernel
theorem d_law_600 : decode code 600 = .ok (.aload_n 2, 1) := by decide +kernel
theorem d_law_601 : decode code 601 = .ok (.invokevirtual 56, 3) := by decide +kernel
theorem d_law_604 : decode code 604 = .ok (.iload 5, 2) := by decide +kernel
theorem d_law_606 : decode code 606 = .ok (.if_icmp .eq 5, 3) := by decide +kernel
theorem d_law_609 : decode code 609 = .ok (.iconst 0, 1) := by decide +kernel
theorem d_law_610 : decode code 610 = .ok (.ireturn, 1) := by decide +kernel
theorem d_law_611 : decode code 611 = .ok (.iload 5, 2) := by decide +kernel
theorem d_law_613 : decode code 613 = .ok (.ifCond .ne 15, 3) := by decide +kernel
theorem d_law_616 : decode code 616 = .ok (.aload_n 3, 1) := by decide +kernel
theorem d_law_617 : decode code 617 = .ok (.iconst 0, 1) := by decide +kernel
theorem d_law_618 : decode code 618 = .ok (.laload, 1) := by decide +kernel
theorem d_law_619 : decode code 619 = .ok (.iload 6, 2) := by decide +kernel
theorem d_law_621 : decode code 621 = .ok (.i2l, 1) := by decide +kernel
theorem d_law_622 : decode code 622 = .ok (.lcmp, 1) := by decide +kernel
theorem d_law_623 : decode code 623 = .ok (.ifCond .eq 5, 3) := by decide +kernel
theorem d_law_626 : decode code 626 = .ok (.iconst 0, 1) := by decide +kernel
theorem d_law_627 : decode code 627 = .ok (.ireturn, 1) := by decide +kernel
theorem d_law_628 : decode code 628 = .ok (.goto 59, 3) := by decide +kernel
theorem d_law_631 : decode code 631 = .ok (.aload_n 1, 1) := by decide +kernel
theorem d_law_632 : decode code 632 = .ok (.aload_n 0, 1) := by decide +kernel
theorem d_law_633 : decode code 633 = .ok (.iload 4, 2) := by decide +kernel
theorem d_law_635 : decode code 635 = .ok (.iconst 1, 1) := by decide +kernel
theorem d_law_636 : decode code 636 = .ok (.iadd, 1) := by decide +kernel
theorem d_law_637 : decode code 637 = .ok (.iaload, 1) := by decide +kernel
theorem d_law_638 : decode code 638 = .ok (.aload_n 3, 1) := by decide +kernel
theorem d_law_639 : decode code 639 = .ok (.invokestatic 88, 3) := by decide +kernel
theorem d_law_642 : decode code 642 = .ok (.istore 5, 2) := by decide +kernel
theorem d_law_644 : decode code 644 = .ok (.aload_n 2, 1) := by decide +kernel
theorem d_law_645 : decode code 645 = .ok (.aload_n 0, 1) := by decide +kernel
theorem d_law_646 : decode code 646 = .ok (.iload 4, 2) := by decide +kernel
theorem d_law_648 : decode code 648 = .ok (.iconst 1, 1) := by decide +kernel
theorem d_law_649 : decode code 649 = .ok (.iadd, 1) := by decide +kernel
theorem d_law_650 : decode code 650 = .ok (.iaload, 1) := by decide +kernel
theorem d_law_651 : decode code 651 = .ok (.invokevirtual 90, 3) := by decide +kernel
theorem d_law_654 : decode code 654 = .ok (.istore 6, 2) := by decide +kernel
theorem d_law_656 : decode code 656 = .ok (.aload_n 2, 1) := by decide +kernel
theorem d_law_657 : decode code 657 = .ok (.invokevirtual 56, 3) := by decide +kernel
theorem d_law_660 : decode code 660 = .ok (.iload 5, 2) := by decide +kernel
theorem d_law_662 : decode code 662 = .ok (.if_icmp .eq 5, 3) := by decide +kernel
theorem d_law_665 : decode code 665 = .ok (.iconst 0, 1) := by decide +kernel
theorem d_law_666 : decode code 666 = .ok (.ireturn, 1) := by decide +kernel
theorem d_law_667 : decode code 667 = .ok (.iload 5, 2) := by decide +kernel
theorem d_law_669 : decode code 669 = .ok (.ifCond .ne 15, 3) := by decide +kernel
theorem d_law_672 : decode code 672 = .ok (.aload_n 3, 1) := by decide +kernel
theorem d_law_673 : decode code 673 = .ok (.iconst 0, 1) := by decide +kernel
theorem d_law_674 : decode code 674 = .ok (.laload, 1) := by decide +kernel
theorem d_law_675 : decode code 675 = .ok (.iload 6, 2) := by decide +kernel
theorem d_law_677 : decode code 677 = .ok (.i2l, 1) := by decide +kernel
theorem d_law_678 : decode code 678 = .ok (.lcmp, 1) := by decide +kernel
theorem d_law_679 : decode code 679 = .ok (.ifCond .eq 5, 3) := by decide +kernel
theorem d_law_682 : decode code 682 = .ok (.iconst 0, 1) := by decide +kernel
theorem d_law_683 : decode code 683 = .ok (.ireturn, 1) := by decide +kernel
theorem d_law_684 : decode code 684 = .ok (.goto 3, 3) := by decide +kernel
theorem d_law_687 : decode code 687 = .ok (.iinc 4 4, 3) := by decide +kernel
theorem d_law_690 : decode code 690 = .ok (.goto (-667), 3) := by decide +kernel
theorem d_law_693 : decode code 693 = .ok (.iconst 1, 1) := by decide +kernel
theorem d_law_694 : decode code 694 = .ok (.ireturn, 1) := by decide +kernel
set_option maxHeartbeats 1000000 in
set_option maxRecDepth 100000 in
theorem lc_image {p : Program} {l : Launch} {e : Env} {s : State} {m : MethodId} {below : List Frame} {meth : Method} {c : Code} {b L : Nat} {xs : Nat → Int32} {dC : Nat → ClassId} {dI : Nat → Nat → Nat} {cI cZ cJ : ClassId} {ad : Nat → Nat} {o : Nat} {ad2 : Nat → Nat} {Sim : S5 → S5 → Prop} (hsim : LSim Sim) (C : LC p l s m meth c b L xs dC dI cI cZ cJ) {Q : State → Prop} {i : Nat} (hi : i + 4 ≤ L) {u v : S5} {x : Nat → Int64} (hz : Sim u v) {H : Heap} {locs : List Loc} {cells slots : Nat} (V : LV s dC dI cI cZ cJ ad o ad2 u x v H locs) {ls : Array Slot} (hl : lv_has ls 7 [(0, .ref b), (1, .ref (ad 0)), (2, .ref (ad2 0)), (3, .ref o), (4, .int (nI i))]) (hr1 : cells + 1 ≤ 601024) (hr2 : slots + 6 ≤ 7293034)
    (kk : ∀ (u2 v2 : S5) (x2 : Nat → Int64) (H2 : Heap) (locs2 : List Loc) (ls2 : Array Slot), Sim u2 v2 → LV s dC dI cI cZ cJ ad o ad2 u2 x2 v2 H2 locs2 → lv_has ls2 7 [(0, .ref b), (1, .ref (ad 0)), (2, .ref (ad2 0)), (3, .ref o), (4, .int (nI i))] → W p l e room_1 s m #[Value.ref b] below meth c H2 locs2 (cells + 1) (slots + 6) Q (F0 m 687 ls2 [])) : W p l e room_1 s m #[Value.ref b] below meth c H locs cells slots Q (F0 m 92 ls []) := by
  obtain ⟨hx, hb, hr, hml, hown, hT, hX, hbl, hlocks, hgv⟩ := C.at0
  have hts := C.words
  refine lv_aload_n hx hb d_law_92 rfl (lv_at hl 1 rfl) ?_
  refine lscr (j := 1) (jv := 1) C V hl 0 4 (by omega) rfl rfl rfl d_law_93 d_law_94 d_law_96 d_law_97 d_law_98 ?_
  refine lscr (j := 2) (jv := 2) C V hl 0 4 (by omega) rfl rfl rfl d_law_99 d_law_100 d_law_102 d_law_103 d_law_104 ?_
  refine lv_i2l hx hb d_law_105 rfl ?_
  refine lv_bipush (v := 32) hx hb d_law_106 (by decide) ?_
  refine lv_lshl hx hb d_law_108 rfl ?_
  refine lscr (j := 3) (jv := 3) C V hl 0 4 (by omega) rfl rfl rfl d_law_109 d_law_110 d_law_112 d_law_113 d_law_114 ?_
  refine lv_i2l hx hb d_law_115 rfl ?_
  refine lv_ldc2 (v := 4294967295) hx hb hown (hts _ m_18_35) d_law_116 ?_
  refine lv_land hx hb d_law_119 ?_
  refine lv_lor hx hb d_law_120 ?_
  refine lhcall C V (k := (gC_image (xs (i + 1)) ((xs (i + 2)).toInt64 <<< ((32 : Int32).toInt64 &&& 63) ||| ((xs (i + 3)).toInt64 &&& 4294967295)) u).1) (u2 := (gC_image (xs (i + 1)) ((xs (i + 2)).toInt64 <<< ((32 : Int32).toInt64 &&& 63) ||| ((xs (i + 3)).toInt64 &&& 4294967295)) u).2.2) (As := [.ref (ad 0), .int (xs (i + 1)), .long ((xs (i + 2)).toInt64 <<< ((32 : Int32).toInt64 &&& 63) ||| ((xs (i + 3)).toInt64 &&& 4294967295))]) (maxL := 5) (bytes := b_La_image) (hh := [(0, 6, 9, 13)]) (h_image l C.fl dC dI cI cJ ad o u x (xs (i + 1)) ((xs (i + 2)).toInt64 <<< ((32 : Int32).toInt64 &&& 63) ||| ((xs (i + 3)).toInt64 &&& 4294967295))  H.size) rfl rfl (hts _ m_5_27) (hts _ m_5_28) (hts _ m_0_0) (hT _ (List.mem_append_right _ (List.contains_iff_mem.mp (by decide +kernel)))) (by decide) (by decide) (fun sig h => by cases h; rfl) rfl hl.1 d_law_121 hr1 hr2 (fun H locs V => ?_)
  refine lv_istore hx hb d_law_124 hl (by decide) rfl (fun ls hl => ?_)
  have hl : lv_has ls 7 [(5, .int (gC_image (xs (i + 1)) ((xs (i + 2)).toInt64 <<< ((32 : Int32).toInt64 &&& 63) ||| ((xs (i + 3)).toInt64 &&& 4294967295)) u).1), (0, .ref b), (1, .ref (ad 0)), (2, .ref (ad2 0)), (3, .ref o), (4, .int (nI i))] := hl
  refine lv_aload_n hx hb d_law_126 rfl (lv_at hl 3 rfl) ?_
  refine lscr (j := 1) (jv := 1) C V hl 1 5 (by omega) rfl rfl rfl d_law_127 d_law_128 d_law_130 d_law_131 d_law_132 ?_
  refine lscr (j := 2) (jv := 2) C V hl 1 5 (by omega) rfl rfl rfl d_law_133 d_law_134 d_law_136 d_law_137 d_law_138 ?_
  refine lv_i2l hx hb d_law_139 rfl ?_
  refine lv_bipush (v := 32) hx hb d_law_140 (by decide) ?_
  refine lv_lshl hx hb d_law_142 rfl ?_
  refine lscr (j := 3) (jv := 3) C V hl 1 5 (by omega) rfl rfl rfl d_law_143 d_law_144 d_law_146 d_law_147 d_law_148 ?_
  refine lv_i2l hx hb d_law_149 rfl ?_
  refine lv_ldc2 (v := 4294967295) hx hb hown (hts _ m_18_35) d_law_150 ?_
  refine lv_land hx hb d_law_153 ?_
  refine lv_lor hx hb d_law_154 ?_
  refine lmcall_v C V (v2 := (f_Mo_image (xs (i + 1)) ((xs (i + 2)).toInt64 <<< ((32 : Int32).toInt64 &&& 63) ||| ((xs (i + 3)).toInt64 &&& 4294967295)) v)) (As := [.int (xs (i + 1)), .long ((xs (i + 2)).toInt64 <<< ((32 : Int32).toInt64 &&& 63) ||| ((xs (i + 3)).toInt64 &&& 4294967295))]) (c_Mo_image l dC dI cI cZ ad2 v (xs (i + 1)) ((xs (i + 2)).toInt64 <<< ((32 : Int32).toInt64 &&& 63) ||| ((xs (i + 3)).toInt64 &&& 4294967295)) H.size) (cwV 2 hts (goodV m_15_17 m_15_18 m_15_19 m_0_12 m_15_20) rfl rfl rfl (by decide +kernel) ⟨Nat.le_of_ble_eq_true rfl, Nat.le_of_ble_eq_true rfl⟩) rfl hl.1 d_law_155 (by omega) (by omega) (fun H locs V => ?_)
  have hq := hsim.image u v (xs (i + 1)) ((xs (i + 2)).toInt64 <<< ((32 : Int32).toInt64 &&& 63) ||| ((xs (i + 3)).toInt64 &&& 4294967295)) hz
  refine lv_aload_n hx hb d_law_158 rfl (lv_at hl 3 rfl) ?_
  refine lmcall_i C V (r := f_Mo_thrown (f_Mo_image (xs (i + 1)) ((xs (i + 2)).toInt64 <<< ((32 : Int32).toInt64 &&& 63) ||| ((xs (i + 3)).toInt64 &&& 4294967295)) v)) (v2 := (f_Mo_image (xs (i + 1)) ((xs (i + 2)).toInt64 <<< ((32 : Int32).toInt64 &&& 63) ||| ((xs (i + 3)).toInt64 &&& 4294967295)) v)) (As := []) (c_Mo_thrown l dC dI cI cZ ad2 (f_Mo_image (xs (i + 1)) ((xs (i + 2)).toInt64 <<< ((32 : Int32).toInt64 &&& 63) ||| ((xs (i + 3)).toInt64 &&& 4294967295)) v) H.size) (cwV 0 hts (goodV m_15_13 m_15_14 m_15_15 m_0_12 m_15_16) rfl rfl rfl (by decide +kernel) ⟨Nat.le_of_ble_eq_true rfl, Nat.le_of_ble_eq_true rfl⟩) rfl hl.1 d_law_159 (by omega) (by omega) (fun H locs V => ?_)
  refine lv_iload hx hb d_law_162 (lv_at hl 0 rfl) ?_
  refine lv_icmp_eq (tgt := 169) hx hb d_law_164 (by decide) (fun h1 => ?_) (fun h1 => absurd hq.1 h1)
  refine lv_goto (tgt := 687) hx hb d_law_169 (by decide) ?_
  exact kk _ _ _ _ _ _ hq.2 V (lv_sub hl [1, 2, 3, 4, 5] rfl)

set_option maxHeartbeats 1000000 in
set_option maxRecDepth 100000 in
theorem lc_input {p : Program} {l : Launch} {e : Env} {s : State} {m : MethodId} {below : List Frame} {meth : Method} {c : Code} {b L : Nat} {xs : Nat → Int32} {dC : Nat → ClassId} {dI : Nat → Nat → Nat} {cI cZ cJ : ClassId} {ad : Nat → Nat} {o : Nat} {ad2 : Nat → Nat} {Sim : S5 → S5 → Prop} (hsim : LSim Sim) (C : LC p l s m meth c b L xs dC dI cI cZ cJ) {Q : State → Prop} {i : Nat} (hi : i + 4 ≤ L) {u v : S5} {x : Nat → Int64} (hz : Sim u v) {H : Heap} {locs : List Loc} {cells slots : Nat} (V : LV s dC dI cI cZ cJ ad o ad2 u x v H locs) {ls : Array Slot} (hl : lv_has ls 7 [(0, .ref b), (1, .ref (ad 0)), (2, .ref (ad2 0)), (3, .ref o), (4, .int (nI i))]) (hr1 : cells + 1 ≤ 601024) (hr2 : slots + 6 ≤ 7293034)
    (kk : ∀ (u2 v2 : S5) (x2 : Nat → Int64) (H2 : Heap) (locs2 : List Loc) (ls2 : Array Slot), Sim u2 v2 → LV s dC dI cI cZ cJ ad o ad2 u2 x2 v2 H2 locs2 → lv_has ls2 7 [(0, .ref b), (1, .ref (ad 0)), (2, .ref (ad2 0)), (3, .ref o), (4, .int (nI i))] → W p l e room_1 s m #[Value.ref b] below meth c H2 locs2 (cells + 1) (slots + 6) Q (F0 m 687 ls2 [])) : W p l e room_1 s m #[Value.ref b] below meth c H locs cells slots Q (F0 m 172 ls []) := by
  obtain ⟨hx, hb, hr, hml, hown, hT, hX, hbl, hlocks, hgv⟩ := C.at0
  have hts := C.words
  refine lv_aload_n hx hb d_law_172 rfl (lv_at hl 1 rfl) ?_
  refine lscr (j := 1) (jv := 1) C V hl 0 4 (by omega) rfl rfl rfl d_law_173 d_law_174 d_law_176 d_law_177 d_law_178 ?_
  refine lv_i2l hx hb d_law_179 rfl ?_
  refine lv_bipush (v := 32) hx hb d_law_180 (by decide) ?_
  refine lv_lshl hx hb d_law_182 rfl ?_
  refine lscr (j := 2) (jv := 2) C V hl 0 4 (by omega) rfl rfl rfl d_law_183 d_law_184 d_law_186 d_law_187 d_law_188 ?_
  refine lv_i2l hx hb d_law_189 rfl ?_
  refine lv_ldc2 (v := 4294967295) hx hb hown (hts _ m_18_35) d_law_190 ?_
  refine lv_land hx hb d_law_193 ?_
  refine lv_lor hx hb d_law_194 ?_
  refine lscr (j := 3) (jv := 3) C V hl 0 4 (by omega) rfl rfl rfl d_law_195 d_law_196 d_law_198 d_law_199 d_law_200 ?_
  refine lv_aload_n hx hb d_law_201 rfl (lv_at hl 3 rfl) ?_
  refine lhcall C V (k := (gC_input ((xs (i + 1)).toInt64 <<< ((32 : Int32).toInt64 &&& 63) ||| ((xs (i + 2)).toInt64 &&& 4294967295)) (xs (i + 3)) u).1) (u2 := (gC_input ((xs (i + 1)).toInt64 <<< ((32 : Int32).toInt64 &&& 63) ||| ((xs (i + 2)).toInt64 &&& 4294967295)) (xs (i + 3)) u).2.2) (As := [.ref (ad 0), .long ((xs (i + 1)).toInt64 <<< ((32 : Int32).toInt64 &&& 63) ||| ((xs (i + 2)).toInt64 &&& 4294967295)), .int (xs (i + 3)), .ref o]) (maxL := 6) (bytes := b_La_input) (hh := [(0, 11, 14, 13), (0, 11, 18, 19)]) (h_input l C.fl dC dI cI cJ ad o u x ((xs (i + 1)).toInt64 <<< ((32 : Int32).toInt64 &&& 63) ||| ((xs (i + 2)).toInt64 &&& 4294967295)) (xs (i + 3)) (hsim.okp u v hz).2.1 H.size) rfl rfl (hts _ m_5_37) (hts _ m_5_38) (hts _ m_0_0) (hT _ (List.mem_append_right _ (List.contains_iff_mem.mp (by decide +kernel)))) (by decide) (by decide) (fun sig h => by cases h; rfl) rfl hl.1 d_law_202 hr1 hr2 (fun H locs V => ?_)
  refine lv_istore hx hb d_law_205 hl (by decide) rfl (fun ls hl => ?_)
  have hl : lv_has ls 7 [(5, .int (gC_input ((xs (i + 1)).toInt64 <<< ((32 : Int32).toInt64 &&& 63) ||| ((xs (i + 2)).toInt64 &&& 4294967295)) (xs (i + 3)) u).1), (0, .ref b), (1, .ref (ad 0)), (2, .ref (ad2 0)), (3, .ref o), (4, .int (nI i))] := hl
  refine lv_aload_n hx hb d_law_207 rfl (lv_at hl 3 rfl) ?_
  refine lscr (j := 1) (jv := 1) C V hl 1 5 (by omega) rfl rfl rfl d_law_208 d_law_209 d_law_211 d_law_212 d_law_213 ?_
  refine lv_i2l hx hb d_law_214 rfl ?_
  refine lv_bipush (v := 32) hx hb d_law_215 (by decide) ?_
  refine lv_lshl hx hb d_law_217 rfl ?_
  refine lscr (j := 2) (jv := 2) C V hl 1 5 (by omega) rfl rfl rfl d_law_218 d_law_219 d_law_221 d_law_222 d_law_223 ?_
  refine lv_i2l hx hb d_law_224 rfl ?_
  refine lv_ldc2 (v := 4294967295) hx hb hown (hts _ m_18_35) d_law_225 ?_
  refine lv_land hx hb d_law_228 ?_
  refine lv_lor hx hb d_law_229 ?_
  refine lscr (j := 3) (jv := 3) C V hl 1 5 (by omega) rfl rfl rfl d_law_230 d_law_231 d_law_233 d_law_234 d_law_235 ?_
  refine lmcall_i C V (r := nI (f_Mo_input ((xs (i + 1)).toInt64 <<< ((32 : Int32).toInt64 &&& 63) ||| ((xs (i + 2)).toInt64 &&& 4294967295)) (xs (i + 3)) v).1) (v2 := (f_Mo_input ((xs (i + 1)).toInt64 <<< ((32 : Int32).toInt64 &&& 63) ||| ((xs (i + 2)).toInt64 &&& 4294967295)) (xs (i + 3)) v).2) (As := [.long ((xs (i + 1)).toInt64 <<< ((32 : Int32).toInt64 &&& 63) ||| ((xs (i + 2)).toInt64 &&& 4294967295)), .int (xs (i + 3))]) (c_Mo_input l dC dI cI cZ ad2 v ((xs (i + 1)).toInt64 <<< ((32 : Int32).toInt64 &&& 63) ||| ((xs (i + 2)).toInt64 &&& 4294967295)) (xs (i + 3)) (hsim.oke u v hz).2.2.2.1 H.size) (cwV 2 hts (goodV m_15_24 m_15_25 m_15_26 m_0_12 m_15_27) rfl rfl rfl (by decide +kernel) ⟨Nat.le_of_ble_eq_true rfl, Nat.le_of_ble_eq_true rfl⟩) rfl hl.1 d_law_236 (by omega) (by omega) (fun H locs V => ?_)
  refine lv_istore hx hb d_law_239 hl (by decide) rfl (fun ls hl => ?_)
  have hl : lv_has ls 7 [(6, .int (nI (f_Mo_input ((xs (i + 1)).toInt64 <<< ((32 : Int32).toInt64 &&& 63) ||| ((xs (i + 2)).toInt64 &&& 4294967295)) (xs (i + 3)) v).1)), (5, .int (gC_input ((xs (i + 1)).toInt64 <<< ((32 : Int32).toInt64 &&& 63) ||| ((xs (i + 2)).toInt64 &&& 4294967295)) (xs (i + 3)) u).1), (0, .ref b), (1, .ref (ad 0)), (2, .ref (ad2 0)), (3, .ref o), (4, .int (nI i))] := hl
  have hq := hsim.input u v ((xs (i + 1)).toInt64 <<< ((32 : Int32).toInt64 &&& 63) ||| ((xs (i + 2)).toInt64 &&& 4294967295)) (xs (i + 3)) hz
  refine lv_aload_n hx hb d_law_241 rfl (lv_at hl 4 rfl) ?_
  refine lmcall_i C V (r := f_Mo_thrown (f_Mo_input ((xs (i + 1)).toInt64 <<< ((32 : Int32).toInt64 &&& 63) ||| ((xs (i + 2)).toInt64 &&& 4294967295)) (xs (i + 3)) v).2) (v2 := (f_Mo_input ((xs (i + 1)).toInt64 <<< ((32 : Int32).toInt64 &&& 63) ||| ((xs (i + 2)).toInt64 &&& 4294967295)) (xs (i + 3)) v).2) (As := []) (c_Mo_thrown l dC dI cI cZ ad2 (f_Mo_input ((xs (i + 1)).toInt64 <<< ((32 : Int32).toInt64 &&& 63) ||| ((xs (i + 2)).toInt64 &&& 4294967295)) (xs (i + 3)) v).2 H.size) (cwV 0 hts (goodV m_15_13 m_15_14 m_15_15 m_0_12 m_15_16) rfl rfl rfl (by decide +kernel) ⟨Nat.le_of_ble_eq_true rfl, Nat.le_of_ble_eq_true rfl⟩) rfl hl.1 d_law_242 (by omega) (by omega) (fun H locs V => ?_)
  refine lv_iload hx hb d_law_245 (lv_at hl 1 rfl) ?_
  refine lv_icmp_eq (tgt := 252) hx hb d_law_247 (by decide) (fun h1 => ?_) (fun h1 => absurd hq.1 h1)
  refine lv_iload hx hb d_law_252 (lv_at hl 1 rfl) ?_
  refine lv_if_ne (tgt := 269) hx hb d_law_254 (by decide) (fun h2 => ?_) (fun h2 => ?_)
  · refine lv_goto (tgt := 687) hx hb d_law_269 (by decide) ?_
    exact kk _ _ _ _ _ _ hq.2.2 V (lv_sub hl [2, 3, 4, 5, 6] rfl)
  · have h0 : (gC_input ((xs (i + 1)).toInt64 <<< ((32 : Int32).toInt64 &&& 63) ||| ((xs (i + 2)).toInt64 &&& 4294967295)) (xs (i + 3)) u).1 = 0 := h2
    refine lv_aload_n hx hb d_law_257 rfl (lv_at hl 5 rfl) ?_
    refine lv_iconst (v := 0) hx hb d_law_258 (by decide) ?_
    refine va_lald hx hb C.K V.P 22 2 rfl rfl (vp_in_nI (n := 0) (by decide) (by decide)) d_law_259 ?_
    refine lv_iload hx hb d_law_260 (lv_at hl 0 rfl) ?_
    refine lv_i2l hx hb d_law_262 rfl ?_
    refine W.lcmp hx hb d_law_263 ?_
    have h3 : (xo (gC_input ((xs (i + 1)).toInt64 <<< ((32 : Int32).toInt64 &&& 63) ||| ((xs (i + 2)).toInt64 &&& 4294967295)) (xs (i + 3)) u).1 (gC_input ((xs (i + 1)).toInt64 <<< ((32 : Int32).toInt64 &&& 63) ||| ((xs (i + 2)).toInt64 &&& 4294967295)) (xs (i + 3)) u).2.1 x) 0 = (nI (f_Mo_input ((xs (i + 1)).toInt64 <<< ((32 : Int32).toInt64 &&& 63) ||| ((xs (i + 2)).toInt64 &&& 4294967295)) (xs (i + 3)) v).1).toInt64 := by rw [h0, xo_at, hq.2.1 h0]
    refine lv_if_eq (tgt := 269) hx hb d_law_264 (by decide) (fun h4 => ?_) (fun h4 => absurd ((lgz _ _).mpr h3) h4)
    refine lv_goto (tgt := 687) hx hb d_law_269 (by decide) ?_
    exact kk _ _ _ _ _ _ hq.2.2 V (lv_sub hl [2, 3, 4, 5, 6] rfl)

set_option maxHeartbeats 1000000 in
set_option maxRecDepth 100000 in
theorem lc_begin {p : Program} {l : Launch} {e : Env} {s : State} {m : MethodId} {below : List Frame} {meth : Method} {c : Code} {b L : Nat} {xs : Nat → Int32} {dC : Nat → ClassId} {dI : Nat → Nat → Nat} {cI cZ cJ : ClassId} {ad : Nat → Nat} {o : Nat} {ad2 : Nat → Nat} {Sim : S5 → S5 → Prop} (hsim : LSim Sim) (C : LC p l s m meth c b L xs dC dI cI cZ cJ) {Q : State → Prop} {i : Nat} (hi : i + 4 ≤ L) {u v : S5} {x : Nat → Int64} (hz : Sim u v) {H : Heap} {locs : List Loc} {cells slots : Nat} (V : LV s dC dI cI cZ cJ ad o ad2 u x v H locs) {ls : Array Slot} (hl : lv_has ls 7 [(0, .ref b), (1, .ref (ad 0)), (2, .ref (ad2 0)), (3, .ref o), (4, .int (nI i))]) (hr1 : cells + 1 ≤ 601024) (hr2 : slots + 6 ≤ 7293034)
    (kk : ∀ (u2 v2 : S5) (x2 : Nat → Int64) (H2 : Heap) (locs2 : List Loc) (ls2 : Array Slot), Sim u2 v2 → LV s dC dI cI cZ cJ ad o ad2 u2 x2 v2 H2 locs2 → lv_has ls2 7 [(0, .ref b), (1, .ref (ad 0)), (2, .ref (ad2 0)), (3, .ref o), (4, .int (nI i))] → W p l e room_1 s m #[Value.ref b] below meth c H2 locs2 (cells + 1) (slots + 6) Q (F0 m 687 ls2 [])) : W p l e room_1 s m #[Value.ref b] below meth c H locs cells slots Q (F0 m 272 ls []) := by
  obtain ⟨hx, hb, hr, hml, hown, hT, hX, hbl, hlocks, hgv⟩ := C.at0
  have hts := C.words
  refine lv_aload_n hx hb d_law_272 rfl (lv_at hl 1 rfl) ?_
  refine lccall C V (v2 := f_SH_begin u) (As := []) (c_SH_begin l dC dI cI ad u H.size) (cwV 0 hts (goodV m_5_0 m_5_1 m_5_2 m_0_1 m_5_3) rfl rfl rfl (by decide +kernel) ⟨Nat.le_of_ble_eq_true rfl, Nat.le_of_ble_eq_true rfl⟩) rfl hl.1 d_law_273 (by omega) (by omega) (fun H locs V => ?_)
  refine lv_aload_n hx hb d_law_276 rfl (lv_at hl 2 rfl) ?_
  refine lmcall_v C V (v2 := f_Mo_begin v) (As := []) (c_Mo_begin l dC dI cI cZ ad2 v H.size) (cwV 0 hts (goodV m_15_28 m_13_26 m_13_27 m_0_12 m_13_28) rfl rfl rfl (by decide +kernel) ⟨Nat.le_of_ble_eq_true rfl, Nat.le_of_ble_eq_true rfl⟩) rfl hl.1 d_law_277 (by omega) (by omega) (fun H locs V => ?_)
  refine lv_goto (tgt := 687) hx hb d_law_280 (by decide) ?_
  refine W.widen (k := cells + 1) (n := slots + 6) (by omega) (by omega) ?_
  exact kk _ _ _ _ _ _ (hsim.begin u v hz) V hl

set_option maxHeartbeats 1000000 in
set_option maxRecDepth 100000 in
theorem lc_run {p : Program} {l : Launch} {e : Env} {s : State} {m : MethodId} {below : List Frame} {meth : Method} {c : Code} {b L : Nat} {xs : Nat → Int32} {dC : Nat → ClassId} {dI : Nat → Nat → Nat} {cI cZ cJ : ClassId} {ad : Nat → Nat} {o : Nat} {ad2 : Nat → Nat} {Sim : S5 → S5 → Prop} (hsim : LSim Sim) (C : LC p l s m meth c b L xs dC dI cI cZ cJ) {Q : State → Prop} {i : Nat} (hi : i + 4 ≤ L) {u v : S5} {x : Nat → Int64} (hz : Sim u v) {H : Heap} {locs : List Loc} {cells slots : Nat} (V : LV s dC dI cI cZ cJ ad o ad2 u x v H locs) {ls : Array Slot} (hl : lv_has ls 7 [(0, .ref b), (1, .ref (ad 0)), (2, .ref (ad2 0)), (3, .ref o), (4, .int (nI i))]) (hr1 : cells + 1 ≤ 601024) (hr2 : slots + 6 ≤ 7293034)
    (kk : ∀ (u2 v2 : S5) (x2 : Nat → Int64) (H2 : Heap) (locs2 : List Loc) (ls2 : Array Slot), Sim u2 v2 → LV s dC dI cI cZ cJ ad o ad2 u2 x2 v2 H2 locs2 → lv_has ls2 7 [(0, .ref b), (1, .ref (ad 0)), (2, .ref (ad2 0)), (3, .ref o), (4, .int (nI i))] → W p l e room_1 s m #[Value.ref b] below meth c H2 locs2 (cells + 1) (slots + 6) Q (F0 m 687 ls2 [])) : W p l e room_1 s m #[Value.ref b] below meth c H locs cells slots Q (F0 m 283 ls []) := by
  obtain ⟨hx, hb, hr, hml, hown, hT, hX, hbl, hlocks, hgv⟩ := C.at0
  have hts := C.words
  refine lv_aload_n hx hb d_law_283 rfl (lv_at hl 1 rfl) ?_
  refine lscr (j := 1) (jv := 1) C V hl 0 4 (by omega) rfl rfl rfl d_law_284 d_law_285 d_law_287 d_law_288 d_law_289 ?_
  refine lv_aload_n hx hb d_law_290 rfl (lv_at hl 3 rfl) ?_
  refine lhcall C V (k := (gC_run (xs (i + 1)) u).1) (u2 := (gC_run (xs (i + 1)) u).2.2) (As := [.ref (ad 0), .int (xs (i + 1)), .ref o]) (maxL := 4) (bytes := b_La_run) (hh := [(0, 9, 12, 13)]) (h_run l C.fl dC dI cI cJ ad o u x (xs (i + 1)) (fun u9 => ∃ v9, Sim u9 v9) ⟨v, hz⟩ (fun u9 h9 => by obtain ⟨v9, h9⟩ := h9; exact hsim.okr u9 v9 h9) (fun u9 h9 h1 h2 => by obtain ⟨v9, h9⟩ := h9; exact hsim.go1 u9 v9 h9 h1 h2) (fun u9 h9 h1 h2 => by obtain ⟨v9, h9⟩ := h9; exact hsim.go2 u9 v9 h9 h1 h2) H.size) rfl rfl (hts _ m_6_7) (hts _ m_6_8) (hts _ m_0_0) (hT _ (List.mem_append_right _ (List.contains_iff_mem.mp (by decide +kernel)))) (by decide) (by decide) (fun sig h => by cases h; rfl) rfl hl.1 d_law_291 hr1 hr2 (fun H locs V => ?_)
  refine lv_istore hx hb d_law_294 hl (by decide) rfl (fun ls hl => ?_)
  have hl : lv_has ls 7 [(5, .int (gC_run (xs (i + 1)) u).1), (0, .ref b), (1, .ref (ad 0)), (2, .ref (ad2 0)), (3, .ref o), (4, .int (nI i))] := hl
  refine lv_aload_n hx hb d_law_296 rfl (lv_at hl 3 rfl) ?_
  refine lscr (j := 1) (jv := 1) C V hl 1 5 (by omega) rfl rfl rfl d_law_297 d_law_298 d_law_300 d_law_301 d_law_302 ?_
  refine lmcall_i C V (r := (f_Mo_run (xs (i + 1)) v).1) (v2 := (f_Mo_run (xs (i + 1)) v).2) (As := [.int (xs (i + 1))]) (c_Mo_run l dC dI cI cZ ad2 v (xs (i + 1)) (fun v9 => ∃ u9, Sim u9 v9) ⟨u, hsim.err u v 0 hz⟩ (fun v9 h9 => by obtain ⟨u9, h9⟩ := h9; exact hsim.oke u9 v9 h9) (fun v9 h9 h1 => by obtain ⟨u9, h9⟩ := h9; exact hsim.go3 u9 v9 h9 h1) H.size) (cwV 1 hts (goodV m_15_29 m_15_30 m_15_31 m_0_12 m_15_32) rfl rfl rfl (by decide +kernel) ⟨Nat.le_of_ble_eq_true rfl, Nat.le_of_ble_eq_true rfl⟩) rfl hl.1 d_law_303 (by omega) (by omega) (fun H locs V => ?_)
  refine lv_istore hx hb d_law_306 hl (by decide) rfl (fun ls hl => ?_)
  have hl : lv_has ls 7 [(6, .int ((f_Mo_run (xs (i + 1)) v).1)), (5, .int (gC_run (xs (i + 1)) u).1), (0, .ref b), (1, .ref (ad 0)), (2, .ref (ad2 0)), (3, .ref o), (4, .int (nI i))] := hl
  have hq := hsim.run u v (xs (i + 1)) hz
  refine lv_aload_n hx hb d_law_308 rfl (lv_at hl 4 rfl) ?_
  refine lmcall_i C V (r := f_Mo_thrown (f_Mo_run (xs (i + 1)) v).2) (v2 := (f_Mo_run (xs (i + 1)) v).2) (As := []) (c_Mo_thrown l dC dI cI cZ ad2 (f_Mo_run (xs (i + 1)) v).2 H.size) (cwV 0 hts (goodV m_15_13 m_15_14 m_15_15 m_0_12 m_15_16) rfl rfl rfl (by decide +kernel) ⟨Nat.le_of_ble_eq_true rfl, Nat.le_of_ble_eq_true rfl⟩) rfl hl.1 d_law_309 (by omega) (by omega) (fun H locs V => ?_)
  refine lv_iload hx hb d_law_312 (lv_at hl 1 rfl) ?_
  refine lv_icmp_eq (tgt := 319) hx hb d_law_314 (by decide) (fun h1 => ?_) (fun h1 => absurd hq.1 h1)
  refine lv_iload hx hb d_law_319 (lv_at hl 1 rfl) ?_
  refine lv_if_ne (tgt := 336) hx hb d_law_321 (by decide) (fun h2 => ?_) (fun h2 => ?_)
  · refine lv_goto (tgt := 687) hx hb d_law_336 (by decide) ?_
    exact kk _ _ _ _ _ _ hq.2.2 V (lv_sub hl [2, 3, 4, 5, 6] rfl)
  · have h0 : (gC_run (xs (i + 1)) u).1 = 0 := h2
    refine lv_aload_n hx hb d_law_324 rfl (lv_at hl 5 rfl) ?_
    refine lv_iconst (v := 0) hx hb d_law_325 (by decide) ?_
    refine va_lald hx hb C.K V.P 22 2 rfl rfl (vp_in_nI (n := 0) (by decide) (by decide)) d_law_326 ?_
    refine lv_iload hx hb d_law_327 (lv_at hl 0 rfl) ?_
    refine lv_i2l hx hb d_law_329 rfl ?_
    refine W.lcmp hx hb d_law_330 ?_
    have h3 : (xo (gC_run (xs (i + 1)) u).1 (gC_run (xs (i + 1)) u).2.1 x) 0 = ((f_Mo_run (xs (i + 1)) v).1).toInt64 := by rw [h0, xo_at, hq.2.1 h0]
    refine lv_if_eq (tgt := 336) hx hb d_law_331 (by decide) (fun h4 => ?_) (fun h4 => absurd ((lgz _ _).mpr h3) h4)
    refine lv_goto (tgt := 687) hx hb d_law_336 (by decide) ?_
    exact kk _ _ _ _ _ _ hq.2.2 V (lv_sub hl [2, 3, 4, 5, 6] rfl)

set_option maxHeartbeats 1000000 in
set_option maxRecDepth 100000 in
theorem lc_register {p : Program} {l : Launch} {e : Env} {s : State} {m : MethodId} {below : List Frame} {meth : Method} {c : Code} {b L : Nat} {xs : Nat → Int32} {dC : Nat → ClassId} {dI : Nat → Nat → Nat} {cI cZ cJ : ClassId} {ad : Nat → Nat} {o : Nat} {ad2 : Nat → Nat} {Sim : S5 → S5 → Prop} (hsim : LSim Sim) (C : LC p l s m meth c b L xs dC dI cI cZ cJ) {Q : State → Prop} {i : Nat} (hi : i + 4 ≤ L) {u v : S5} {x : Nat → Int64} (hz : Sim u v) {H : Heap} {locs : List Loc} {cells slots : Nat} (V : LV s dC dI cI cZ cJ ad o ad2 u x v H locs) {ls : Array Slot} (hl : lv_has ls 7 [(0, .ref b), (1, .ref (ad 0)), (2, .ref (ad2 0)), (3, .ref o), (4, .int (nI i))]) (hr1 : cells + 1 ≤ 601024) (hr2 : slots + 6 ≤ 7293034)
    (kk : ∀ (u2 v2 : S5) (x2 : Nat → Int64) (H2 : Heap) (locs2 : List Loc) (ls2 : Array Slot), Sim u2 v2 → LV s dC dI cI cZ cJ ad o ad2 u2 x2 v2 H2 locs2 → lv_has ls2 7 [(0, .ref b), (1, .ref (ad 0)), (2, .ref (ad2 0)), (3, .ref o), (4, .int (nI i))] → W p l e room_1 s m #[Value.ref b] below meth c H2 locs2 (cells + 1) (slots + 6) Q (F0 m 687 ls2 [])) : W p l e room_1 s m #[Value.ref b] below meth c H locs cells slots Q (F0 m 339 ls []) := by
  obtain ⟨hx, hb, hr, hml, hown, hT, hX, hbl, hlocks, hgv⟩ := C.at0
  have hts := C.words
  refine lv_aload_n hx hb d_law_339 rfl (lv_at hl 1 rfl) ?_
  refine lscr (j := 1) (jv := 1) C V hl 0 4 (by omega) rfl rfl rfl d_law_340 d_law_341 d_law_343 d_law_344 d_law_345 ?_
  refine lv_aload_n hx hb d_law_346 rfl (lv_at hl 3 rfl) ?_
  refine lhcall C V (k := (gC_register (xs (i + 1)) u).1) (u2 := (gC_register (xs (i + 1)) u).2.2) (As := [.ref (ad 0), .int (xs (i + 1)), .ref o]) (maxL := 4) (bytes := b_La_register) (hh := [(0, 9, 12, 19)]) (h_register l C.fl dC dI cI cJ ad o u x (xs (i + 1))  H.size) rfl rfl (hts _ m_12_20) (hts _ m_12_21) (hts _ m_0_0) (hT _ (List.mem_append_right _ (List.contains_iff_mem.mp (by decide +kernel)))) (by decide) (by decide) (fun sig h => by cases h; rfl) rfl hl.1 d_law_347 hr1 hr2 (fun H locs V => ?_)
  refine lv_istore hx hb d_law_350 hl (by decide) rfl (fun ls hl => ?_)
  have hl : lv_has ls 7 [(5, .int (gC_register (xs (i + 1)) u).1), (0, .ref b), (1, .ref (ad 0)), (2, .ref (ad2 0)), (3, .ref o), (4, .int (nI i))] := hl
  refine lv_aload_n hx hb d_law_352 rfl (lv_at hl 3 rfl) ?_
  refine lscr (j := 1) (jv := 1) C V hl 1 5 (by omega) rfl rfl rfl d_law_353 d_law_354 d_law_356 d_law_357 d_law_358 ?_
  refine lmcall_i C V (r := (f_Mo_register (xs (i + 1)) v).1) (v2 := (f_Mo_register (xs (i + 1)) v).2) (As := [.int (xs (i + 1))]) (c_Mo_register l dC dI cI cZ ad2 v (xs (i + 1))  H.size) (cwV 1 hts (goodV m_18_11 m_18_12 m_18_13 m_0_12 m_18_14) rfl rfl rfl (by decide +kernel) ⟨Nat.le_of_ble_eq_true rfl, Nat.le_of_ble_eq_true rfl⟩) rfl hl.1 d_law_359 (by omega) (by omega) (fun H locs V => ?_)
  refine lv_istore hx hb d_law_362 hl (by decide) rfl (fun ls hl => ?_)
  have hl : lv_has ls 7 [(6, .int ((f_Mo_register (xs (i + 1)) v).1)), (5, .int (gC_register (xs (i + 1)) u).1), (0, .ref b), (1, .ref (ad 0)), (2, .ref (ad2 0)), (3, .ref o), (4, .int (nI i))] := hl
  have hq := hsim.register u v (xs (i + 1)) hz
  refine lv_aload_n hx hb d_law_364 rfl (lv_at hl 4 rfl) ?_
  refine lmcall_i C V (r := f_Mo_thrown (f_Mo_register (xs (i + 1)) v).2) (v2 := (f_Mo_register (xs (i + 1)) v).2) (As := []) (c_Mo_thrown l dC dI cI cZ ad2 (f_Mo_register (xs (i + 1)) v).2 H.size) (cwV 0 hts (goodV m_15_13 m_15_14 m_15_15 m_0_12 m_15_16) rfl rfl rfl (by decide +kernel) ⟨Nat.le_of_ble_eq_true rfl, Nat.le_of_ble_eq_true rfl⟩) rfl hl.1 d_law_365 (by omega) (by omega) (fun H locs V => ?_)
  refine lv_iload hx hb d_law_368 (lv_at hl 1 rfl) ?_
  refine lv_icmp_eq (tgt := 375) hx hb d_law_370 (by decide) (fun h1 => ?_) (fun h1 => absurd hq.1 h1)
  refine lv_iload hx hb d_law_375 (lv_at hl 1 rfl) ?_
  refine lv_if_ne (tgt := 392) hx hb d_law_377 (by decide) (fun h2 => ?_) (fun h2 => ?_)
  · refine lv_goto (tgt := 687) hx hb d_law_392 (by decide) ?_
    exact kk _ _ _ _ _ _ hq.2.2 V (lv_sub hl [2, 3, 4, 5, 6] rfl)
  · have h0 : (gC_register (xs (i + 1)) u).1 = 0 := h2
    refine lv_aload_n hx hb d_law_380 rfl (lv_at hl 5 rfl) ?_
    refine lv_iconst (v := 0) hx hb d_law_381 (by decide) ?_
    refine va_lald hx hb C.K V.P 22 2 rfl rfl (vp_in_nI (n := 0) (by decide) (by decide)) d_law_382 ?_
    refine lv_iload hx hb d_law_383 (lv_at hl 0 rfl) ?_
    refine lv_i2l hx hb d_law_385 rfl ?_
    refine W.lcmp hx hb d_law_386 ?_
    have h3 : (xo (gC_register (xs (i + 1)) u).1 (gC_register (xs (i + 1)) u).2.1 x) 0 = ((f_Mo_register (xs (i + 1)) v).1).toInt64 := by rw [h0, xo_at, hq.2.1 h0]
    refine lv_if_eq (tgt := 392) hx hb d_law_387 (by decide) (fun h4 => ?_) (fun h4 => absurd ((lgz _ _).mpr h3) h4)
    refine lv_goto (tgt := 687) hx hb d_law_392 (by decide) ?_
    exact kk _ _ _ _ _ _ hq.2.2 V (lv_sub hl [2, 3, 4, 5, 6] rfl)

set_option maxHeartbeats 1000000 in
set_option maxRecDepth 100000 in
theorem lc_unknown {p : Program} {l : Launch} {e : Env} {s : State} {m : MethodId} {below : List Frame} {meth : Method} {c : Code} {b L : Nat} {xs : Nat → Int32} {dC : Nat → ClassId} {dI : Nat → Nat → Nat} {cI cZ cJ : ClassId} {ad : Nat → Nat} {o : Nat} {ad2 : Nat → Nat} {Sim : S5 → S5 → Prop} (hsim : LSim Sim) (C : LC p l s m meth c b L xs dC dI cI cZ cJ) {Q : State → Prop} {i : Nat} (hi : i + 4 ≤ L) {u v : S5} {x : Nat → Int64} (hz : Sim u v) {H : Heap} {locs : List Loc} {cells slots : Nat} (V : LV s dC dI cI cZ cJ ad o ad2 u x v H locs) {ls : Array Slot} (hl : lv_has ls 7 [(0, .ref b), (1, .ref (ad 0)), (2, .ref (ad2 0)), (3, .ref o), (4, .int (nI i))]) (hr1 : cells + 1 ≤ 601024) (hr2 : slots + 6 ≤ 7293034)
    (kk : ∀ (u2 v2 : S5) (x2 : Nat → Int64) (H2 : Heap) (locs2 : List Loc) (ls2 : Array Slot), Sim u2 v2 → LV s dC dI cI cZ cJ ad o ad2 u2 x2 v2 H2 locs2 → lv_has ls2 7 [(0, .ref b), (1, .ref (ad 0)), (2, .ref (ad2 0)), (3, .ref o), (4, .int (nI i))] → W p l e room_1 s m #[Value.ref b] below meth c H2 locs2 (cells + 1) (slots + 6) Q (F0 m 687 ls2 [])) : W p l e room_1 s m #[Value.ref b] below meth c H locs cells slots Q (F0 m 395 ls []) := by
  obtain ⟨hx, hb, hr, hml, hown, hT, hX, hbl, hlocks, hgv⟩ := C.at0
  have hts := C.words
  refine lv_aload_n hx hb d_law_395 rfl (lv_at hl 1 rfl) ?_
  refine lscr (j := 1) (jv := 1) C V hl 0 4 (by omega) rfl rfl rfl d_law_396 d_law_397 d_law_399 d_law_400 d_law_401 ?_
  refine lv_aload_n hx hb d_law_402 rfl (lv_at hl 3 rfl) ?_
  refine lhcall C V (k := (gC_unknown (xs (i + 1)) u).1) (u2 := (gC_unknown (xs (i + 1)) u).2.2) (As := [.ref (ad 0), .int (xs (i + 1)), .ref o]) (maxL := 4) (bytes := b_La_unknown) (hh := [(0, 9, 12, 19)]) (h_unknown l C.fl dC dI cI cJ ad o u x (xs (i + 1))  H.size) rfl rfl (hts _ m_12_26) (hts _ m_12_27) (hts _ m_0_0) (hT _ (List.mem_append_right _ (List.contains_iff_mem.mp (by decide +kernel)))) (by decide) (by decide) (fun sig h => by cases h; rfl) rfl hl.1 d_law_403 hr1 hr2 (fun H locs V => ?_)
  refine lv_istore hx hb d_law_406 hl (by decide) rfl (fun ls hl => ?_)
  have hl : lv_has ls 7 [(5, .int (gC_unknown (xs (i + 1)) u).1), (0, .ref b), (1, .ref (ad 0)), (2, .ref (ad2 0)), (3, .ref o), (4, .int (nI i))] := hl
  refine lv_aload_n hx hb d_law_408 rfl (lv_at hl 3 rfl) ?_
  refine lscr (j := 1) (jv := 1) C V hl 1 5 (by omega) rfl rfl rfl d_law_409 d_law_410 d_law_412 d_law_413 d_law_414 ?_
  refine lmcall_i C V (r := (f_Mo_unknown (xs (i + 1)) v).1) (v2 := (f_Mo_unknown (xs (i + 1)) v).2) (As := [.int (xs (i + 1))]) (c_Mo_unknown l dC dI cI cZ ad2 v (xs (i + 1))  H.size) (cwV 1 hts (goodV m_18_15 m_18_16 m_18_17 m_0_12 m_18_18) rfl rfl rfl (by decide +kernel) ⟨Nat.le_of_ble_eq_true rfl, Nat.le_of_ble_eq_true rfl⟩) rfl hl.1 d_law_415 (by omega) (by omega) (fun H locs V => ?_)
  refine lv_istore hx hb d_law_418 hl (by decide) rfl (fun ls hl => ?_)
  have hl : lv_has ls 7 [(6, .int ((f_Mo_unknown (xs (i + 1)) v).1)), (5, .int (gC_unknown (xs (i + 1)) u).1), (0, .ref b), (1, .ref (ad 0)), (2, .ref (ad2 0)), (3, .ref o), (4, .int (nI i))] := hl
  have hq := hsim.unknown u v (xs (i + 1)) hz
  refine lv_aload_n hx hb d_law_420 rfl (lv_at hl 4 rfl) ?_
  refine lmcall_i C V (r := f_Mo_thrown (f_Mo_unknown (xs (i + 1)) v).2) (v2 := (f_Mo_unknown (xs (i + 1)) v).2) (As := []) (c_Mo_thrown l dC dI cI cZ ad2 (f_Mo_unknown (xs (i + 1)) v).2 H.size) (cwV 0 hts (goodV m_15_13 m_15_14 m_15_15 m_0_12 m_15_16) rfl rfl rfl (by decide +kernel) ⟨Nat.le_of_ble_eq_true rfl, Nat.le_of_ble_eq_true rfl⟩) rfl hl.1 d_law_421 (by omega) (by omega) (fun H locs V => ?_)
  refine lv_iload hx hb d_law_424 (lv_at hl 1 rfl) ?_
  refine lv_icmp_eq (tgt := 431) hx hb d_law_426 (by decide) (fun h1 => ?_) (fun h1 => absurd hq.1 h1)
  refine lv_iload hx hb d_law_431 (lv_at hl 1 rfl) ?_
  refine lv_if_ne (tgt := 448) hx hb d_law_433 (by decide) (fun h2 => ?_) (fun h2 => ?_)
  · refine lv_goto (tgt := 687) hx hb d_law_448 (by decide) ?_
    exact kk _ _ _ _ _ _ hq.2.2 V (lv_sub hl [2, 3, 4, 5, 6] rfl)
  · have h0 : (gC_unknown (xs (i + 1)) u).1 = 0 := h2
    refine lv_aload_n hx hb d_law_436 rfl (lv_at hl 5 rfl) ?_
    refine lv_iconst (v := 0) hx hb d_law_437 (by decide) ?_
    refine va_lald hx hb C.K V.P 22 2 rfl rfl (vp_in_nI (n := 0) (by decide) (by decide)) d_law_438 ?_
    refine lv_iload hx hb d_law_439 (lv_at hl 0 rfl) ?_
    refine lv_i2l hx hb d_law_441 rfl ?_
    refine W.lcmp hx hb d_law_442 ?_
    have h3 : (xo (gC_unknown (xs (i + 1)) u).1 (gC_unknown (xs (i + 1)) u).2.1 x) 0 = ((f_Mo_unknown (xs (i + 1)) v).1).toInt64 := by rw [h0, xo_at, hq.2.1 h0]
    refine lv_if_eq (tgt := 448) hx hb d_law_443 (by decide) (fun h4 => ?_) (fun h4 => absurd ((lgz _ _).mpr h3) h4)
    refine lv_goto (tgt := 687) hx hb d_law_448 (by decide) ?_
    exact kk _ _ _ _ _ _ hq.2.2 V (lv_sub hl [2, 3, 4, 5, 6] rfl)

set_option maxHeartbeats 1000000 in
set_option maxRecDepth 100000 in
theorem lc_memory {p : Program} {l : Launch} {e : Env} {s : State} {m : MethodId} {below : List Frame} {meth : Method} {c : Code} {b L : Nat} {xs : Nat → Int32} {dC : Nat → ClassId} {dI : Nat → Nat → Nat} {cI cZ cJ : ClassId} {ad : Nat → Nat} {o : Nat} {ad2 : Nat → Nat} {Sim : S5 → S5 → Prop} (hsim : LSim Sim) (C : LC p l s m meth c b L xs dC dI cI cZ cJ) {Q : State → Prop} {i : Nat} (hi : i + 4 ≤ L) {u v : S5} {x : Nat → Int64} (hz : Sim u v) {H : Heap} {locs : List Loc} {cells slots : Nat} (V : LV s dC dI cI cZ cJ ad o ad2 u x v H locs) {ls : Array Slot} (hl : lv_has ls 7 [(0, .ref b), (1, .ref (ad 0)), (2, .ref (ad2 0)), (3, .ref o), (4, .int (nI i))]) (hr1 : cells + 1 ≤ 601024) (hr2 : slots + 6 ≤ 7293034)
    (kk : ∀ (u2 v2 : S5) (x2 : Nat → Int64) (H2 : Heap) (locs2 : List Loc) (ls2 : Array Slot), Sim u2 v2 → LV s dC dI cI cZ cJ ad o ad2 u2 x2 v2 H2 locs2 → lv_has ls2 7 [(0, .ref b), (1, .ref (ad 0)), (2, .ref (ad2 0)), (3, .ref o), (4, .int (nI i))] → W p l e room_1 s m #[Value.ref b] below meth c H2 locs2 (cells + 1) (slots + 6) Q (F0 m 687 ls2 [])) : W p l e room_1 s m #[Value.ref b] below meth c H locs cells slots Q (F0 m 451 ls []) := by
  obtain ⟨hx, hb, hr, hml, hown, hT, hX, hbl, hlocks, hgv⟩ := C.at0
  have hts := C.words
  refine lv_aload_n hx hb d_law_451 rfl (lv_at hl 1 rfl) ?_
  refine lscr (j := 1) (jv := 1) C V hl 0 4 (by omega) rfl rfl rfl d_law_452 d_law_453 d_law_455 d_law_456 d_law_457 ?_
  refine lv_aload_n hx hb d_law_458 rfl (lv_at hl 3 rfl) ?_
  refine lhcall C V (k := (gC_memory (xs (i + 1)) u).1) (u2 := (gC_memory (xs (i + 1)) u).2.2) (As := [.ref (ad 0), .int (xs (i + 1)), .ref o]) (maxL := 4) (bytes := b_La_memory) (hh := [(0, 9, 12, 19)]) (h_memory l C.fl dC dI cI cJ ad o u x (xs (i + 1))  H.size) rfl rfl (hts _ m_12_32) (hts _ m_12_33) (hts _ m_0_0) (hT _ (List.mem_append_right _ (List.contains_iff_mem.mp (by decide +kernel)))) (by decide) (by decide) (fun sig h => by cases h; rfl) rfl hl.1 d_law_459 hr1 hr2 (fun H locs V => ?_)
  refine lv_istore hx hb d_law_462 hl (by decide) rfl (fun ls hl => ?_)
  have hl : lv_has ls 7 [(5, .int (gC_memory (xs (i + 1)) u).1), (0, .ref b), (1, .ref (ad 0)), (2, .ref (ad2 0)), (3, .ref o), (4, .int (nI i))] := hl
  refine lv_aload_n hx hb d_law_464 rfl (lv_at hl 3 rfl) ?_
  refine lscr (j := 1) (jv := 1) C V hl 1 5 (by omega) rfl rfl rfl d_law_465 d_law_466 d_law_468 d_law_469 d_law_470 ?_
  refine lmcall_i C V (r := (f_Mo_memory (xs (i + 1)) v).1) (v2 := (f_Mo_memory (xs (i + 1)) v).2) (As := [.int (xs (i + 1))]) (c_Mo_memory l dC dI cI cZ ad2 v (xs (i + 1))  H.size) (cwV 1 hts (goodV m_18_19 m_18_20 m_18_21 m_0_12 m_18_22) rfl rfl rfl (by decide +kernel) ⟨Nat.le_of_ble_eq_true rfl, Nat.le_of_ble_eq_true rfl⟩) rfl hl.1 d_law_471 (by omega) (by omega) (fun H locs V => ?_)
  refine lv_istore hx hb d_law_474 hl (by decide) rfl (fun ls hl => ?_)
  have hl : lv_has ls 7 [(6, .int ((f_Mo_memory (xs (i + 1)) v).1)), (5, .int (gC_memory (xs (i + 1)) u).1), (0, .ref b), (1, .ref (ad 0)), (2, .ref (ad2 0)), (3, .ref o), (4, .int (nI i))] := hl
  have hq := hsim.memory u v (xs (i + 1)) hz
  refine lv_aload_n hx hb d_law_476 rfl (lv_at hl 4 rfl) ?_
  refine lmcall_i C V (r := f_Mo_thrown (f_Mo_memory (xs (i + 1)) v).2) (v2 := (f_Mo_memory (xs (i + 1)) v).2) (As := []) (c_Mo_thrown l dC dI cI cZ ad2 (f_Mo_memory (xs (i + 1)) v).2 H.size) (cwV 0 hts (goodV m_15_13 m_15_14 m_15_15 m_0_12 m_15_16) rfl rfl rfl (by decide +kernel) ⟨Nat.le_of_ble_eq_true rfl, Nat.le_of_ble_eq_true rfl⟩) rfl hl.1 d_law_477 (by omega) (by omega) (fun H locs V => ?_)
  refine lv_iload hx hb d_law_480 (lv_at hl 1 rfl) ?_
  refine lv_icmp_eq (tgt := 487) hx hb d_law_482 (by decide) (fun h1 => ?_) (fun h1 => absurd hq.1 h1)
  refine lv_iload hx hb d_law_487 (lv_at hl 1 rfl) ?_
  refine lv_if_ne (tgt := 504) hx hb d_law_489 (by decide) (fun h2 => ?_) (fun h2 => ?_)
  · refine lv_goto (tgt := 687) hx hb d_law_504 (by decide) ?_
    exact kk _ _ _ _ _ _ hq.2.2 V (lv_sub hl [2, 3, 4, 5, 6] rfl)
  · have h0 : (gC_memory (xs (i + 1)) u).1 = 0 := h2
    refine lv_aload_n hx hb d_law_492 rfl (lv_at hl 5 rfl) ?_
    refine lv_iconst (v := 0) hx hb d_law_493 (by decide) ?_
    refine va_lald hx hb C.K V.P 22 2 rfl rfl (vp_in_nI (n := 0) (by decide) (by decide)) d_law_494 ?_
    refine lv_iload hx hb d_law_495 (lv_at hl 0 rfl) ?_
    refine lv_i2l hx hb d_law_497 rfl ?_
    refine W.lcmp hx hb d_law_498 ?_
    have h3 : (xo (gC_memory (xs (i + 1)) u).1 (gC_memory (xs (i + 1)) u).2.1 x) 0 = ((f_Mo_memory (xs (i + 1)) v).1).toInt64 := by rw [h0, xo_at, hq.2.1 h0]
    refine lv_if_eq (tgt := 504) hx hb d_law_499 (by decide) (fun h4 => ?_) (fun h4 => absurd ((lgz _ _).mpr h3) h4)
    refine lv_goto (tgt := 687) hx hb d_law_504 (by decide) ?_
    exact kk _ _ _ _ _ _ hq.2.2 V (lv_sub hl [2, 3, 4, 5, 6] rfl)

set_option maxHeartbeats 1000000 in
set_option maxRecDepth 100000 in
theorem lc_error {p : Program} {l : Launch} {e : Env} {s : State} {m : MethodId} {below : List Frame} {meth : Method} {c : Code} {b L : Nat} {xs : Nat → Int32} {dC : Nat → ClassId} {dI : Nat → Nat → Nat} {cI cZ cJ : ClassId} {ad : Nat → Nat} {o : Nat} {ad2 : Nat → Nat} {Sim : S5 → S5 → Prop} (hsim : LSim Sim) (C : LC p l s m meth c b L xs dC dI cI cZ cJ) {Q : State → Prop} {i : Nat} (hi : i + 4 ≤ L) {u v : S5} {x : Nat → Int64} (hz : Sim u v) {H : Heap} {locs : List Loc} {cells slots : Nat} (V : LV s dC dI cI cZ cJ ad o ad2 u x v H locs) {ls : Array Slot} (hl : lv_has ls 7 [(0, .ref b), (1, .ref (ad 0)), (2, .ref (ad2 0)), (3, .ref o), (4, .int (nI i))]) (hr1 : cells + 1 ≤ 601024) (hr2 : slots + 6 ≤ 7293034)
    (kk : ∀ (u2 v2 : S5) (x2 : Nat → Int64) (H2 : Heap) (locs2 : List Loc) (ls2 : Array Slot), Sim u2 v2 → LV s dC dI cI cZ cJ ad o ad2 u2 x2 v2 H2 locs2 → lv_has ls2 7 [(0, .ref b), (1, .ref (ad 0)), (2, .ref (ad2 0)), (3, .ref o), (4, .int (nI i))] → W p l e room_1 s m #[Value.ref b] below meth c H2 locs2 (cells + 1) (slots + 6) Q (F0 m 687 ls2 [])) : W p l e room_1 s m #[Value.ref b] below meth c H locs cells slots Q (F0 m 507 ls []) := by
  obtain ⟨hx, hb, hr, hml, hown, hT, hX, hbl, hlocks, hgv⟩ := C.at0
  have hts := C.words
  refine lv_aload_n hx hb d_law_507 rfl (lv_at hl 1 rfl) ?_
  refine lscr (j := 1) (jv := 1) C V hl 0 4 (by omega) rfl rfl rfl d_law_508 d_law_509 d_law_511 d_law_512 d_law_513 ?_
  refine lscr (j := 2) (jv := 2) C V hl 0 4 (by omega) rfl rfl rfl d_law_514 d_law_515 d_law_517 d_law_518 d_law_519 ?_
  refine lv_aload_n hx hb d_law_520 rfl (lv_at hl 3 rfl) ?_
  refine lhcall C V (k := (gC_error (xs (i + 1)) (xs (i + 2)) u).1) (u2 := (gC_error (xs (i + 1)) (xs (i + 2)) u).2.2) (As := [.ref (ad 0), .int (xs (i + 1)), .int (xs (i + 2)), .ref o]) (maxL := 5) (bytes := b_La_error) (hh := [(0, 10, 13, 13), (0, 10, 17, 19)]) (h_error l C.fl dC dI cI cJ ad o u x (xs (i + 1)) (xs (i + 2)) (hsim.okr u v hz).1 H.size) rfl rfl (hts _ m_12_39) (hts _ m_13_0) (hts _ m_0_0) (hT _ (List.mem_append_right _ (List.contains_iff_mem.mp (by decide +kernel)))) (by decide) (by decide) (fun sig h => by cases h; rfl) rfl hl.1 d_law_521 hr1 hr2 (fun H locs V => ?_)
  refine lv_istore hx hb d_law_524 hl (by decide) rfl (fun ls hl => ?_)
  have hl : lv_has ls 7 [(5, .int (gC_error (xs (i + 1)) (xs (i + 2)) u).1), (0, .ref b), (1, .ref (ad 0)), (2, .ref (ad2 0)), (3, .ref o), (4, .int (nI i))] := hl
  refine lv_aload_n hx hb d_law_526 rfl (lv_at hl 3 rfl) ?_
  refine lscr (j := 1) (jv := 1) C V hl 1 5 (by omega) rfl rfl rfl d_law_527 d_law_528 d_law_530 d_law_531 d_law_532 ?_
  refine lscr (j := 2) (jv := 2) C V hl 1 5 (by omega) rfl rfl rfl d_law_533 d_law_534 d_law_536 d_law_537 d_law_538 ?_
  refine lmcall_i C V (r := (f_Mo_error (xs (i + 1)) (xs (i + 2)) v).1) (v2 := (f_Mo_error (xs (i + 1)) (xs (i + 2)) v).2) (As := [.int (xs (i + 1)), .int (xs (i + 2))]) (c_Mo_error l dC dI cI cZ ad2 v (xs (i + 1)) (xs (i + 2)) (hsim.oke u v hz).1.1 H.size) (cwV 2 hts (goodV m_18_23 m_18_24 m_18_25 m_0_12 m_18_26) rfl rfl rfl (by decide +kernel) ⟨Nat.le_of_ble_eq_true rfl, Nat.le_of_ble_eq_true rfl⟩) rfl hl.1 d_law_539 (by omega) (by omega) (fun H locs V => ?_)
  refine lv_istore hx hb d_law_542 hl (by decide) rfl (fun ls hl => ?_)
  have hl : lv_has ls 7 [(6, .int ((f_Mo_error (xs (i + 1)) (xs (i + 2)) v).1)), (5, .int (gC_error (xs (i + 1)) (xs (i + 2)) u).1), (0, .ref b), (1, .ref (ad 0)), (2, .ref (ad2 0)), (3, .ref o), (4, .int (nI i))] := hl
  have hq := hsim.error u v (xs (i + 1)) (xs (i + 2)) hz
  refine lv_aload_n hx hb d_law_544 rfl (lv_at hl 4 rfl) ?_
  refine lmcall_i C V (r := f_Mo_thrown (f_Mo_error (xs (i + 1)) (xs (i + 2)) v).2) (v2 := (f_Mo_error (xs (i + 1)) (xs (i + 2)) v).2) (As := []) (c_Mo_thrown l dC dI cI cZ ad2 (f_Mo_error (xs (i + 1)) (xs (i + 2)) v).2 H.size) (cwV 0 hts (goodV m_15_13 m_15_14 m_15_15 m_0_12 m_15_16) rfl rfl rfl (by decide +kernel) ⟨Nat.le_of_ble_eq_true rfl, Nat.le_of_ble_eq_true rfl⟩) rfl hl.1 d_law_545 (by omega) (by omega) (fun H locs V => ?_)
  refine lv_iload hx hb d_law_548 (lv_at hl 1 rfl) ?_
  refine lv_icmp_eq (tgt := 555) hx hb d_law_550 (by decide) (fun h1 => ?_) (fun h1 => absurd hq.1 h1)
  refine lv_iload hx hb d_law_555 (lv_at hl 1 rfl) ?_
  refine lv_if_ne (tgt := 572) hx hb d_law_557 (by decide) (fun h2 => ?_) (fun h2 => ?_)
  · refine lv_goto (tgt := 687) hx hb d_law_572 (by decide) ?_
    exact kk _ _ _ _ _ _ hq.2.2 V (lv_sub hl [2, 3, 4, 5, 6] rfl)
  · have h0 : (gC_error (xs (i + 1)) (xs (i + 2)) u).1 = 0 := h2
    refine lv_aload_n hx hb d_law_560 rfl (lv_at hl 5 rfl) ?_
    refine lv_iconst (v := 0) hx hb d_law_561 (by decide) ?_
    refine va_lald hx hb C.K V.P 22 2 rfl rfl (vp_in_nI (n := 0) (by decide) (by decide)) d_law_562 ?_
    refine lv_iload hx hb d_law_563 (lv_at hl 0 rfl) ?_
    refine lv_i2l hx hb d_law_565 rfl ?_
    refine W.lcmp hx hb d_law_566 ?_
    have h3 : (xo (gC_error (xs (i + 1)) (xs (i + 2)) u).1 (gC_error (xs (i + 1)) (xs (i + 2)) u).2.1 x) 0 = ((f_Mo_error (xs (i + 1)) (xs (i + 2)) v).1).toInt64 := by rw [h0, xo_at, hq.2.1 h0]
    refine lv_if_eq (tgt := 572) hx hb d_law_567 (by decide) (fun h4 => ?_) (fun h4 => absurd ((lgz _ _).mpr h3) h4)
    refine lv_goto (tgt := 687) hx hb d_law_572 (by decide) ?_
    exact kk _ _ _ _ _ _ hq.2.2 V (lv_sub hl [2, 3, 4, 5, 6] rfl)

set_option maxHeartbeats 1000000 in
set_option maxRecDepth 100000 in
theorem lc_output {p : Program} {l : Launch} {e : Env} {s : State} {m : MethodId} {below : List Frame} {meth : Method} {c : Code} {b L : Nat} {xs : Nat → Int32} {dC : Nat → ClassId} {dI : Nat → Nat → Nat} {cI cZ cJ : ClassId} {ad : Nat → Nat} {o : Nat} {ad2 : Nat → Nat} {Sim : S5 → S5 → Prop} (hsim : LSim Sim) (C : LC p l s m meth c b L xs dC dI cI cZ cJ) {Q : State → Prop} {i : Nat} (hi : i + 4 ≤ L) {u v : S5} {x : Nat → Int64} (hz : Sim u v) {H : Heap} {locs : List Loc} {cells slots : Nat} (V : LV s dC dI cI cZ cJ ad o ad2 u x v H locs) {ls : Array Slot} (hl : lv_has ls 7 [(0, .ref b), (1, .ref (ad 0)), (2, .ref (ad2 0)), (3, .ref o), (4, .int (nI i))]) (hr1 : cells + 1 ≤ 601024) (hr2 : slots + 6 ≤ 7293034)
    (kk : ∀ (u2 v2 : S5) (x2 : Nat → Int64) (H2 : Heap) (locs2 : List Loc) (ls2 : Array Slot), Sim u2 v2 → LV s dC dI cI cZ cJ ad o ad2 u2 x2 v2 H2 locs2 → lv_has ls2 7 [(0, .ref b), (1, .ref (ad 0)), (2, .ref (ad2 0)), (3, .ref o), (4, .int (nI i))] → W p l e room_1 s m #[Value.ref b] below meth c H2 locs2 (cells + 1) (slots + 6) Q (F0 m 687 ls2 [])) : W p l e room_1 s m #[Value.ref b] below meth c H locs cells slots Q (F0 m 575 ls []) := by
  obtain ⟨hx, hb, hr, hml, hown, hT, hX, hbl, hlocks, hgv⟩ := C.at0
  have hts := C.words
  refine lv_aload_n hx hb d_law_575 rfl (lv_at hl 1 rfl) ?_
  refine lscr (j := 1) (jv := 1) C V hl 0 4 (by omega) rfl rfl rfl d_law_576 d_law_577 d_law_579 d_law_580 d_law_581 ?_
  refine lv_aload_n hx hb d_law_582 rfl (lv_at hl 3 rfl) ?_
  refine lhcall C V (k := (gC_output (xs (i + 1)) u).1) (u2 := (gC_output (xs (i + 1)) u).2.2) (As := [.ref (ad 0), .int (xs (i + 1)), .ref o]) (maxL := 4) (bytes := b_La_output) (hh := [(0, 9, 12, 19)]) (h_output l C.fl dC dI cI cJ ad o u x (xs (i + 1)) (hsim.okp u v hz).2.2 H.size) rfl rfl (hts _ m_13_5) (hts _ m_13_6) (hts _ m_0_0) (hT _ (List.mem_append_right _ (List.contains_iff_mem.mp (by decide +kernel)))) (by decide) (by decide) (fun sig h => by cases h; rfl) rfl hl.1 d_law_583 hr1 hr2 (fun H locs V => ?_)
  refine lv_istore hx hb d_law_586 hl (by decide) rfl (fun ls hl => ?_)
  have hl : lv_has ls 7 [(5, .int (gC_output (xs (i + 1)) u).1), (0, .ref b), (1, .ref (ad 0)), (2, .ref (ad2 0)), (3, .ref o), (4, .int (nI i))] := hl
  refine lv_aload_n hx hb d_law_588 rfl (lv_at hl 3 rfl) ?_
  refine lscr (j := 1) (jv := 1) C V hl 1 5 (by omega) rfl rfl rfl d_law_589 d_law_590 d_law_592 d_law_593 d_law_594 ?_
  refine lmcall_i C V (r := (f_Mo_output (xs (i + 1)) v).1) (v2 := (f_Mo_output (xs (i + 1)) v).2) (As := [.int (xs (i + 1))]) (c_Mo_output l dC dI cI cZ ad2 v (xs (i + 1)) (hsim.oke u v hz).2.2.2.2 H.size) (cwV 1 hts (goodV m_18_27 m_18_28 m_18_29 m_0_12 m_18_30) rfl rfl rfl (by decide +kernel) ⟨Nat.le_of_ble_eq_true rfl, Nat.le_of_ble_eq_true rfl⟩) rfl hl.1 d_law_595 (by omega) (by omega) (fun H locs V => ?_)
  refine lv_istore hx hb d_law_598 hl (by decide) rfl (fun ls hl => ?_)
  have hl : lv_has ls 7 [(6, .int ((f_Mo_output (xs (i + 1)) v).1)), (5, .int (gC_output (xs (i + 1)) u).1), (0, .ref b), (1, .ref (ad 0)), (2, .ref (ad2 0)), (3, .ref o), (4, .int (nI i))] := hl
  have hq := hsim.output u v (xs (i + 1)) hz
  refine lv_aload_n hx hb d_law_600 rfl (lv_at hl 4 rfl) ?_
  refine lmcall_i C V (r := f_Mo_thrown (f_Mo_output (xs (i + 1)) v).2) (v2 := (f_Mo_output (xs (i + 1)) v).2) (As := []) (c_Mo_thrown l dC dI cI cZ ad2 (f_Mo_output (xs (i + 1)) v).2 H.size) (cwV 0 hts (goodV m_15_13 m_15_14 m_15_15 m_0_12 m_15_16) rfl rfl rfl (by decide +kernel) ⟨Nat.le_of_ble_eq_true rfl, Nat.le_of_ble_eq_true rfl⟩) rfl hl.1 d_law_601 (by omega) (by omega) (fun H locs V => ?_)
  refine lv_iload hx hb d_law_604 (lv_at hl 1 rfl) ?_
  refine lv_icmp_eq (tgt := 611) hx hb d_law_606 (by decide) (fun h1 => ?_) (fun h1 => absurd hq.1 h1)
  refine lv_iload hx hb d_law_611 (lv_at hl 1 rfl) ?_
  refine lv_if_ne (tgt := 628) hx hb d_law_613 (by decide) (fun h2 => ?_) (fun h2 => ?_)
  · refine lv_goto (tgt := 687) hx hb d_law_628 (by decide) ?_
    exact kk _ _ _ _ _ _ hq.2.2 V (lv_sub hl [2, 3, 4, 5, 6] rfl)
  · have h0 : (gC_output (xs (i + 1)) u).1 = 0 := h2
    refine lv_aload_n hx hb d_law_616 rfl (lv_at hl 5 rfl) ?_
    refine lv_iconst (v := 0) hx hb d_law_617 (by decide) ?_
    refine va_lald hx hb C.K V.P 22 2 rfl rfl (vp_in_nI (n := 0) (by decide) (by decide)) d_law_618 ?_
    refine lv_iload hx hb d_law_619 (lv_at hl 0 rfl) ?_
    refine lv_i2l hx hb d_law_621 rfl ?_
    refine W.lcmp hx hb d_law_622 ?_
    have h3 : (xo (gC_output (xs (i + 1)) u).1 (gC_output (xs (i + 1)) u).2.1 x) 0 = ((f_Mo_output (xs (i + 1)) v).1).toInt64 := by rw [h0, xo_at, hq.2.1 h0]
    refine lv_if_eq (tgt := 628) hx hb d_law_623 (by decide) (fun h4 => ?_) (fun h4 => absurd ((lgz _ _).mpr h3) h4)
    refine lv_goto (tgt := 687) hx hb d_law_628 (by decide) ?_
    exact kk _ _ _ _ _ _ hq.2.2 V (lv_sub hl [2, 3, 4, 5, 6] rfl)

set_option maxHeartbeats 1000000 in
set_option maxRecDepth 100000 in
theorem lc_count {p : Program} {l : Launch} {e : Env} {s : State} {m : MethodId} {below : List Frame} {meth : Method} {c : Code} {b L : Nat} {xs : Nat → Int32} {dC : Nat → ClassId} {dI : Nat → Nat → Nat} {cI cZ cJ : ClassId} {ad : Nat → Nat} {o : Nat} {ad2 : Nat → Nat} {Sim : S5 → S5 → Prop} (hsim : LSim Sim) (C : LC p l s m meth c b L xs dC dI cI cZ cJ) {Q : State → Prop} {i : Nat} (hi : i + 4 ≤ L) {u v : S5} {x : Nat → Int64} (hz : Sim u v) {H : Heap} {locs : List Loc} {cells slots : Nat} (V : LV s dC dI cI cZ cJ ad o ad2 u x v H locs) {ls : Array Slot} (hl : lv_has ls 7 [(0, .ref b), (1, .ref (ad 0)), (2, .ref (ad2 0)), (3, .ref o), (4, .int (nI i))]) (hr1 : cells + 1 ≤ 601024) (hr2 : slots + 6 ≤ 7293034)
    (kk : ∀ (u2 v2 : S5) (x2 : Nat → Int64) (H2 : Heap) (locs2 : List Loc) (ls2 : Array Slot), Sim u2 v2 → LV s dC dI cI cZ cJ ad o ad2 u2 x2 v2 H2 locs2 → lv_has ls2 7 [(0, .ref b), (1, .ref (ad 0)), (2, .ref (ad2 0)), (3, .ref o), (4, .int (nI i))] → W p l e room_1 s m #[Value.ref b] below meth c H2 locs2 (cells + 1) (slots + 6) Q (F0 m 687 ls2 [])) : W p l e room_1 s m #[Value.ref b] below meth c H locs cells slots Q (F0 m 631 ls []) := by
  obtain ⟨hx, hb, hr, hml, hown, hT, hX, hbl, hlocks, hgv⟩ := C.at0
  have hts := C.words
  refine lv_aload_n hx hb d_law_631 rfl (lv_at hl 1 rfl) ?_
  refine lscr (j := 1) (jv := 1) C V hl 0 4 (by omega) rfl rfl rfl d_law_632 d_law_633 d_law_635 d_law_636 d_law_637 ?_
  refine lv_aload_n hx hb d_law_638 rfl (lv_at hl 3 rfl) ?_
  refine lhcall C V (k := (gC_count (xs (i + 1)) u).1) (u2 := (gC_count (xs (i + 1)) u).2.2) (As := [.ref (ad 0), .int (xs (i + 1)), .ref o]) (maxL := 4) (bytes := b_La_count) (hh := [(0, 9, 12, 13)]) (h_count l C.fl dC dI cI cJ ad o u x (xs (i + 1))  H.size) rfl rfl (hts _ m_13_11) (hts _ m_13_12) (hts _ m_0_0) (hT _ (List.mem_append_right _ (List.contains_iff_mem.mp (by decide +kernel)))) (by decide) (by decide) (fun sig h => by cases h; rfl) rfl hl.1 d_law_639 hr1 hr2 (fun H locs V => ?_)
  refine lv_istore hx hb d_law_642 hl (by decide) rfl (fun ls hl => ?_)
  have hl : lv_has ls 7 [(5, .int (gC_count (xs (i + 1)) u).1), (0, .ref b), (1, .ref (ad 0)), (2, .ref (ad2 0)), (3, .ref o), (4, .int (nI i))] := hl
  refine lv_aload_n hx hb d_law_644 rfl (lv_at hl 3 rfl) ?_
  refine lscr (j := 1) (jv := 1) C V hl 1 5 (by omega) rfl rfl rfl d_law_645 d_law_646 d_law_648 d_law_649 d_law_650 ?_
  refine lmcall_i C V (r := (f_Mo_count (xs (i + 1)) v).1) (v2 := (f_Mo_count (xs (i + 1)) v).2) (As := [.int (xs (i + 1))]) (c_Mo_count l dC dI cI cZ ad2 v (xs (i + 1)) (hsim.oke u v hz).2.1.2.2.1 H.size) (cwV 1 hts (goodV m_18_31 m_18_32 m_18_33 m_0_12 m_18_34) rfl rfl rfl (by decide +kernel) ⟨Nat.le_of_ble_eq_true rfl, Nat.le_of_ble_eq_true rfl⟩) rfl hl.1 d_law_651 (by omega) (by omega) (fun H locs V => ?_)
  refine lv_istore hx hb d_law_654 hl (by decide) rfl (fun ls hl => ?_)
  have hl : lv_has ls 7 [(6, .int ((f_Mo_count (xs (i + 1)) v).1)), (5, .int (gC_count (xs (i + 1)) u).1), (0, .ref b), (1, .ref (ad 0)), (2, .ref (ad2 0)), (3, .ref o), (4, .int (nI i))] := hl
  have hq := hsim.count u v (xs (i + 1)) hz
  refine lv_aload_n hx hb d_law_656 rfl (lv_at hl 4 rfl) ?_
  refine lmcall_i C V (r := f_Mo_thrown (f_Mo_count (xs (i + 1)) v).2) (v2 := (f_Mo_count (xs (i + 1)) v).2) (As := []) (c_Mo_thrown l dC dI cI cZ ad2 (f_Mo_count (xs (i + 1)) v).2 H.size) (cwV 0 hts (goodV m_15_13 m_15_14 m_15_15 m_0_12 m_15_16) rfl rfl rfl (by decide +kernel) ⟨Nat.le_of_ble_eq_true rfl, Nat.le_of_ble_eq_true rfl⟩) rfl hl.1 d_law_657 (by omega) (by omega) (fun H locs V => ?_)
  refine lv_iload hx hb d_law_660 (lv_at hl 1 rfl) ?_
  refine lv_icmp_eq (tgt := 667) hx hb d_law_662 (by decide) (fun h1 => ?_) (fun h1 => absurd hq.1 h1)
  refine lv_iload hx hb d_law_667 (lv_at hl 1 rfl) ?_
  refine lv_if_ne (tgt := 684) hx hb d_law_669 (by decide) (fun h2 => ?_) (fun h2 => ?_)
  · refine lv_goto (tgt := 687) hx hb d_law_684 (by decide) ?_
    exact kk _ _ _ _ _ _ hq.2.2 V (lv_sub hl [2, 3, 4, 5, 6] rfl)
  · have h0 : (gC_count (xs (i + 1)) u).1 = 0 := h2
    refine lv_aload_n hx hb d_law_672 rfl (lv_at hl 5 rfl) ?_
    refine lv_iconst (v := 0) hx hb d_law_673 (by decide) ?_
    refine va_lald hx hb C.K V.P 22 2 rfl rfl (vp_in_nI (n := 0) (by decide) (by decide)) d_law_674 ?_
    refine lv_iload hx hb d_law_675 (lv_at hl 0 rfl) ?_
    refine lv_i2l hx hb d_law_677 rfl ?_
    refine W.lcmp hx hb d_law_678 ?_
    have h3 : (xo (gC_count (xs (i + 1)) u).1 (gC_count (xs (i + 1)) u).2.1 x) 0 = ((f_Mo_count (xs (i + 1)) v).1).toInt64 := by rw [h0, xo_at, hq.2.1 h0]
    refine lv_if_eq (tgt := 684) hx hb d_law_679 (by decide) (fun h4 => ?_) (fun h4 => absurd ((lgz _ _).mpr h3) h4)
    refine lv_goto (tgt := 687) hx hb d_law_684 (by decide) ?_
    exact kk _ _ _ _ _ _ hq.2.2 V (lv_sub hl [2, 3, 4, 5, 6] rfl)
