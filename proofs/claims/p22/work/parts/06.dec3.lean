theorem dL_writes_33 : decode cL_writes 33 = .ok (.bipush 6, 2) := by decide +kernel
theorem dL_writes_35 : decode cL_writes 35 = .ok (.invokestatic 75, 3) := by decide +kernel
theorem dL_writes_38 : decode cL_writes 38 = .ok (.istore 9, 2) := by decide +kernel
theorem dL_writes_40 : decode cL_writes 40 = .ok (.iload_n 3, 1) := by decide +kernel
theorem dL_writes_41 : decode cL_writes 41 = .ok (.bipush 8, 2) := by decide +kernel
theorem dL_writes_43 : decode cL_writes 43 = .ok (.ishr, 1) := by decide +kernel
theorem dL_writes_44 : decode cL_writes 44 = .ok (.iload_n 3, 1) := by decide +kernel
theorem dL_writes_45 : decode cL_writes 45 = .ok (.ldc 80, 2) := by decide +kernel
theorem dL_writes_47 : decode cL_writes 47 = .ok (.iand, 1) := by decide +kernel
theorem dL_writes_48 : decode cL_writes 48 = .ok (.ifCond .ne 8, 3) := by decide +kernel
theorem dL_writes_51 : decode cL_writes 51 = .ok (.bipush 51, 2) := by decide +kernel
theorem dL_writes_53 : decode cL_writes 53 = .ok (.goto 4, 3) := by decide +kernel
theorem dL_writes_56 : decode cL_writes 56 = .ok (.iconst 4, 1) := by decide +kernel
theorem dL_writes_57 : decode cL_writes 57 = .ok (.invokestatic 75, 3) := by decide +kernel
theorem dL_writes_60 : decode cL_writes 60 = .ok (.istore 10, 2) := by decide +kernel
theorem dL_writes_62 : decode cL_writes 62 = .ok (.iload_n 2, 1) := by decide +kernel
theorem dL_writes_63 : decode cL_writes 63 = .ok (.iconst 4, 1) := by decide +kernel
theorem dL_writes_64 : decode cL_writes 64 = .ok (.ishr, 1) := by decide +kernel
theorem dL_writes_65 : decode cL_writes 65 = .ok (.sipush 1001, 3) := by decide +kernel
theorem dL_writes_68 : decode cL_writes 68 = .ok (.invokestatic 75, 3) := by decide +kernel
theorem dL_writes_71 : decode cL_writes 71 = .ok (.istore 11, 2) := by decide +kernel
theorem dL_writes_73 : decode cL_writes 73 = .ok (.aload_n 0, 1) := by decide +kernel
theorem dL_writes_74 : decode cL_writes 74 = .ok (.bipush 10, 2) := by decide +kernel
theorem dL_writes_76 : decode cL_writes 76 = .ok (.iload 8, 2) := by decide +kernel
theorem dL_writes_78 : decode cL_writes 78 = .ok (.iload 9, 2) := by decide +kernel
theorem dL_writes_80 : decode cL_writes 80 = .ok (.iload 10, 2) := by decide +kernel
theorem dL_writes_82 : decode cL_writes 82 = .ok (.iload 11, 2) := by decide +kernel
theorem dL_writes_84 : decode cL_writes 84 = .ok (.invokestatic 81, 3) := by decide +kernel
theorem dL_writes_87 : decode cL_writes 87 = .ok (.bipush (-72), 2) := by decide +kernel
theorem dL_writes_89 : decode cL_writes 89 = .ok (.if_icmp .ne 116, 3) := by decide +kernel
theorem dL_writes_92 : decode cL_writes 92 = .ok (.aload_n 0, 1) := by decide +kernel
theorem dL_writes_93 : decode cL_writes 93 = .ok (.iload 7, 2) := by decide +kernel
theorem dL_writes_95 : decode cL_writes 95 = .ok (.iconst 2, 1) := by decide +kernel
theorem dL_writes_96 : decode cL_writes 96 = .ok (.iload 9, 2) := by decide +kernel
theorem dL_writes_98 : decode cL_writes 98 = .ok (.iload 10, 2) := by decide +kernel
theorem dL_writes_100 : decode cL_writes 100 = .ok (.iload 11, 2) := by decide +kernel
theorem dL_writes_102 : decode cL_writes 102 = .ok (.invokestatic 81, 3) := by decide +kernel
theorem dL_writes_105 : decode cL_writes 105 = .ok (.bipush (-72), 2) := by decide +kernel
theorem dL_writes_107 : decode cL_writes 107 = .ok (.if_icmp .ne 98, 3) := by decide +kernel
theorem dL_writes_110 : decode cL_writes 110 = .ok (.aload_n 0, 1) := by decide +kernel
theorem dL_writes_111 : decode cL_writes 111 = .ok (.iload 7, 2) := by decide +kernel
theorem dL_writes_113 : decode cL_writes 113 = .ok (.iload 8, 2) := by decide +kernel
theorem dL_writes_115 : decode cL_writes 115 = .ok (.bipush 101, 2) := by decide +kernel
theorem dL_writes_117 : decode cL_writes 117 = .ok (.iload 10, 2) := by decide +kernel
theorem dL_writes_119 : decode cL_writes 119 = .ok (.iload 11, 2) := by decide +kernel
theorem dL_writes_121 : decode cL_writes 121 = .ok (.invokestatic 81, 3) := by decide +kernel
theorem dL_writes_124 : decode cL_writes 124 = .ok (.bipush (-72), 2) := by decide +kernel
theorem dL_writes_126 : decode cL_writes 126 = .ok (.if_icmp .ne 79, 3) := by decide +kernel
theorem dL_writes_129 : decode cL_writes 129 = .ok (.aload_n 0, 1) := by decide +kernel
theorem dL_writes_130 : decode cL_writes 130 = .ok (.iload 7, 2) := by decide +kernel
theorem dL_writes_132 : decode cL_writes 132 = .ok (.iload 8, 2) := by decide +kernel
theorem dL_writes_134 : decode cL_writes 134 = .ok (.iload 9, 2) := by decide +kernel
theorem dL_writes_136 : decode cL_writes 136 = .ok (.bipush 51, 2) := by decide +kernel
theorem dL_writes_138 : decode cL_writes 138 = .ok (.iload 11, 2) := by decide +kernel
theorem dL_writes_140 : decode cL_writes 140 = .ok (.invokestatic 81, 3) := by decide +kernel
theorem dL_writes_143 : decode cL_writes 143 = .ok (.bipush (-72), 2) := by decide +kernel
theorem dL_writes_145 : decode cL_writes 145 = .ok (.if_icmp .ne 60, 3) := by decide +kernel
theorem dL_writes_148 : decode cL_writes 148 = .ok (.aload_n 0, 1) := by decide +kernel
theorem dL_writes_149 : decode cL_writes 149 = .ok (.iload 7, 2) := by decide +kernel
theorem dL_writes_151 : decode cL_writes 151 = .ok (.iload 8, 2) := by decide +kernel
theorem dL_writes_153 : decode cL_writes 153 = .ok (.iload 9, 2) := by decide +kernel
theorem dL_writes_155 : decode cL_writes 155 = .ok (.iload 10, 2) := by decide +kernel
theorem dL_writes_157 : decode cL_writes 157 = .ok (.sipush 1001, 3) := by decide +kernel
theorem dL_writes_160 : decode cL_writes 160 = .ok (.invokestatic 81, 3) := by decide +kernel
theorem dL_writes_163 : decode cL_writes 163 = .ok (.bipush (-72), 2) := by decide +kernel
theorem dL_writes_165 : decode cL_writes 165 = .ok (.if_icmp .ne 40, 3) := by decide +kernel
theorem dL_writes_168 : decode cL_writes 168 = .ok (.aload_n 0, 1) := by decide +kernel
theorem dL_writes_169 : decode cL_writes 169 = .ok (.iload 7, 2) := by decide +kernel
theorem dL_writes_171 : decode cL_writes 171 = .ok (.iload 8, 2) := by decide +kernel
theorem dL_writes_173 : decode cL_writes 173 = .ok (.iconst (-1), 1) := by decide +kernel
theorem dL_writes_174 : decode cL_writes 174 = .ok (.iload 10, 2) := by decide +kernel
theorem dL_writes_176 : decode cL_writes 176 = .ok (.iload 11, 2) := by decide +kernel
theorem dL_writes_178 : decode cL_writes 178 = .ok (.invokestatic 81, 3) := by decide +kernel
theorem dL_writes_181 : decode cL_writes 181 = .ok (.bipush (-72), 2) := by decide +kernel
theorem dL_writes_183 : decode cL_writes 183 = .ok (.if_icmp .ne 22, 3) := by decide +kernel
theorem dL_writes_186 : decode cL_writes 186 = .ok (.aload_n 0, 1) := by decide +kernel
theorem dL_writes_187 : decode cL_writes 187 = .ok (.ldc 84, 2) := by decide +kernel
theorem dL_writes_189 : decode cL_writes 189 = .ok (.iload 8, 2) := by decide +kernel
theorem dL_writes_191 : decode cL_writes 191 = .ok (.iload 9, 2) := by decide +kernel
theorem dL_writes_193 : decode cL_writes 193 = .ok (.iload 10, 2) := by decide +kernel
theorem dL_writes_195 : decode cL_writes 195 = .ok (.iload 11, 2) := by decide +kernel
theorem dL_writes_197 : decode cL_writes 197 = .ok (.invokestatic 81, 3) := by decide +kernel
theorem dL_writes_200 : decode cL_writes 200 = .ok (.bipush (-72), 2) := by decide +kernel
theorem dL_writes_202 : decode cL_writes 202 = .ok (.if_icmp .eq 5, 3) := by decide +kernel
theorem dL_writes_205 : decode cL_writes 205 = .ok (.iconst 0, 1) := by decide +kernel
theorem dL_writes_206 : decode cL_writes 206 = .ok (.ireturn, 1) := by decide +kernel
theorem dL_writes_207 : decode cL_writes 207 = .ok (.aload 4, 2) := by decide +kernel
theorem dL_writes_209 : decode cL_writes 209 = .ok (.iload 7, 2) := by decide +kernel
theorem dL_writes_211 : decode cL_writes 211 = .ok (.iaload, 1) := by decide +kernel
theorem dL_writes_212 : decode cL_writes 212 = .ok (.bipush 9, 2) := by decide +kernel
theorem dL_writes_214 : decode cL_writes 214 = .ok (.if_icmp .ne 28, 3) := by decide +kernel
theorem dL_writes_217 : decode cL_writes 217 = .ok (.aload_n 0, 1) := by decide +kernel
theorem dL_writes_218 : decode cL_writes 218 = .ok (.iload 7, 2) := by decide +kernel
theorem dL_writes_220 : decode cL_writes 220 = .ok (.iload 8, 2) := by decide +kernel
theorem dL_writes_222 : decode cL_writes 222 = .ok (.iload 9, 2) := by decide +kernel
theorem dL_writes_224 : decode cL_writes 224 = .ok (.iload 10, 2) := by decide +kernel
theorem dL_writes_226 : decode cL_writes 226 = .ok (.iload 11, 2) := by decide +kernel
theorem dL_writes_228 : decode cL_writes 228 = .ok (.invokestatic 81, 3) := by decide +kernel
theorem dL_writes_231 : decode cL_writes 231 = .ok (.bipush (-73), 2) := by decide +kernel
theorem dL_writes_233 : decode cL_writes 233 = .ok (.if_icmp .ne 7, 3) := by decide +kernel
theorem dL_writes_236 : decode cL_writes 236 = .ok (.iconst 1, 1) := by decide +kernel
theorem dL_writes_237 : decode cL_writes 237 = .ok (.goto 4, 3) := by decide +kernel
theorem dL_writes_240 : decode cL_writes 240 = .ok (.iconst 0, 1) := by decide +kernel
theorem dL_writes_241 : decode cL_writes 241 = .ok (.ireturn, 1) := by decide +kernel
theorem dL_writes_242 : decode cL_writes 242 = .ok (.aload 6, 2) := by decide +kernel
theorem dL_writes_244 : decode cL_writes 244 = .ok (.bipush 9, 2) := by decide +kernel
theorem dL_writes_246 : decode cL_writes 246 = .ok (.iload 7, 2) := by decide +kernel
theorem dL_writes_248 : decode cL_writes 248 = .ok (.imul, 1) := by decide +kernel
theorem dL_writes_249 : decode cL_writes 249 = .ok (.aload 4, 2) := by decide +kernel
theorem dL_writes_251 : decode cL_writes 251 = .ok (.iload 7, 2) := by decide +kernel
theorem dL_writes_253 : decode cL_writes 253 = .ok (.iaload, 1) := by decide +kernel
theorem dL_writes_254 : decode cL_writes 254 = .ok (.iadd, 1) := by decide +kernel
theorem dL_writes_255 : decode cL_writes 255 = .ok (.iload 8, 2) := by decide +kernel
theorem dL_writes_257 : decode cL_writes 257 = .ok (.iconst 2, 1) := by decide +kernel
theorem dL_writes_258 : decode cL_writes 258 = .ok (.iload 9, 2) := by decide +kernel
theorem dL_writes_260 : decode cL_writes 260 = .ok (.imul, 1) := by decide +kernel
theorem dL_writes_261 : decode cL_writes 261 = .ok (.iadd, 1) := by decide +kernel
theorem dL_writes_262 : decode cL_writes 262 = .ok (.sipush 256, 3) := by decide +kernel
theorem dL_writes_265 : decode cL_writes 265 = .ok (.iload 10, 2) := by decide +kernel
theorem dL_writes_267 : decode cL_writes 267 = .ok (.imul, 1) := by decide +kernel
theorem dL_writes_268 : decode cL_writes 268 = .ok (.iadd, 1) := by decide +kernel
theorem dL_writes_269 : decode cL_writes 269 = .ok (.sipush 16384, 3) := by decide +kernel
theorem dL_writes_272 : decode cL_writes 272 = .ok (.iload 11, 2) := by decide +kernel
theorem dL_writes_274 : decode cL_writes 274 = .ok (.imul, 1) := by decide +kernel
theorem dL_writes_275 : decode cL_writes 275 = .ok (.iadd, 1) := by decide +kernel
theorem dL_writes_276 : decode cL_writes 276 = .ok (.iastore, 1) := by decide +kernel
theorem dL_writes_277 : decode cL_writes 277 = .ok (.aload 4, 2) := by decide +kernel
theorem dL_writes_279 : decode cL_writes 279 = .ok (.iload 7, 2) := by decide +kernel
theorem dL_writes_281 : decode cL_writes 281 = .ok (.dup2, 1) := by decide +kernel
theorem dL_writes_282 : decode cL_writes 282 = .ok (.iaload, 1) := by decide +kernel
theorem dL_writes_283 : decode cL_writes 283 = .ok (.iconst 1, 1) := by decide +kernel
theorem dL_writes_284 : decode cL_writes 284 = .ok (.iadd, 1) := by decide +kernel
theorem dL_writes_285 : decode cL_writes 285 = .ok (.iastore, 1) := by decide +kernel
theorem dL_writes_286 : decode cL_writes 286 = .ok (.aload_n 0, 1) := by decide +kernel
theorem dL_writes_287 : decode cL_writes 287 = .ok (.iload 7, 2) := by decide +kernel
theorem dL_writes_289 : decode cL_writes 289 = .ok (.iload 8, 2) := by decide +kernel
theorem dL_writes_291 : decode cL_writes 291 = .ok (.iload 9, 2) := by decide +kernel
theorem dL_writes_293 : decode cL_writes 293 = .ok (.iload 10, 2) := by decide +kernel
theorem dL_writes_295 : decode cL_writes 295 = .ok (.iload 11, 2) := by decide +kernel
theorem dL_writes_297 : decode cL_writes 297 = .ok (.invokestatic 81, 3) := by decide +kernel
theorem dL_writes_300 : decode cL_writes 300 = .ok (.aload 4, 2) := by decide +kernel
theorem dL_writes_302 : decode cL_writes 302 = .ok (.iload 7, 2) := by decide +kernel
theorem dL_writes_304 : decode cL_writes 304 = .ok (.iaload, 1) := by decide +kernel
theorem dL_writes_305 : decode cL_writes 305 = .ok (.if_icmp .ne 7, 3) := by decide +kernel
theorem dL_writes_308 : decode cL_writes 308 = .ok (.iconst 1, 1) := by decide +kernel
theorem dL_writes_309 : decode cL_writes 309 = .ok (.goto 4, 3) := by decide +kernel
theorem dL_writes_312 : decode cL_writes 312 = .ok (.iconst 0, 1) := by decide +kernel
theorem dL_writes_313 : decode cL_writes 313 = .ok (.ireturn, 1) := by decide +kernel
theorem dL_writes_314 : decode cL_writes 314 = .ok (.iload_n 3, 1) := by decide +kernel
theorem dL_writes_315 : decode cL_writes 315 = .ok (.bipush 24, 2) := by decide +kernel
theorem dL_writes_317 : decode cL_writes 317 = .ok (.iand, 1) := by decide +kernel
theorem dL_writes_318 : decode cL_writes 318 = .ok (.ifCond .ne 21, 3) := by decide +kernel
theorem dL_writes_321 : decode cL_writes 321 = .ok (.iload_n 3, 1) := by decide +kernel
theorem dL_writes_322 : decode cL_writes 322 = .ok (.iconst 5, 1) := by decide +kernel
theorem dL_writes_323 : decode cL_writes 323 = .ok (.ishr, 1) := by decide +kernel
theorem dL_writes_324 : decode cL_writes 324 = .ok (.bipush 64, 2) := by decide +kernel
theorem dL_writes_326 : decode cL_writes 326 = .ok (.invokestatic 75, 3) := by decide +kernel
theorem dL_writes_329 : decode cL_writes 329 = .ok (.iconst 1, 1) := by decide +kernel
theorem dL_writes_330 : decode cL_writes 330 = .ok (.iload 7, 2) := by decide +kernel
theorem dL_writes_332 : decode cL_writes 332 = .ok (.ishl, 1) := by decide +kernel
theorem dL_writes_333 : decode cL_writes 333 = .ok (.iconst (-1), 1) := by decide +kernel
theorem dL_writes_334 : decode cL_writes 334 = .ok (.ixor, 1) := by decide +kernel
theorem dL_writes_335 : decode cL_writes 335 = .ok (.iand, 1) := by decide +kernel
theorem dL_writes_336 : decode cL_writes 336 = .ok (.goto 25, 3) := by decide +kernel
theorem dL_writes_339 : decode cL_writes 339 = .ok (.iload_n 3, 1) := by decide +kernel
theorem dL_writes_340 : decode cL_writes 340 = .ok (.bipush 24, 2) := by decide +kernel
theorem dL_writes_342 : decode cL_writes 342 = .ok (.iand, 1) := by decide +kernel
theorem dL_writes_343 : decode cL_writes 343 = .ok (.bipush 8, 2) := by decide +kernel
theorem dL_writes_345 : decode cL_writes 345 = .ok (.if_icmp .ne 15, 3) := by decide +kernel
theorem dL_writes_348 : decode cL_writes 348 = .ok (.iconst 1, 1) := by decide +kernel
theorem dL_writes_349 : decode cL_writes 349 = .ok (.iload 7, 2) := by decide +kernel
theorem dL_writes_351 : decode cL_writes 351 = .ok (.iconst 1, 1) := by decide +kernel
theorem dL_writes_352 : decode cL_writes 352 = .ok (.iadd, 1) := by decide +kernel
theorem dL_writes_353 : decode cL_writes 353 = .ok (.bipush 6, 2) := by decide +kernel
theorem dL_writes_355 : decode cL_writes 355 = .ok (.irem, 1) := by decide +kernel
theorem dL_writes_356 : decode cL_writes 356 = .ok (.ishl, 1) := by decide +kernel
theorem dL_writes_357 : decode cL_writes 357 = .ok (.goto 4, 3) := by decide +kernel
theorem dL_writes_360 : decode cL_writes 360 = .ok (.iconst 0, 1) := by decide +kernel
theorem dL_writes_361 : decode cL_writes 361 = .ok (.istore 8, 2) := by decide +kernel
theorem dL_writes_363 : decode cL_writes 363 = .ok (.iload_n 3, 1) := by decide +kernel
theorem dL_writes_364 : decode cL_writes 364 = .ok (.bipush 96, 2) := by decide +kernel
theorem dL_writes_366 : decode cL_writes 366 = .ok (.iand, 1) := by decide +kernel
theorem dL_writes_367 : decode cL_writes 367 = .ok (.ifCond .ne 22, 3) := by decide +kernel
theorem dL_writes_370 : decode cL_writes 370 = .ok (.iload_n 3, 1) := by decide +kernel
theorem dL_writes_371 : decode cL_writes 371 = .ok (.bipush 12, 2) := by decide +kernel
theorem dL_writes_373 : decode cL_writes 373 = .ok (.ishr, 1) := by decide +kernel
theorem dL_writes_374 : decode cL_writes 374 = .ok (.bipush 64, 2) := by decide +kernel
theorem dL_writes_376 : decode cL_writes 376 = .ok (.invokestatic 75, 3) := by decide +kernel
theorem dL_writes_379 : decode cL_writes 379 = .ok (.iconst 1, 1) := by decide +kernel
theorem dL_writes_380 : decode cL_writes 380 = .ok (.iload 7, 2) := by decide +kernel
theorem dL_writes_382 : decode cL_writes 382 = .ok (.ishl, 1) := by decide +kernel
theorem dL_writes_383 : decode cL_writes 383 = .ok (.iconst (-1), 1) := by decide +kernel
theorem dL_writes_384 : decode cL_writes 384 = .ok (.ixor, 1) := by decide +kernel
theorem dL_writes_385 : decode cL_writes 385 = .ok (.iand, 1) := by decide +kernel
theorem dL_writes_386 : decode cL_writes 386 = .ok (.goto 4, 3) := by decide +kernel
theorem dL_writes_389 : decode cL_writes 389 = .ok (.iconst 0, 1) := by decide +kernel
theorem dL_writes_390 : decode cL_writes 390 = .ok (.istore 9, 2) := by decide +kernel
theorem dL_writes_392 : decode cL_writes 392 = .ok (.aload 5, 2) := by decide +kernel
theorem dL_writes_394 : decode cL_writes 394 = .ok (.iload 7, 2) := by decide +kernel
theorem dL_writes_396 : decode cL_writes 396 = .ok (.iload 8, 2) := by decide +kernel
theorem dL_writes_398 : decode cL_writes 398 = .ok (.sipush 1024, 3) := by decide +kernel
theorem dL_writes_401 : decode cL_writes 401 = .ok (.iload 9, 2) := by decide +kernel
theorem dL_writes_403 : decode cL_writes 403 = .ok (.imul, 1) := by decide +kernel
theorem dL_writes_404 : decode cL_writes 404 = .ok (.iadd, 1) := by decide +kernel
theorem dL_writes_405 : decode cL_writes 405 = .ok (.iastore, 1) := by decide +kernel
theorem dL_writes_406 : decode cL_writes 406 = .ok (.aload_n 0, 1) := by decide +kernel
theorem dL_writes_407 : decode cL_writes 407 = .ok (.bipush 10, 2) := by decide +kernel
theorem dL_writes_409 : decode cL_writes 409 = .ok (.iconst 0, 1) := by decide +kernel
theorem dL_writes_410 : decode cL_writes 410 = .ok (.iconst 0, 1) := by decide +kernel
theorem dL_writes_411 : decode cL_writes 411 = .ok (.invokestatic 85, 3) := by decide +kernel
theorem dL_writes_414 : decode cL_writes 414 = .ok (.bipush (-72), 2) := by decide +kernel
theorem dL_writes_416 : decode cL_writes 416 = .ok (.if_icmp .ne 80, 3) := by decide +kernel
theorem dL_writes_419 : decode cL_writes 419 = .ok (.aload_n 0, 1) := by decide +kernel
theorem dL_writes_420 : decode cL_writes 420 = .ok (.iload 7, 2) := by decide +kernel
theorem dL_writes_422 : decode cL_writes 422 = .ok (.sipush 1024, 3) := by decide +kernel
theorem dL_writes_425 : decode cL_writes 425 = .ok (.iconst 0, 1) := by decide +kernel
theorem dL_writes_426 : decode cL_writes 426 = .ok (.invokestatic 85, 3) := by decide +kernel
theorem dL_writes_429 : decode cL_writes 429 = .ok (.bipush (-72), 2) := by decide +kernel
theorem dL_writes_431 : decode cL_writes 431 = .ok (.if_icmp .ne 65, 3) := by decide +kernel
theorem dL_writes_434 : decode cL_writes 434 = .ok (.aload_n 0, 1) := by decide +kernel
theorem dL_writes_435 : decode cL_writes 435 = .ok (.iload 7, 2) := by decide +kernel
theorem dL_writes_437 : decode cL_writes 437 = .ok (.iconst 0, 1) := by decide +kernel
theorem dL_writes_438 : decode cL_writes 438 = .ok (.iconst (-1), 1) := by decide +kernel
theorem dL_writes_439 : decode cL_writes 439 = .ok (.invokestatic 85, 3) := by decide +kernel
theorem dL_writes_442 : decode cL_writes 442 = .ok (.bipush (-72), 2) := by decide +kernel
theorem dL_writes_444 : decode cL_writes 444 = .ok (.if_icmp .ne 52, 3) := by decide +kernel
theorem dL_writes_447 : decode cL_writes 447 = .ok (.aload_n 0, 1) := by decide +kernel
theorem dL_writes_448 : decode cL_writes 448 = .ok (.iload 7, 2) := by decide +kernel
theorem dL_writes_450 : decode cL_writes 450 = .ok (.iconst 1, 1) := by decide +kernel
theorem dL_writes_451 : decode cL_writes 451 = .ok (.iload 7, 2) := by decide +kernel
theorem dL_writes_453 : decode cL_writes 453 = .ok (.ishl, 1) := by decide +kernel
theorem dL_writes_454 : decode cL_writes 454 = .ok (.iconst 0, 1) := by decide +kernel
theorem dL_writes_455 : decode cL_writes 455 = .ok (.invokestatic 85, 3) := by decide +kernel
theorem dL_writes_458 : decode cL_writes 458 = .ok (.bipush (-72), 2) := by decide +kernel
theorem dL_writes_460 : decode cL_writes 460 = .ok (.if_icmp .ne 36, 3) := by decide +kernel
theorem dL_writes_463 : decode cL_writes 463 = .ok (.aload_n 0, 1) := by decide +kernel
theorem dL_writes_464 : decode cL_writes 464 = .ok (.iload 7, 2) := by decide +kernel
theorem dL_writes_466 : decode cL_writes 466 = .ok (.iconst 0, 1) := by decide +kernel
theorem dL_writes_467 : decode cL_writes 467 = .ok (.iconst 1, 1) := by decide +kernel
theorem dL_writes_468 : decode cL_writes 468 = .ok (.iload 7, 2) := by decide +kernel
theorem dL_writes_470 : decode cL_writes 470 = .ok (.ishl, 1) := by decide +kernel
theorem dL_writes_471 : decode cL_writes 471 = .ok (.invokestatic 85, 3) := by decide +kernel
theorem dL_writes_474 : decode cL_writes 474 = .ok (.bipush (-72), 2) := by decide +kernel
theorem dL_writes_476 : decode cL_writes 476 = .ok (.if_icmp .ne 20, 3) := by decide +kernel
theorem dL_writes_479 : decode cL_writes 479 = .ok (.aload_n 0, 1) := by decide +kernel
theorem dL_writes_480 : decode cL_writes 480 = .ok (.iload 7, 2) := by decide +kernel
theorem dL_writes_482 : decode cL_writes 482 = .ok (.iload 8, 2) := by decide +kernel
theorem dL_writes_484 : decode cL_writes 484 = .ok (.iload 9, 2) := by decide +kernel
theorem dL_writes_486 : decode cL_writes 486 = .ok (.invokestatic 85, 3) := by decide +kernel
theorem dL_writes_489 : decode cL_writes 489 = .ok (.ifCond .ne 7, 3) := by decide +kernel
theorem dL_writes_492 : decode cL_writes 492 = .ok (.iconst 1, 1) := by decide +kernel
theorem dL_writes_493 : decode cL_writes 493 = .ok (.goto 4, 3) := by decide +kernel
theorem dL_writes_496 : decode cL_writes 496 = .ok (.iconst 0, 1) := by decide +kernel
theorem dL_writes_497 : decode cL_writes 497 = .ok (.ireturn, 1) := by decide +kernel
theorem dL_reason_0 : decode cL_reason 0 = .ok (.aload_n 2, 1) := by decide +kernel
theorem dL_reason_1 : decode cL_reason 1 = .ok (.iload_n 3, 1) := by decide +kernel
theorem dL_reason_2 : decode cL_reason 2 = .ok (.iaload, 1) := by decide +kernel
theorem dL_reason_3 : decode cL_reason 3 = .ok (.iconst 4, 1) := by decide +kernel
theorem dL_reason_4 : decode cL_reason 4 = .ok (.if_icmp .ne 5, 3) := by decide +kernel
theorem dL_reason_7 : decode cL_reason 7 = .ok (.iconst 1, 1) := by decide +kernel
theorem dL_reason_8 : decode cL_reason 8 = .ok (.ireturn, 1) := by decide +kernel
theorem dL_reason_9 : decode cL_reason 9 = .ok (.iconst 0, 1) := by decide +kernel
theorem dL_reason_10 : decode cL_reason 10 = .ok (.istore 4, 2) := by decide +kernel
theorem dL_reason_12 : decode cL_reason 12 = .ok (.iconst 1, 1) := by decide +kernel
theorem dL_reason_13 : decode cL_reason 13 = .ok (.istore 5, 2) := by decide +kernel
theorem dL_reason_15 : decode cL_reason 15 = .ok (.iconst 0, 1) := by decide +kernel
theorem dL_reason_16 : decode cL_reason 16 = .ok (.istore 6, 2) := by decide +kernel
theorem dL_reason_18 : decode cL_reason 18 = .ok (.iload 6, 2) := by decide +kernel
theorem dL_reason_20 : decode cL_reason 20 = .ok (.bipush 6, 2) := by decide +kernel
theorem dL_reason_22 : decode cL_reason 22 = .ok (.if_icmp .ge 55, 3) := by decide +kernel
theorem dL_reason_25 : decode cL_reason 25 = .ok (.aload_n 1, 1) := by decide +kernel
theorem dL_reason_26 : decode cL_reason 26 = .ok (.bipush 6, 2) := by decide +kernel
theorem dL_reason_28 : decode cL_reason 28 = .ok (.iload_n 3, 1) := by decide +kernel
theorem dL_reason_29 : decode cL_reason 29 = .ok (.imul, 1) := by decide +kernel
theorem dL_reason_30 : decode cL_reason 30 = .ok (.iload 6, 2) := by decide +kernel
theorem dL_reason_32 : decode cL_reason 32 = .ok (.iadd, 1) := by decide +kernel
theorem dL_reason_33 : decode cL_reason 33 = .ok (.iaload, 1) := by decide +kernel
theorem dL_reason_34 : decode cL_reason 34 = .ok (.istore 7, 2) := by decide +kernel
theorem dL_reason_36 : decode cL_reason 36 = .ok (.iload 7, 2) := by decide +kernel
theorem dL_reason_38 : decode cL_reason 38 = .ok (.ifCond .ne 6, 3) := by decide +kernel
theorem dL_reason_41 : decode cL_reason 41 = .ok (.goto 30, 3) := by decide +kernel
theorem dL_reason_44 : decode cL_reason 44 = .ok (.iload 4, 2) := by decide +kernel
theorem dL_reason_46 : decode cL_reason 46 = .ok (.iconst 1, 1) := by decide +kernel
theorem dL_reason_47 : decode cL_reason 47 = .ok (.iload 6, 2) := by decide +kernel
theorem dL_reason_49 : decode cL_reason 49 = .ok (.ishl, 1) := by decide +kernel
theorem dL_reason_50 : decode cL_reason 50 = .ok (.ior, 1) := by decide +kernel
theorem dL_reason_51 : decode cL_reason 51 = .ok (.istore 4, 2) := by decide +kernel
theorem dL_reason_53 : decode cL_reason 53 = .ok (.iload 5, 2) := by decide +kernel
theorem dL_reason_55 : decode cL_reason 55 = .ok (.iload 7, 2) := by decide +kernel
theorem dL_reason_57 : decode cL_reason 57 = .ok (.iconst 4, 1) := by decide +kernel
theorem dL_reason_58 : decode cL_reason 58 = .ok (.ishr, 1) := by decide +kernel
theorem dL_reason_59 : decode cL_reason 59 = .ok (.iconst 5, 1) := by decide +kernel
theorem dL_reason_60 : decode cL_reason 60 = .ok (.if_icmp .ne 7, 3) := by decide +kernel
theorem dL_reason_63 : decode cL_reason 63 = .ok (.iconst 1, 1) := by decide +kernel
theorem dL_reason_64 : decode cL_reason 64 = .ok (.goto 4, 3) := by decide +kernel
theorem dL_reason_67 : decode cL_reason 67 = .ok (.iconst 0, 1) := by decide +kernel
theorem dL_reason_68 : decode cL_reason 68 = .ok (.iand, 1) := by decide +kernel
theorem dL_reason_69 : decode cL_reason 69 = .ok (.istore 5, 2) := by decide +kernel
theorem dL_reason_71 : decode cL_reason 71 = .ok (.iinc 6 1, 3) := by decide +kernel
theorem dL_reason_74 : decode cL_reason 74 = .ok (.goto (-56), 3) := by decide +kernel
theorem dL_reason_77 : decode cL_reason 77 = .ok (.iload 4, 2) := by decide +kernel
theorem dL_reason_79 : decode cL_reason 79 = .ok (.ifCond .ne 5, 3) := by decide +kernel
theorem dL_reason_82 : decode cL_reason 82 = .ok (.iconst 2, 1) := by decide +kernel
theorem dL_reason_83 : decode cL_reason 83 = .ok (.ireturn, 1) := by decide +kernel
theorem dL_reason_84 : decode cL_reason 84 = .ok (.iload 5, 2) := by decide +kernel
theorem dL_reason_86 : decode cL_reason 86 = .ok (.ifCond .ne 5, 3) := by decide +kernel
theorem dL_reason_89 : decode cL_reason 89 = .ok (.iconst 3, 1) := by decide +kernel
theorem dL_reason_90 : decode cL_reason 90 = .ok (.ireturn, 1) := by decide +kernel
theorem dL_reason_91 : decode cL_reason 91 = .ok (.iconst 0, 1) := by decide +kernel
theorem dL_reason_92 : decode cL_reason 92 = .ok (.istore 6, 2) := by decide +kernel
theorem dL_reason_94 : decode cL_reason 94 = .ok (.iconst 0, 1) := by decide +kernel
theorem dL_reason_95 : decode cL_reason 95 = .ok (.istore 7, 2) := by decide +kernel
theorem dL_reason_97 : decode cL_reason 97 = .ok (.iconst 0, 1) := by decide +kernel
theorem dL_reason_98 : decode cL_reason 98 = .ok (.istore 8, 2) := by decide +kernel
theorem dL_reason_100 : decode cL_reason 100 = .ok (.iload 8, 2) := by decide +kernel
theorem dL_reason_102 : decode cL_reason 102 = .ok (.bipush 6, 2) := by decide +kernel
theorem dL_reason_104 : decode cL_reason 104 = .ok (.if_icmp .ge 71, 3) := by decide +kernel
theorem dL_reason_107 : decode cL_reason 107 = .ok (.iload 4, 2) := by decide +kernel
theorem dL_reason_109 : decode cL_reason 109 = .ok (.iload 8, 2) := by decide +kernel
theorem dL_reason_111 : decode cL_reason 111 = .ok (.ishr, 1) := by decide +kernel
theorem dL_reason_112 : decode cL_reason 112 = .ok (.iconst 1, 1) := by decide +kernel
theorem dL_reason_113 : decode cL_reason 113 = .ok (.iand, 1) := by decide +kernel
theorem dL_reason_114 : decode cL_reason 114 = .ok (.ifCond .ne 6, 3) := by decide +kernel
theorem dL_reason_117 : decode cL_reason 117 = .ok (.goto 52, 3) := by decide +kernel
theorem dL_reason_120 : decode cL_reason 120 = .ok (.iload 6, 2) := by decide +kernel
theorem dL_reason_122 : decode cL_reason 122 = .ok (.aload_n 0, 1) := by decide +kernel
theorem dL_reason_123 : decode cL_reason 123 = .ok (.iload 8, 2) := by decide +kernel
theorem dL_reason_125 : decode cL_reason 125 = .ok (.iaload, 1) := by decide +kernel
theorem dL_reason_126 : decode cL_reason 126 = .ok (.sipush 1023, 3) := by decide +kernel
theorem dL_reason_129 : decode cL_reason 129 = .ok (.iand, 1) := by decide +kernel
theorem dL_reason_130 : decode cL_reason 130 = .ok (.iload 4, 2) := by decide +kernel
theorem dL_reason_132 : decode cL_reason 132 = .ok (.iconst (-1), 1) := by decide +kernel
theorem dL_reason_133 : decode cL_reason 133 = .ok (.ixor, 1) := by decide +kernel
theorem dL_reason_134 : decode cL_reason 134 = .ok (.iand, 1) := by decide +kernel
theorem dL_reason_135 : decode cL_reason 135 = .ok (.ifCond .eq 7, 3) := by decide +kernel
theorem dL_reason_138 : decode cL_reason 138 = .ok (.iconst 1, 1) := by decide +kernel
theorem dL_reason_139 : decode cL_reason 139 = .ok (.goto 4, 3) := by decide +kernel
theorem dL_reason_142 : decode cL_reason 142 = .ok (.iconst 0, 1) := by decide +kernel
theorem dL_reason_143 : decode cL_reason 143 = .ok (.ior, 1) := by decide +kernel
theorem dL_reason_144 : decode cL_reason 144 = .ok (.istore 6, 2) := by decide +kernel
theorem dL_reason_146 : decode cL_reason 146 = .ok (.iload 7, 2) := by decide +kernel
theorem dL_reason_148 : decode cL_reason 148 = .ok (.aload_n 0, 1) := by decide +kernel
theorem dL_reason_149 : decode cL_reason 149 = .ok (.iload 8, 2) := by decide +kernel
theorem dL_reason_151 : decode cL_reason 151 = .ok (.iaload, 1) := by decide +kernel
theorem dL_reason_152 : decode cL_reason 152 = .ok (.bipush 10, 2) := by decide +kernel
theorem dL_reason_154 : decode cL_reason 154 = .ok (.ishr, 1) := by decide +kernel
theorem dL_reason_155 : decode cL_reason 155 = .ok (.iload 4, 2) := by decide +kernel
theorem dL_reason_157 : decode cL_reason 157 = .ok (.iand, 1) := by decide +kernel
theorem dL_reason_158 : decode cL_reason 158 = .ok (.ifCond .eq 7, 3) := by decide +kernel
theorem dL_reason_161 : decode cL_reason 161 = .ok (.iconst 1, 1) := by decide +kernel
theorem dL_reason_162 : decode cL_reason 162 = .ok (.goto 4, 3) := by decide +kernel
theorem dL_reason_165 : decode cL_reason 165 = .ok (.iconst 0, 1) := by decide +kernel
theorem dL_reason_166 : decode cL_reason 166 = .ok (.ior, 1) := by decide +kernel
theorem dL_reason_167 : decode cL_reason 167 = .ok (.istore 7, 2) := by decide +kernel
theorem dL_reason_169 : decode cL_reason 169 = .ok (.iinc 8 1, 3) := by decide +kernel
theorem dL_reason_172 : decode cL_reason 172 = .ok (.goto (-72), 3) := by decide +kernel
theorem dL_reason_175 : decode cL_reason 175 = .ok (.iload 6, 2) := by decide +kernel
theorem dL_reason_177 : decode cL_reason 177 = .ok (.ifCond .eq 7, 3) := by decide +kernel
theorem dL_reason_180 : decode cL_reason 180 = .ok (.iconst 4, 1) := by decide +kernel
theorem dL_reason_181 : decode cL_reason 181 = .ok (.goto 13, 3) := by decide +kernel
theorem dL_reason_184 : decode cL_reason 184 = .ok (.iload 7, 2) := by decide +kernel
theorem dL_reason_186 : decode cL_reason 186 = .ok (.ifCond .eq 7, 3) := by decide +kernel
theorem dL_reason_189 : decode cL_reason 189 = .ok (.iconst 5, 1) := by decide +kernel
theorem dL_reason_190 : decode cL_reason 190 = .ok (.goto 4, 3) := by decide +kernel
theorem dL_reason_193 : decode cL_reason 193 = .ok (.iconst 0, 1) := by decide +kernel
theorem dL_reason_194 : decode cL_reason 194 = .ok (.ireturn, 1) := by decide +kernel
set_option maxRecDepth 20000 in
theorem ggL_drafts_L_low : GoodIn wsL_drafts wsL_low := goodIn_r _ [5] (by decide +kernel) (by decide +kernel)
set_option maxRecDepth 20000 in
theorem gL_drafts_L_low : GoodIn wsL_drafts (va_wsS RL 75 yL_low wsL_low) := goodIn_app (goodIn_of _ (by decide +kernel)) ggL_drafts_L_low
set_option maxRecDepth 20000 in
theorem ggL_drafts_L_begin : GoodIn wsL_drafts wsL_begin := goodIn_ca (goodIn_r _ [8, 9, 10, 11, 12, 13, 14, 15, 16, 17, 18, 19, 20, 21, 22, 23, 24, 25, 26, 27, 28, 29, 30, 31, 32, 33, 34, 35, 36, 37, 38, 39, 40, 41, 42, 43, 44, 45, 46, 47, 48, 49, 50, 51, 52, 53, 54, 55, 56, 57, 58, 59, 60, 61, 62, 63, 64, 65, 66, 67, 68, 69, 70, 71, 72, 73, 74, 75, 76, 77, 78, 79, 80, 81, 82, 83, 84, 85, 86, 87, 88, 89, 90, 91, 92, 93, 94, 258, 259, 260, 261, 262, 263, 264, 265, 266, 267, 268, 269, 270, 271] (by decide +kernel) (by decide +kernel)) (goodIn_sub (fun _ h => List.mem_cons_of_mem _ (List.mem_append_left _ (List.mem_append_left _ (List.mem_append_right _ h)))) (by decide +kernel))
set_option maxRecDepth 20000 in
theorem gL_drafts_L_begin : GoodIn wsL_drafts (va_wsS RL 88 yL_begin wsL_begin) := goodIn_app (goodIn_of _ (by decide +kernel)) ggL_drafts_L_begin
set_option maxRecDepth 20000 in
theorem ggL_drafts_L_mark : GoodIn wsL_drafts wsL_mark := goodIn_ca (goodIn_ca (goodIn_ca (goodIn_r _ [97, 98, 99, 9, 100, 101, 102, 13, 103, 104, 105, 15, 16, 106, 107, 108, 109, 110, 111, 112, 113, 114, 17, 115, 21, 22, 23, 24, 25, 26, 116, 117, 118, 119, 120, 121, 122, 123, 124, 125, 126, 127, 128, 129, 130, 131, 132, 133, 134, 47, 135, 136, 137, 138, 139, 140, 141, 142, 143, 144, 145, 146, 20, 147, 38, 148, 149, 150, 151, 33, 36, 152, 153, 154, 155, 156, 157, 158, 159, 264, 265, 266, 267, 268, 258, 259, 260, 261, 262, 263, 269, 270, 271] (by decide +kernel) (by decide +kernel)) (goodIn_sub (fun _ h => List.mem_cons_of_mem _ (List.mem_append_left _ (List.mem_append_right _ h))) (by decide +kernel))) (goodIn_sub (fun _ h => List.mem_cons_of_mem _ (List.mem_append_left _ (List.mem_append_left _ (List.mem_append_right _ h)))) (by decide +kernel))) (goodIn_sub (fun _ h => List.mem_cons_of_mem _ (List.mem_append_right _ h)) (by decide +kernel))
set_option maxRecDepth 20000 in
theorem gL_drafts_L_mark : GoodIn wsL_drafts (va_wsS RL 91 yL_mark wsL_mark) := goodIn_app (goodIn_of _ (by decide +kernel)) ggL_drafts_L_mark
set_option maxRecDepth 20000 in
theorem ggL_drafts_L_renew : GoodIn wsL_drafts wsL_renew := goodIn_ca (goodIn_ca (goodIn_ca (goodIn_r _ [162, 98, 99, 9, 163, 164, 165, 13, 166, 15, 16, 107, 109, 110, 111, 112, 113, 114, 17, 115, 21, 22, 23, 24, 25, 26, 116, 117, 118, 119, 120, 121, 122, 123, 124, 125, 126, 127, 128, 129, 130, 131, 132, 133, 134, 47, 135, 136, 137, 104, 105, 138, 139, 140, 141, 142, 143, 144, 145, 146, 20, 147, 38, 167, 168, 169, 170, 106, 171, 172, 173, 174, 175, 176, 177, 178, 179, 180, 181, 148, 149, 150, 151, 33, 36, 152, 153, 154, 155, 258, 259, 260, 261, 262, 263, 269, 270, 271, 264, 265, 266, 267, 268, 272, 273, 274, 275, 276] (by decide +kernel) (by decide +kernel)) (goodIn_sub (fun _ h => List.mem_cons_of_mem _ (List.mem_append_left _ (List.mem_append_left _ (List.mem_append_right _ h)))) (by decide +kernel))) (goodIn_sub (fun _ h => List.mem_cons_of_mem _ (List.mem_append_right _ h)) (by decide +kernel))) (goodIn_sub (fun _ h => List.mem_cons_of_mem _ (List.mem_append_left _ (List.mem_append_right _ h))) (by decide +kernel))
set_option maxRecDepth 20000 in
theorem gL_drafts_L_renew : GoodIn wsL_drafts (va_wsS RL 94 yL_renew wsL_renew) := goodIn_app (goodIn_of _ (by decide +kernel)) ggL_drafts_L_renew
set_option maxRecDepth 20000 in
theorem ggL_drafts_L_sign : GoodIn wsL_drafts wsL_sign := goodIn_ca (goodIn_ca (goodIn_ca (goodIn_r _ [184, 98, 99, 9, 185, 186, 187, 13, 188, 15, 16, 189, 109, 110, 111, 112, 113, 114, 17, 115, 21, 22, 23, 24, 25, 26, 116, 117, 118, 119, 120, 121, 122, 123, 124, 125, 126, 127, 128, 129, 130, 131, 132, 133, 134, 47, 135, 136, 137, 104, 105, 190, 191, 192, 193, 194, 195, 196, 197, 198, 20, 199, 33, 144, 145, 146, 147, 38, 200, 201, 202, 203, 36, 204, 205, 206, 207, 208, 209, 210, 106, 211, 212, 213, 214, 215, 216, 217, 218, 219, 220, 30, 31, 221, 222, 223, 224, 41, 42, 43, 44, 45, 46, 48, 49, 50, 51, 52, 53, 54, 55, 56, 57, 58, 59, 60, 61, 62, 63, 64, 65, 66, 67, 68, 69, 70, 71, 72, 73, 74, 75, 76, 77, 78, 79, 80, 81, 82, 83, 84, 85, 86, 87, 88, 89, 90, 91, 92, 93, 94, 264, 265, 266, 267, 268, 258, 259, 260, 261, 262, 263, 269, 270, 271, 277, 278, 279, 280, 272, 273, 274, 275, 276] (by decide +kernel) (by decide +kernel)) (goodIn_sub (fun _ h => List.mem_cons_of_mem _ (List.mem_append_left _ (List.mem_append_left _ (List.mem_append_right _ h)))) (by decide +kernel))) (goodIn_sub (fun _ h => List.mem_cons_of_mem _ (List.mem_append_right _ h)) (by decide +kernel))) (goodIn_sub (fun _ h => List.mem_cons_of_mem _ (List.mem_append_left _ (List.mem_append_right _ h))) (by decide +kernel))
set_option maxRecDepth 20000 in
theorem gL_drafts_L_sign : GoodIn wsL_drafts (va_wsS RL 96 yL_sign wsL_sign) := goodIn_app (goodIn_of _ (by decide +kernel)) ggL_drafts_L_sign
set_option maxRecDepth 20000 in
theorem ggL_drafts_L_version : GoodIn wsL_drafts wsL_version := goodIn_ca (goodIn_ca (goodIn_r _ [227, 98, 99, 228, 229, 230, 13, 231, 109, 110, 111, 112, 113, 114, 17, 115, 21, 22, 23, 24, 25, 26, 116, 117, 118, 119, 120, 121, 122, 123, 124, 125, 126, 127, 128, 129, 130, 131, 132, 133, 134, 47, 138, 139, 140, 104, 105, 171, 172, 173, 106, 174, 175, 176, 177, 258, 259, 260, 261, 262, 263, 269, 270, 271, 264, 265, 266, 267, 268, 272, 273, 274, 275, 276] (by decide +kernel) (by decide +kernel)) (goodIn_sub (fun _ h => List.mem_cons_of_mem _ (List.mem_append_right _ h)) (by decide +kernel))) (goodIn_sub (fun _ h => List.mem_cons_of_mem _ (List.mem_append_left _ (List.mem_append_right _ h))) (by decide +kernel))
set_option maxRecDepth 20000 in
theorem gL_drafts_L_version : GoodIn wsL_drafts (va_wsS RL 99 yL_version wsL_version) := goodIn_app (goodIn_of _ (by decide +kernel)) ggL_drafts_L_version
set_option maxRecDepth 20000 in
theorem ggL_drafts_L_offered : GoodIn wsL_drafts wsL_offered := goodIn_ca (goodIn_r _ [234, 98, 235, 236, 237, 13, 238, 109, 110, 111, 112, 113, 114, 17, 115, 21, 22, 23, 24, 25, 26, 116, 117, 118, 119, 120, 121, 122, 123, 124, 125, 126, 127, 128, 129, 130, 131, 132, 133, 134, 47, 144, 145, 146, 20, 147, 38, 167, 168, 169, 170, 106, 171, 172, 173, 174, 175, 176, 177, 178, 179, 180, 181, 107, 258, 259, 260, 261, 262, 263, 269, 270, 271, 264, 265, 266, 267, 268, 272, 273, 274, 275, 276] (by decide +kernel) (by decide +kernel)) (goodIn_sub (fun _ h => List.mem_cons_of_mem _ (List.mem_append_right _ h)) (by decide +kernel))
set_option maxRecDepth 20000 in
theorem gL_drafts_L_offered : GoodIn wsL_drafts (va_wsS RL 101 yL_offered wsL_offered) := goodIn_app (goodIn_of _ (by decide +kernel)) ggL_drafts_L_offered
set_option maxRecDepth 20000 in
theorem ggL_drafts_L_whyNot : GoodIn wsL_drafts wsL_whyNot := goodIn_ca (goodIn_r _ [241, 98, 242, 243, 244, 13, 245, 109, 110, 111, 112, 113, 114, 17, 115, 21, 22, 23, 24, 25, 26, 116, 117, 118, 119, 120, 121, 122, 123, 124, 125, 126, 127, 128, 129, 130, 131, 132, 133, 134, 47, 190, 191, 192, 193, 194, 195, 196, 197, 198, 20, 199, 33, 144, 145, 146, 147, 38, 200, 201, 202, 203, 36, 204, 205, 206, 258, 259, 260, 261, 262, 263, 269, 270, 271, 264, 265, 266, 267, 268] (by decide +kernel) (by decide +kernel)) (goodIn_sub (fun _ h => List.mem_cons_of_mem _ (List.mem_append_right _ h)) (by decide +kernel))
set_option maxRecDepth 20000 in
theorem gL_drafts_L_whyNot : GoodIn wsL_drafts (va_wsS RL 104 yL_whyNot wsL_whyNot) := goodIn_app (goodIn_of _ (by decide +kernel)) ggL_drafts_L_whyNot
set_option maxRecDepth 20000 in
theorem ggL_drafts_L_owes : GoodIn wsL_drafts wsL_owes := goodIn_ca (goodIn_ca (goodIn_r _ [248, 98, 99, 249, 250, 251, 13, 252, 253, 254, 62, 63, 64, 109, 110, 111, 112, 113, 114, 17, 115, 21, 22, 23, 24, 25, 26, 116, 117, 118, 119, 120, 121, 122, 123, 124, 125, 126, 127, 128, 129, 130, 131, 132, 133, 134, 47, 135, 136, 137, 104, 105, 264, 265, 266, 267, 268, 258, 259, 260, 261, 262, 263, 269, 270, 271] (by decide +kernel) (by decide +kernel)) (goodIn_sub (fun _ h => List.mem_cons_of_mem _ (List.mem_append_right _ h)) (by decide +kernel))) (goodIn_sub (fun _ h => List.mem_cons_of_mem _ (List.mem_append_left _ (List.mem_append_right _ h))) (by decide +kernel))
set_option maxRecDepth 20000 in
theorem gL_drafts_L_owes : GoodIn wsL_drafts (va_wsS RL 106 yL_owes wsL_owes) := goodIn_app (goodIn_of _ (by decide +kernel)) ggL_drafts_L_owes
set_option maxRecDepth 20000 in
theorem ggL_drafts_L_reason : GoodIn wsL_drafts wsL_reason := goodIn_r _ [257] (by decide +kernel) (by decide +kernel)
set_option maxRecDepth 20000 in
theorem gL_drafts_L_reason : GoodIn wsL_drafts (va_wsS RL 108 yL_reason wsL_reason) := goodIn_app (goodIn_of _ (by decide +kernel)) ggL_drafts_L_reason
theorem dL_drafts_0 : decode cL_drafts 0 = .ok (.iload_n 2, 1) := by decide +kernel
theorem dL_drafts_1 : decode cL_drafts 1 = .ok (.bipush 96, 2) := by decide +kernel
theorem dL_drafts_3 : decode cL_drafts 3 = .ok (.iand, 1) := by decide +kernel
theorem dL_drafts_4 : decode cL_drafts 4 = .ok (.ifCond .ne 19, 3) := by decide +kernel
theorem dL_drafts_7 : decode cL_drafts 7 = .ok (.iload_n 2, 1) := by decide +kernel
theorem dL_drafts_8 : decode cL_drafts 8 = .ok (.bipush 7, 2) := by decide +kernel
theorem dL_drafts_10 : decode cL_drafts 10 = .ok (.ishr, 1) := by decide +kernel
theorem dL_drafts_11 : decode cL_drafts 11 = .ok (.aload 11, 2) := by decide +kernel
theorem dL_drafts_13 : decode cL_drafts 13 = .ok (.iconst 1, 1) := by decide +kernel
theorem dL_drafts_14 : decode cL_drafts 14 = .ok (.iaload, 1) := by decide +kernel
theorem dL_drafts_15 : decode cL_drafts 15 = .ok (.iconst 1, 1) := by decide +kernel
theorem dL_drafts_16 : decode cL_drafts 16 = .ok (.iadd, 1) := by decide +kernel
theorem dL_drafts_17 : decode cL_drafts 17 = .ok (.invokestatic 75, 3) := by decide +kernel
theorem dL_drafts_20 : decode cL_drafts 20 = .ok (.goto 9, 3) := by decide +kernel
theorem dL_drafts_23 : decode cL_drafts 23 = .ok (.aload 11, 2) := by decide +kernel
theorem dL_drafts_25 : decode cL_drafts 25 = .ok (.iconst 1, 1) := by decide +kernel
theorem dL_drafts_26 : decode cL_drafts 26 = .ok (.iaload, 1) := by decide +kernel
theorem dL_drafts_27 : decode cL_drafts 27 = .ok (.iconst 1, 1) := by decide +kernel
theorem dL_drafts_28 : decode cL_drafts 28 = .ok (.isub, 1) := by decide +kernel
theorem dL_drafts_29 : decode cL_drafts 29 = .ok (.istore 12, 2) := by decide +kernel
theorem dL_drafts_31 : decode cL_drafts 31 = .ok (.iload_n 3, 1) := by decide +kernel
theorem dL_drafts_32 : decode cL_drafts 32 = .ok (.iconst 1, 1) := by decide +kernel
theorem dL_drafts_33 : decode cL_drafts 33 = .ok (.iand, 1) := by decide +kernel
theorem dL_drafts_34 : decode cL_drafts 34 = .ok (.istore 13, 2) := by decide +kernel
theorem dL_drafts_36 : decode cL_drafts 36 = .ok (.iload_n 3, 1) := by decide +kernel
theorem dL_drafts_37 : decode cL_drafts 37 = .ok (.iconst 1, 1) := by decide +kernel
theorem dL_drafts_38 : decode cL_drafts 38 = .ok (.ishr, 1) := by decide +kernel
theorem dL_drafts_39 : decode cL_drafts 39 = .ok (.iload_n 3, 1) := by decide +kernel
theorem dL_drafts_40 : decode cL_drafts 40 = .ok (.sipush 12288, 3) := by decide +kernel
theorem dL_drafts_43 : decode cL_drafts 43 = .ok (.iand, 1) := by decide +kernel
theorem dL_drafts_44 : decode cL_drafts 44 = .ok (.ifCond .ne 8, 3) := by decide +kernel
theorem dL_drafts_47 : decode cL_drafts 47 = .ok (.bipush 6, 2) := by decide +kernel
theorem dL_drafts_49 : decode cL_drafts 49 = .ok (.goto 4, 3) := by decide +kernel
theorem dL_drafts_52 : decode cL_drafts 52 = .ok (.iconst 3, 1) := by decide +kernel
theorem dL_drafts_53 : decode cL_drafts 53 = .ok (.invokestatic 75, 3) := by decide +kernel
theorem dL_drafts_56 : decode cL_drafts 56 = .ok (.istore 14, 2) := by decide +kernel
theorem dL_drafts_58 : decode cL_drafts 58 = .ok (.iload_n 1, 1) := by decide +kernel
theorem dL_drafts_59 : decode cL_drafts 59 = .ok (.ifCond .ne 54, 3) := by decide +kernel
theorem dL_drafts_62 : decode cL_drafts 62 = .ok (.aload 11, 2) := by decide +kernel
theorem dL_drafts_64 : decode cL_drafts 64 = .ok (.iconst 1, 1) := by decide +kernel
theorem dL_drafts_65 : decode cL_drafts 65 = .ok (.iaload, 1) := by decide +kernel
theorem dL_drafts_66 : decode cL_drafts 66 = .ok (.bipush 10, 2) := by decide +kernel
theorem dL_drafts_68 : decode cL_drafts 68 = .ok (.if_icmp .ne 18, 3) := by decide +kernel
theorem dL_drafts_71 : decode cL_drafts 71 = .ok (.aload_n 0, 1) := by decide +kernel
theorem dL_drafts_72 : decode cL_drafts 72 = .ok (.invokestatic 88, 3) := by decide +kernel
theorem dL_drafts_75 : decode cL_drafts 75 = .ok (.bipush (-73), 2) := by decide +kernel
theorem dL_drafts_77 : decode cL_drafts 77 = .ok (.if_icmp .ne 7, 3) := by decide +kernel
theorem dL_drafts_80 : decode cL_drafts 80 = .ok (.iconst 1, 1) := by decide +kernel
theorem dL_drafts_81 : decode cL_drafts 81 = .ok (.goto 4, 3) := by decide +kernel
theorem dL_drafts_84 : decode cL_drafts 84 = .ok (.iconst 0, 1) := by decide +kernel
theorem dL_drafts_85 : decode cL_drafts 85 = .ok (.ireturn, 1) := by decide +kernel
theorem dL_drafts_86 : decode cL_drafts 86 = .ok (.aload 11, 2) := by decide +kernel
theorem dL_drafts_88 : decode cL_drafts 88 = .ok (.iconst 1, 1) := by decide +kernel
theorem dL_drafts_89 : decode cL_drafts 89 = .ok (.dup2, 1) := by decide +kernel
theorem dL_drafts_90 : decode cL_drafts 90 = .ok (.iaload, 1) := by decide +kernel
theorem dL_drafts_91 : decode cL_drafts 91 = .ok (.iconst 1, 1) := by decide +kernel
theorem dL_drafts_92 : decode cL_drafts 92 = .ok (.iadd, 1) := by decide +kernel
theorem dL_drafts_93 : decode cL_drafts 93 = .ok (.iastore, 1) := by decide +kernel
theorem dL_drafts_94 : decode cL_drafts 94 = .ok (.aload_n 0, 1) := by decide +kernel
theorem dL_drafts_95 : decode cL_drafts 95 = .ok (.invokestatic 88, 3) := by decide +kernel
theorem dL_drafts_98 : decode cL_drafts 98 = .ok (.aload 11, 2) := by decide +kernel
theorem dL_drafts_100 : decode cL_drafts 100 = .ok (.iconst 1, 1) := by decide +kernel
theorem dL_drafts_101 : decode cL_drafts 101 = .ok (.iaload, 1) := by decide +kernel
theorem dL_drafts_102 : decode cL_drafts 102 = .ok (.iconst 1, 1) := by decide +kernel
theorem dL_drafts_103 : decode cL_drafts 103 = .ok (.isub, 1) := by decide +kernel
theorem dL_drafts_104 : decode cL_drafts 104 = .ok (.if_icmp .ne 7, 3) := by decide +kernel
theorem dL_drafts_107 : decode cL_drafts 107 = .ok (.iconst 1, 1) := by decide +kernel
theorem dL_drafts_108 : decode cL_drafts 108 = .ok (.goto 4, 3) := by decide +kernel
theorem dL_drafts_111 : decode cL_drafts 111 = .ok (.iconst 0, 1) := by decide +kernel
theorem dL_drafts_112 : decode cL_drafts 112 = .ok (.ireturn, 1) := by decide +kernel
theorem dL_drafts_113 : decode cL_drafts 113 = .ok (.iload 12, 2) := by decide +kernel
theorem dL_drafts_115 : decode cL_drafts 115 = .ok (.aload 11, 2) := by decide +kernel
theorem dL_drafts_117 : decode cL_drafts 117 = .ok (.iconst 1, 1) := by decide +kernel
theorem dL_drafts_118 : decode cL_drafts 118 = .ok (.iaload, 1) := by decide +kernel
theorem dL_drafts_119 : decode cL_drafts 119 = .ok (.if_icmp .eq 8, 3) := by decide +kernel
theorem dL_drafts_122 : decode cL_drafts 122 = .ok (.iload 12, 2) := by decide +kernel
theorem dL_drafts_124 : decode cL_drafts 124 = .ok (.ifCond .ge 103, 3) := by decide +kernel
theorem dL_drafts_127 : decode cL_drafts 127 = .ok (.aload_n 0, 1) := by decide +kernel
theorem dL_drafts_128 : decode cL_drafts 128 = .ok (.iload 12, 2) := by decide +kernel
theorem dL_drafts_130 : decode cL_drafts 130 = .ok (.iconst 2, 1) := by decide +kernel
theorem dL_drafts_131 : decode cL_drafts 131 = .ok (.iload 14, 2) := by decide +kernel
theorem dL_drafts_133 : decode cL_drafts 133 = .ok (.iconst 1, 1) := by decide +kernel
theorem dL_drafts_134 : decode cL_drafts 134 = .ok (.invokestatic 91, 3) := by decide +kernel
theorem dL_drafts_137 : decode cL_drafts 137 = .ok (.bipush (-71), 2) := by decide +kernel
theorem dL_drafts_139 : decode cL_drafts 139 = .ok (.if_icmp .ne 86, 3) := by decide +kernel
theorem dL_drafts_142 : decode cL_drafts 142 = .ok (.aload_n 0, 1) := by decide +kernel
theorem dL_drafts_143 : decode cL_drafts 143 = .ok (.aload 11, 2) := by decide +kernel
theorem dL_drafts_145 : decode cL_drafts 145 = .ok (.iconst 1, 1) := by decide +kernel
theorem dL_drafts_146 : decode cL_drafts 146 = .ok (.iaload, 1) := by decide +kernel
theorem dL_drafts_147 : decode cL_drafts 147 = .ok (.iconst 0, 1) := by decide +kernel
theorem dL_drafts_148 : decode cL_drafts 148 = .ok (.bipush 10, 2) := by decide +kernel
theorem dL_drafts_150 : decode cL_drafts 150 = .ok (.invokestatic 94, 3) := by decide +kernel
theorem dL_drafts_153 : decode cL_drafts 153 = .ok (.bipush (-71), 2) := by decide +kernel
theorem dL_drafts_155 : decode cL_drafts 155 = .ok (.if_icmp .ne 70, 3) := by decide +kernel
theorem dL_drafts_158 : decode cL_drafts 158 = .ok (.aload_n 0, 1) := by decide +kernel
theorem dL_drafts_159 : decode cL_drafts 159 = .ok (.aload 11, 2) := by decide +kernel
theorem dL_drafts_161 : decode cL_drafts 161 = .ok (.iconst 1, 1) := by decide +kernel
theorem dL_drafts_162 : decode cL_drafts 162 = .ok (.iaload, 1) := by decide +kernel
theorem dL_drafts_163 : decode cL_drafts 163 = .ok (.iconst 2, 1) := by decide +kernel
theorem dL_drafts_164 : decode cL_drafts 164 = .ok (.invokestatic 96, 3) := by decide +kernel
theorem dL_drafts_167 : decode cL_drafts 167 = .ok (.bipush (-71), 2) := by decide +kernel
theorem dL_drafts_169 : decode cL_drafts 169 = .ok (.if_icmp .ne 56, 3) := by decide +kernel
theorem dL_drafts_172 : decode cL_drafts 172 = .ok (.aload_n 0, 1) := by decide +kernel
theorem dL_drafts_173 : decode cL_drafts 173 = .ok (.iconst (-1), 1) := by decide +kernel
theorem dL_drafts_174 : decode cL_drafts 174 = .ok (.bipush 10, 2) := by decide +kernel
theorem dL_drafts_176 : decode cL_drafts 176 = .ok (.invokestatic 99, 3) := by decide +kernel
theorem dL_drafts_179 : decode cL_drafts 179 = .ok (.bipush (-71), 2) := by decide +kernel
theorem dL_drafts_181 : decode cL_drafts 181 = .ok (.if_icmp .ne 44, 3) := by decide +kernel
theorem dL_drafts_184 : decode cL_drafts 184 = .ok (.aload_n 0, 1) := by decide +kernel
theorem dL_drafts_185 : decode cL_drafts 185 = .ok (.aload 11, 2) := by decide +kernel
theorem dL_drafts_187 : decode cL_drafts 187 = .ok (.iconst 1, 1) := by decide +kernel
theorem dL_drafts_188 : decode cL_drafts 188 = .ok (.iaload, 1) := by decide +kernel
theorem dL_drafts_189 : decode cL_drafts 189 = .ok (.invokestatic 101, 3) := by decide +kernel
theorem dL_drafts_192 : decode cL_drafts 192 = .ok (.bipush (-71), 2) := by decide +kernel
theorem dL_drafts_194 : decode cL_drafts 194 = .ok (.if_icmp .ne 31, 3) := by decide +kernel
theorem dL_drafts_197 : decode cL_drafts 197 = .ok (.aload_n 0, 1) := by decide +kernel
theorem dL_drafts_198 : decode cL_drafts 198 = .ok (.iconst (-1), 1) := by decide +kernel
theorem dL_drafts_199 : decode cL_drafts 199 = .ok (.invokestatic 104, 3) := by decide +kernel
theorem dL_drafts_202 : decode cL_drafts 202 = .ok (.bipush (-71), 2) := by decide +kernel
theorem dL_drafts_204 : decode cL_drafts 204 = .ok (.if_icmp .ne 21, 3) := by decide +kernel
theorem dL_drafts_207 : decode cL_drafts 207 = .ok (.aload_n 0, 1) := by decide +kernel
theorem dL_drafts_208 : decode cL_drafts 208 = .ok (.aload 11, 2) := by decide +kernel
theorem dL_drafts_210 : decode cL_drafts 210 = .ok (.iconst 1, 1) := by decide +kernel
theorem dL_drafts_211 : decode cL_drafts 211 = .ok (.iaload, 1) := by decide +kernel
theorem dL_drafts_212 : decode cL_drafts 212 = .ok (.iconst 2, 1) := by decide +kernel
theorem dL_drafts_213 : decode cL_drafts 213 = .ok (.invokestatic 106, 3) := by decide +kernel
theorem dL_drafts_216 : decode cL_drafts 216 = .ok (.bipush (-71), 2) := by decide +kernel
theorem dL_drafts_218 : decode cL_drafts 218 = .ok (.if_icmp .ne 7, 3) := by decide +kernel
theorem dL_drafts_221 : decode cL_drafts 221 = .ok (.iconst 1, 1) := by decide +kernel
theorem dL_drafts_222 : decode cL_drafts 222 = .ok (.goto 4, 3) := by decide +kernel
theorem dL_drafts_225 : decode cL_drafts 225 = .ok (.iconst 0, 1) := by decide +kernel
theorem dL_drafts_226 : decode cL_drafts 226 = .ok (.ireturn, 1) := by decide +kernel
theorem dL_drafts_227 : decode cL_drafts 227 = .ok (.bipush 6, 2) := by decide +kernel
theorem dL_drafts_229 : decode cL_drafts 229 = .ok (.iload 12, 2) := by decide +kernel
theorem dL_drafts_231 : decode cL_drafts 231 = .ok (.imul, 1) := by decide +kernel
theorem dL_drafts_232 : decode cL_drafts 232 = .ok (.iload 14, 2) := by decide +kernel
theorem dL_drafts_234 : decode cL_drafts 234 = .ok (.iadd, 1) := by decide +kernel
theorem dL_drafts_235 : decode cL_drafts 235 = .ok (.istore 15, 2) := by decide +kernel
theorem dL_drafts_237 : decode cL_drafts 237 = .ok (.aload 7, 2) := by decide +kernel
theorem dL_drafts_239 : decode cL_drafts 239 = .ok (.iload 15, 2) := by decide +kernel
theorem dL_drafts_241 : decode cL_drafts 241 = .ok (.iaload, 1) := by decide +kernel
theorem dL_drafts_242 : decode cL_drafts 242 = .ok (.istore 16, 2) := by decide +kernel
theorem dL_drafts_244 : decode cL_drafts 244 = .ok (.iload_n 1, 1) := by decide +kernel
theorem dL_drafts_245 : decode cL_drafts 245 = .ok (.bipush 8, 2) := by decide +kernel
theorem dL_drafts_247 : decode cL_drafts 247 = .ok (.if_icmp .ge 275, 3) := by decide +kernel
theorem dL_drafts_250 : decode cL_drafts 250 = .ok (.iload_n 3, 1) := by decide +kernel
theorem dL_drafts_251 : decode cL_drafts 251 = .ok (.ldc 80, 2) := by decide +kernel
theorem dL_drafts_253 : decode cL_drafts 253 = .ok (.iand, 1) := by decide +kernel
theorem dL_drafts_254 : decode cL_drafts 254 = .ok (.ifCond .ne 7, 3) := by decide +kernel
theorem dL_drafts_257 : decode cL_drafts 257 = .ok (.iconst 2, 1) := by decide +kernel
theorem dL_drafts_258 : decode cL_drafts 258 = .ok (.goto 4, 3) := by decide +kernel
theorem dL_drafts_261 : decode cL_drafts 261 = .ok (.iconst 1, 1) := by decide +kernel
theorem dL_drafts_262 : decode cL_drafts 262 = .ok (.istore 17, 2) := by decide +kernel
theorem dL_drafts_264 : decode cL_drafts 264 = .ok (.aload_n 0, 1) := by decide +kernel
theorem dL_drafts_265 : decode cL_drafts 265 = .ok (.iload 12, 2) := by decide +kernel
theorem dL_drafts_267 : decode cL_drafts 267 = .ok (.iconst 2, 1) := by decide +kernel
theorem dL_drafts_268 : decode cL_drafts 268 = .ok (.iload 14, 2) := by decide +kernel
theorem dL_drafts_270 : decode cL_drafts 270 = .ok (.iload 17, 2) := by decide +kernel
theorem dL_drafts_272 : decode cL_drafts 272 = .ok (.invokestatic 91, 3) := by decide +kernel
theorem dL_drafts_275 : decode cL_drafts 275 = .ok (.bipush (-72), 2) := by decide +kernel
theorem dL_drafts_277 : decode cL_drafts 277 = .ok (.if_icmp .ne 68, 3) := by decide +kernel
theorem dL_drafts_280 : decode cL_drafts 280 = .ok (.aload_n 0, 1) := by decide +kernel
theorem dL_drafts_281 : decode cL_drafts 281 = .ok (.iload 12, 2) := by decide +kernel
theorem dL_drafts_283 : decode cL_drafts 283 = .ok (.iload 13, 2) := by decide +kernel
theorem dL_drafts_285 : decode cL_drafts 285 = .ok (.bipush 10, 2) := by decide +kernel
theorem dL_drafts_287 : decode cL_drafts 287 = .ok (.iload 17, 2) := by decide +kernel
theorem dL_drafts_289 : decode cL_drafts 289 = .ok (.invokestatic 91, 3) := by decide +kernel
theorem dL_drafts_292 : decode cL_drafts 292 = .ok (.bipush (-72), 2) := by decide +kernel
theorem dL_drafts_294 : decode cL_drafts 294 = .ok (.if_icmp .ne 51, 3) := by decide +kernel
theorem dL_drafts_297 : decode cL_drafts 297 = .ok (.aload_n 0, 1) := by decide +kernel
theorem dL_drafts_298 : decode cL_drafts 298 = .ok (.iload 12, 2) := by decide +kernel
theorem dL_drafts_300 : decode cL_drafts 300 = .ok (.iload 13, 2) := by decide +kernel
theorem dL_drafts_302 : decode cL_drafts 302 = .ok (.iload 14, 2) := by decide +kernel
theorem dL_drafts_304 : decode cL_drafts 304 = .ok (.iconst 0, 1) := by decide +kernel
theorem dL_drafts_305 : decode cL_drafts 305 = .ok (.invokestatic 91, 3) := by decide +kernel
theorem dL_drafts_308 : decode cL_drafts 308 = .ok (.bipush (-72), 2) := by decide +kernel
theorem dL_drafts_310 : decode cL_drafts 310 = .ok (.if_icmp .ne 35, 3) := by decide +kernel
theorem dL_drafts_313 : decode cL_drafts 313 = .ok (.aload_n 0, 1) := by decide +kernel
theorem dL_drafts_314 : decode cL_drafts 314 = .ok (.iload 12, 2) := by decide +kernel
theorem dL_drafts_316 : decode cL_drafts 316 = .ok (.iload 13, 2) := by decide +kernel
theorem dL_drafts_318 : decode cL_drafts 318 = .ok (.iload 14, 2) := by decide +kernel
theorem dL_drafts_320 : decode cL_drafts 320 = .ok (.iconst 3, 1) := by decide +kernel
theorem dL_drafts_321 : decode cL_drafts 321 = .ok (.invokestatic 91, 3) := by decide +kernel
theorem dL_drafts_324 : decode cL_drafts 324 = .ok (.bipush (-72), 2) := by decide +kernel
theorem dL_drafts_326 : decode cL_drafts 326 = .ok (.if_icmp .ne 19, 3) := by decide +kernel
theorem dL_drafts_329 : decode cL_drafts 329 = .ok (.aload_n 0, 1) := by decide +kernel
theorem dL_drafts_330 : decode cL_drafts 330 = .ok (.iload 12, 2) := by decide +kernel
theorem dL_drafts_332 : decode cL_drafts 332 = .ok (.iconst (-1), 1) := by decide +kernel
theorem dL_drafts_333 : decode cL_drafts 333 = .ok (.iload 14, 2) := by decide +kernel
theorem dL_drafts_335 : decode cL_drafts 335 = .ok (.iload 17, 2) := by decide +kernel
theorem dL_drafts_337 : decode cL_drafts 337 = .ok (.invokestatic 91, 3) := by decide +kernel
theorem dL_drafts_340 : decode cL_drafts 340 = .ok (.bipush (-72), 2) := by decide +kernel
theorem dL_drafts_342 : decode cL_drafts 342 = .ok (.if_icmp .eq 5, 3) := by decide +kernel
theorem dL_drafts_345 : decode cL_drafts 345 = .ok (.iconst 0, 1) := by decide +kernel
theorem dL_drafts_346 : decode cL_drafts 346 = .ok (.ireturn, 1) := by decide +kernel
theorem dL_drafts_347 : decode cL_drafts 347 = .ok (.aload 8, 2) := by decide +kernel
theorem dL_drafts_349 : decode cL_drafts 349 = .ok (.iload 12, 2) := by decide +kernel
theorem dL_drafts_351 : decode cL_drafts 351 = .ok (.iaload, 1) := by decide +kernel
theorem dL_drafts_352 : decode cL_drafts 352 = .ok (.iconst 4, 1) := by decide +kernel
theorem dL_drafts_353 : decode cL_drafts 353 = .ok (.if_icmp .eq 22, 3) := by decide +kernel
theorem dL_drafts_356 : decode cL_drafts 356 = .ok (.iload 16, 2) := by decide +kernel
theorem dL_drafts_358 : decode cL_drafts 358 = .ok (.ifCond .ne 40, 3) := by decide +kernel
theorem dL_drafts_361 : decode cL_drafts 361 = .ok (.iload 17, 2) := by decide +kernel
theorem dL_drafts_363 : decode cL_drafts 363 = .ok (.iconst 2, 1) := by decide +kernel
theorem dL_drafts_364 : decode cL_drafts 364 = .ok (.if_icmp .eq 11, 3) := by decide +kernel
theorem dL_drafts_367 : decode cL_drafts 367 = .ok (.aload 4, 2) := by decide +kernel
theorem dL_drafts_369 : decode cL_drafts 369 = .ok (.iload 14, 2) := by decide +kernel
theorem dL_drafts_371 : decode cL_drafts 371 = .ok (.iaload, 1) := by decide +kernel
theorem dL_drafts_372 : decode cL_drafts 372 = .ok (.ifCond .ne 26, 3) := by decide +kernel
theorem dL_drafts_375 : decode cL_drafts 375 = .ok (.aload_n 0, 1) := by decide +kernel
theorem dL_drafts_376 : decode cL_drafts 376 = .ok (.iload 12, 2) := by decide +kernel
theorem dL_drafts_378 : decode cL_drafts 378 = .ok (.iload 13, 2) := by decide +kernel
theorem dL_drafts_380 : decode cL_drafts 380 = .ok (.iload 14, 2) := by decide +kernel
theorem dL_drafts_382 : decode cL_drafts 382 = .ok (.iload 17, 2) := by decide +kernel
theorem dL_drafts_384 : decode cL_drafts 384 = .ok (.invokestatic 91, 3) := by decide +kernel
theorem dL_drafts_387 : decode cL_drafts 387 = .ok (.bipush (-73), 2) := by decide +kernel
theorem dL_drafts_389 : decode cL_drafts 389 = .ok (.if_icmp .ne 7, 3) := by decide +kernel
theorem dL_drafts_392 : decode cL_drafts 392 = .ok (.iconst 1, 1) := by decide +kernel
theorem dL_drafts_393 : decode cL_drafts 393 = .ok (.goto 4, 3) := by decide +kernel
theorem dL_drafts_396 : decode cL_drafts 396 = .ok (.iconst 0, 1) := by decide +kernel
theorem dL_drafts_397 : decode cL_drafts 397 = .ok (.ireturn, 1) := by decide +kernel
theorem dL_drafts_398 : decode cL_drafts 398 = .ok (.iconst 4, 1) := by decide +kernel
theorem dL_drafts_399 : decode cL_drafts 399 = .ok (.iconst 2, 1) := by decide +kernel
theorem dL_drafts_400 : decode cL_drafts 400 = .ok (.iload 13, 2) := by decide +kernel
theorem dL_drafts_402 : decode cL_drafts 402 = .ok (.imul, 1) := by decide +kernel
theorem dL_drafts_403 : decode cL_drafts 403 = .ok (.iadd, 1) := by decide +kernel
theorem dL_drafts_404 : decode cL_drafts 404 = .ok (.istore 18, 2) := by decide +kernel
theorem dL_drafts_406 : decode cL_drafts 406 = .ok (.iload 16, 2) := by decide +kernel
theorem dL_drafts_408 : decode cL_drafts 408 = .ok (.iload 18, 2) := by decide +kernel
theorem dL_drafts_410 : decode cL_drafts 410 = .ok (.ishr, 1) := by decide +kernel
theorem dL_drafts_411 : decode cL_drafts 411 = .ok (.iconst 3, 1) := by decide +kernel
theorem dL_drafts_412 : decode cL_drafts 412 = .ok (.iand, 1) := by decide +kernel
theorem dL_drafts_413 : decode cL_drafts 413 = .ok (.istore 19, 2) := by decide +kernel
theorem dL_drafts_415 : decode cL_drafts 415 = .ok (.iload 16, 2) := by decide +kernel
theorem dL_drafts_417 : decode cL_drafts 417 = .ok (.ifCond .ne 11, 3) := by decide +kernel
theorem dL_drafts_420 : decode cL_drafts 420 = .ok (.aload 4, 2) := by decide +kernel
theorem dL_drafts_422 : decode cL_drafts 422 = .ok (.iload 14, 2) := by decide +kernel
theorem dL_drafts_424 : decode cL_drafts 424 = .ok (.iaload, 1) := by decide +kernel
theorem dL_drafts_425 : decode cL_drafts 425 = .ok (.goto 5, 3) := by decide +kernel
theorem dL_drafts_428 : decode cL_drafts 428 = .ok (.iload 16, 2) := by decide +kernel
theorem dL_drafts_430 : decode cL_drafts 430 = .ok (.istore 16, 2) := by decide +kernel
theorem dL_drafts_432 : decode cL_drafts 432 = .ok (.iload 16, 2) := by decide +kernel
theorem dL_drafts_434 : decode cL_drafts 434 = .ok (.iconst 3, 1) := by decide +kernel
theorem dL_drafts_435 : decode cL_drafts 435 = .ok (.iload 18, 2) := by decide +kernel
theorem dL_drafts_437 : decode cL_drafts 437 = .ok (.ishl, 1) := by decide +kernel
theorem dL_drafts_438 : decode cL_drafts 438 = .ok (.iconst (-1), 1) := by decide +kernel
theorem dL_drafts_439 : decode cL_drafts 439 = .ok (.ixor, 1) := by decide +kernel
theorem dL_drafts_440 : decode cL_drafts 440 = .ok (.iand, 1) := by decide +kernel
theorem dL_drafts_441 : decode cL_drafts 441 = .ok (.iload 17, 2) := by decide +kernel
theorem dL_drafts_443 : decode cL_drafts 443 = .ok (.iload 18, 2) := by decide +kernel
theorem dL_drafts_445 : decode cL_drafts 445 = .ok (.ishl, 1) := by decide +kernel
theorem dL_drafts_446 : decode cL_drafts 446 = .ok (.ior, 1) := by decide +kernel
theorem dL_drafts_447 : decode cL_drafts 447 = .ok (.istore 16, 2) := by decide +kernel
theorem dL_drafts_449 : decode cL_drafts 449 = .ok (.iload 16, 2) := by decide +kernel
theorem dL_drafts_451 : decode cL_drafts 451 = .ok (.iconst 4, 1) := by decide +kernel
theorem dL_drafts_452 : decode cL_drafts 452 = .ok (.ishr, 1) := by decide +kernel
theorem dL_drafts_453 : decode cL_drafts 453 = .ok (.istore 20, 2) := by decide +kernel
theorem dL_drafts_455 : decode cL_drafts 455 = .ok (.iload 19, 2) := by decide +kernel
theorem dL_drafts_457 : decode cL_drafts 457 = .ok (.iload 17, 2) := by decide +kernel
theorem dL_drafts_459 : decode cL_drafts 459 = .ok (.if_icmp .eq 9, 3) := by decide +kernel
theorem dL_drafts_462 : decode cL_drafts 462 = .ok (.aload 8, 2) := by decide +kernel
theorem dL_drafts_464 : decode cL_drafts 464 = .ok (.iload 12, 2) := by decide +kernel
theorem dL_drafts_466 : decode cL_drafts 466 = .ok (.iconst 0, 1) := by decide +kernel
theorem dL_drafts_467 : decode cL_drafts 467 = .ok (.iastore, 1) := by decide +kernel
theorem dL_drafts_468 : decode cL_drafts 468 = .ok (.aload 7, 2) := by decide +kernel
theorem dL_drafts_470 : decode cL_drafts 470 = .ok (.iload 15, 2) := by decide +kernel
theorem dL_drafts_472 : decode cL_drafts 472 = .ok (.iload 20, 2) := by decide +kernel
theorem dL_drafts_474 : decode cL_drafts 474 = .ok (.bipush 10, 2) := by decide +kernel
theorem dL_drafts_476 : decode cL_drafts 476 = .ok (.if_icmp .eq 16, 3) := by decide +kernel
theorem dL_drafts_479 : decode cL_drafts 479 = .ok (.iload 20, 2) := by decide +kernel
theorem dL_drafts_481 : decode cL_drafts 481 = .ok (.iconst 2, 1) := by decide +kernel
theorem dL_drafts_482 : decode cL_drafts 482 = .ok (.if_icmp .eq 10, 3) := by decide +kernel
theorem dL_drafts_485 : decode cL_drafts 485 = .ok (.iload 20, 2) := by decide +kernel
theorem dL_drafts_487 : decode cL_drafts 487 = .ok (.bipush 8, 2) := by decide +kernel
theorem dL_drafts_489 : decode cL_drafts 489 = .ok (.if_icmp .ne 7, 3) := by decide +kernel
theorem dL_drafts_492 : decode cL_drafts 492 = .ok (.iconst 0, 1) := by decide +kernel
theorem dL_drafts_493 : decode cL_drafts 493 = .ok (.goto 5, 3) := by decide +kernel
theorem dL_drafts_496 : decode cL_drafts 496 = .ok (.iload 16, 2) := by decide +kernel
theorem dL_drafts_498 : decode cL_drafts 498 = .ok (.iastore, 1) := by decide +kernel
theorem dL_drafts_499 : decode cL_drafts 499 = .ok (.aload_n 0, 1) := by decide +kernel
theorem dL_drafts_500 : decode cL_drafts 500 = .ok (.iload 12, 2) := by decide +kernel
theorem dL_drafts_502 : decode cL_drafts 502 = .ok (.iload 13, 2) := by decide +kernel
theorem dL_drafts_504 : decode cL_drafts 504 = .ok (.iload 14, 2) := by decide +kernel
theorem dL_drafts_506 : decode cL_drafts 506 = .ok (.iload 17, 2) := by decide +kernel
theorem dL_drafts_508 : decode cL_drafts 508 = .ok (.invokestatic 91, 3) := by decide +kernel
theorem dL_drafts_511 : decode cL_drafts 511 = .ok (.iload 19, 2) := by decide +kernel
theorem dL_drafts_513 : decode cL_drafts 513 = .ok (.if_icmp .ne 7, 3) := by decide +kernel
theorem dL_drafts_516 : decode cL_drafts 516 = .ok (.iconst 1, 1) := by decide +kernel
theorem dL_drafts_517 : decode cL_drafts 517 = .ok (.goto 4, 3) := by decide +kernel
theorem dL_drafts_520 : decode cL_drafts 520 = .ok (.iconst 0, 1) := by decide +kernel
theorem dL_drafts_521 : decode cL_drafts 521 = .ok (.ireturn, 1) := by decide +kernel
theorem dL_drafts_522 : decode cL_drafts 522 = .ok (.iload_n 1, 1) := by decide +kernel
theorem dL_drafts_523 : decode cL_drafts 523 = .ok (.bipush 8, 2) := by decide +kernel
theorem dL_drafts_525 : decode cL_drafts 525 = .ok (.if_icmp .ne 129, 3) := by decide +kernel
theorem dL_drafts_528 : decode cL_drafts 528 = .ok (.aload_n 0, 1) := by decide +kernel
theorem dL_drafts_529 : decode cL_drafts 529 = .ok (.iload 12, 2) := by decide +kernel
theorem dL_drafts_531 : decode cL_drafts 531 = .ok (.iconst 2, 1) := by decide +kernel
theorem dL_drafts_532 : decode cL_drafts 532 = .ok (.iload 14, 2) := by decide +kernel
theorem dL_drafts_534 : decode cL_drafts 534 = .ok (.invokestatic 94, 3) := by decide +kernel
theorem dL_drafts_537 : decode cL_drafts 537 = .ok (.bipush (-72), 2) := by decide +kernel
theorem dL_drafts_539 : decode cL_drafts 539 = .ok (.if_icmp .ne 17, 3) := by decide +kernel
theorem dL_drafts_542 : decode cL_drafts 542 = .ok (.aload_n 0, 1) := by decide +kernel
theorem dL_drafts_543 : decode cL_drafts 543 = .ok (.iload 12, 2) := by decide +kernel
theorem dL_drafts_545 : decode cL_drafts 545 = .ok (.iload 13, 2) := by decide +kernel
theorem dL_drafts_547 : decode cL_drafts 547 = .ok (.iconst (-1), 1) := by decide +kernel
theorem dL_drafts_548 : decode cL_drafts 548 = .ok (.invokestatic 94, 3) := by decide +kernel
theorem dL_drafts_551 : decode cL_drafts 551 = .ok (.bipush (-72), 2) := by decide +kernel
theorem dL_drafts_553 : decode cL_drafts 553 = .ok (.if_icmp .eq 5, 3) := by decide +kernel
theorem dL_drafts_556 : decode cL_drafts 556 = .ok (.iconst 0, 1) := by decide +kernel
theorem dL_drafts_557 : decode cL_drafts 557 = .ok (.ireturn, 1) := by decide +kernel
theorem dL_drafts_558 : decode cL_drafts 558 = .ok (.aload 8, 2) := by decide +kernel
theorem dL_drafts_560 : decode cL_drafts 560 = .ok (.iload 12, 2) := by decide +kernel
theorem dL_drafts_562 : decode cL_drafts 562 = .ok (.iaload, 1) := by decide +kernel
theorem dL_drafts_563 : decode cL_drafts 563 = .ok (.iconst 4, 1) := by decide +kernel
theorem dL_drafts_564 : decode cL_drafts 564 = .ok (.if_icmp .eq 21, 3) := by decide +kernel
theorem dL_drafts_567 : decode cL_drafts 567 = .ok (.iload 16, 2) := by decide +kernel
theorem dL_drafts_569 : decode cL_drafts 569 = .ok (.ifCond .eq 16, 3) := by decide +kernel
theorem dL_drafts_572 : decode cL_drafts 572 = .ok (.iload 16, 2) := by decide +kernel
theorem dL_drafts_574 : decode cL_drafts 574 = .ok (.bipush 15, 2) := by decide +kernel
theorem dL_drafts_576 : decode cL_drafts 576 = .ok (.iand, 1) := by decide +kernel
theorem dL_drafts_577 : decode cL_drafts 577 = .ok (.aload 4, 2) := by decide +kernel
theorem dL_drafts_579 : decode cL_drafts 579 = .ok (.iload 14, 2) := by decide +kernel
theorem dL_drafts_581 : decode cL_drafts 581 = .ok (.iaload, 1) := by decide +kernel
theorem dL_drafts_582 : decode cL_drafts 582 = .ok (.if_icmp .ne 24, 3) := by decide +kernel
theorem dL_drafts_585 : decode cL_drafts 585 = .ok (.aload_n 0, 1) := by decide +kernel
theorem dL_drafts_586 : decode cL_drafts 586 = .ok (.iload 12, 2) := by decide +kernel
theorem dL_drafts_588 : decode cL_drafts 588 = .ok (.iload 13, 2) := by decide +kernel
theorem dL_drafts_590 : decode cL_drafts 590 = .ok (.iload 14, 2) := by decide +kernel
theorem dL_drafts_592 : decode cL_drafts 592 = .ok (.invokestatic 94, 3) := by decide +kernel
theorem dL_drafts_595 : decode cL_drafts 595 = .ok (.bipush (-73), 2) := by decide +kernel
theorem dL_drafts_597 : decode cL_drafts 597 = .ok (.if_icmp .ne 7, 3) := by decide +kernel
theorem dL_drafts_600 : decode cL_drafts 600 = .ok (.iconst 1, 1) := by decide +kernel
theorem dL_drafts_601 : decode cL_drafts 601 = .ok (.goto 4, 3) := by decide +kernel
theorem dL_drafts_604 : decode cL_drafts 604 = .ok (.iconst 0, 1) := by decide +kernel
theorem dL_drafts_605 : decode cL_drafts 605 = .ok (.ireturn, 1) := by decide +kernel
theorem dL_drafts_606 : decode cL_drafts 606 = .ok (.aload 7, 2) := by decide +kernel
theorem dL_drafts_608 : decode cL_drafts 608 = .ok (.iload 15, 2) := by decide +kernel
theorem dL_drafts_610 : decode cL_drafts 610 = .ok (.aload 4, 2) := by decide +kernel
theorem dL_drafts_612 : decode cL_drafts 612 = .ok (.iload 14, 2) := by decide +kernel
theorem dL_drafts_614 : decode cL_drafts 614 = .ok (.iaload, 1) := by decide +kernel
theorem dL_drafts_615 : decode cL_drafts 615 = .ok (.bipush 16, 2) := by decide +kernel
theorem dL_drafts_617 : decode cL_drafts 617 = .ok (.iconst 2, 1) := by decide +kernel
theorem dL_drafts_618 : decode cL_drafts 618 = .ok (.iload 13, 2) := by decide +kernel
theorem dL_drafts_620 : decode cL_drafts 620 = .ok (.imul, 1) := by decide +kernel
theorem dL_drafts_621 : decode cL_drafts 621 = .ok (.ishl, 1) := by decide +kernel
theorem dL_drafts_622 : decode cL_drafts 622 = .ok (.iadd, 1) := by decide +kernel
theorem dL_drafts_623 : decode cL_drafts 623 = .ok (.iastore, 1) := by decide +kernel
theorem dL_drafts_624 : decode cL_drafts 624 = .ok (.aload 8, 2) := by decide +kernel
theorem dL_drafts_626 : decode cL_drafts 626 = .ok (.iload 12, 2) := by decide +kernel
theorem dL_drafts_628 : decode cL_drafts 628 = .ok (.iconst 0, 1) := by decide +kernel
theorem dL_drafts_629 : decode cL_drafts 629 = .ok (.iastore, 1) := by decide +kernel
theorem dL_drafts_630 : decode cL_drafts 630 = .ok (.aload_n 0, 1) := by decide +kernel
theorem dL_drafts_631 : decode cL_drafts 631 = .ok (.iload 12, 2) := by decide +kernel
theorem dL_drafts_633 : decode cL_drafts 633 = .ok (.iload 13, 2) := by decide +kernel
theorem dL_drafts_635 : decode cL_drafts 635 = .ok (.iload 14, 2) := by decide +kernel
theorem dL_drafts_637 : decode cL_drafts 637 = .ok (.invokestatic 94, 3) := by decide +kernel
theorem dL_drafts_640 : decode cL_drafts 640 = .ok (.iload 16, 2) := by decide +kernel
theorem dL_drafts_642 : decode cL_drafts 642 = .ok (.bipush 15, 2) := by decide +kernel
theorem dL_drafts_644 : decode cL_drafts 644 = .ok (.iand, 1) := by decide +kernel
theorem dL_drafts_645 : decode cL_drafts 645 = .ok (.if_icmp .ne 7, 3) := by decide +kernel
theorem dL_drafts_648 : decode cL_drafts 648 = .ok (.iconst 1, 1) := by decide +kernel
theorem dL_drafts_649 : decode cL_drafts 649 = .ok (.goto 4, 3) := by decide +kernel
theorem dL_drafts_652 : decode cL_drafts 652 = .ok (.iconst 0, 1) := by decide +kernel
theorem dL_drafts_653 : decode cL_drafts 653 = .ok (.ireturn, 1) := by decide +kernel
theorem dL_drafts_654 : decode cL_drafts 654 = .ok (.aload_n 0, 1) := by decide +kernel
theorem dL_drafts_655 : decode cL_drafts 655 = .ok (.iload 12, 2) := by decide +kernel
theorem dL_drafts_657 : decode cL_drafts 657 = .ok (.iconst 2, 1) := by decide +kernel
theorem dL_drafts_658 : decode cL_drafts 658 = .ok (.invokestatic 96, 3) := by decide +kernel
theorem dL_drafts_661 : decode cL_drafts 661 = .ok (.bipush (-72), 2) := by decide +kernel
theorem dL_drafts_663 : decode cL_drafts 663 = .ok (.if_icmp .ne 15, 3) := by decide +kernel
theorem dL_drafts_666 : decode cL_drafts 666 = .ok (.aload_n 0, 1) := by decide +kernel
theorem dL_drafts_667 : decode cL_drafts 667 = .ok (.iload 12, 2) := by decide +kernel
theorem dL_drafts_669 : decode cL_drafts 669 = .ok (.iconst (-1), 1) := by decide +kernel
theorem dL_drafts_670 : decode cL_drafts 670 = .ok (.invokestatic 96, 3) := by decide +kernel
theorem dL_drafts_673 : decode cL_drafts 673 = .ok (.bipush (-72), 2) := by decide +kernel
theorem dL_drafts_675 : decode cL_drafts 675 = .ok (.if_icmp .eq 5, 3) := by decide +kernel
theorem dL_drafts_678 : decode cL_drafts 678 = .ok (.iconst 0, 1) := by decide +kernel
theorem dL_drafts_679 : decode cL_drafts 679 = .ok (.ireturn, 1) := by decide +kernel
theorem dL_drafts_680 : decode cL_drafts 680 = .ok (.aload 5, 2) := by decide +kernel
theorem dL_drafts_682 : decode cL_drafts 682 = .ok (.aload 7, 2) := by decide +kernel
theorem dL_drafts_684 : decode cL_drafts 684 = .ok (.aload 8, 2) := by decide +kernel
theorem dL_drafts_686 : decode cL_drafts 686 = .ok (.iload 12, 2) := by decide +kernel
theorem dL_drafts_688 : decode cL_drafts 688 = .ok (.invokestatic 108, 3) := by decide +kernel
theorem dL_drafts_691 : decode cL_drafts 691 = .ok (.ifCond .gt 17, 3) := by decide +kernel
theorem dL_drafts_694 : decode cL_drafts 694 = .ok (.aload 8, 2) := by decide +kernel
theorem dL_drafts_696 : decode cL_drafts 696 = .ok (.iload 12, 2) := by decide +kernel
theorem dL_drafts_698 : decode cL_drafts 698 = .ok (.iaload, 1) := by decide +kernel
theorem dL_drafts_699 : decode cL_drafts 699 = .ok (.iload 13, 2) := by decide +kernel
theorem dL_drafts_701 : decode cL_drafts 701 = .ok (.ishr, 1) := by decide +kernel
theorem dL_drafts_702 : decode cL_drafts 702 = .ok (.iconst 1, 1) := by decide +kernel
theorem dL_drafts_703 : decode cL_drafts 703 = .ok (.iand, 1) := by decide +kernel
theorem dL_drafts_704 : decode cL_drafts 704 = .ok (.iconst 1, 1) := by decide +kernel
theorem dL_drafts_705 : decode cL_drafts 705 = .ok (.if_icmp .ne 22, 3) := by decide +kernel
theorem dL_drafts_708 : decode cL_drafts 708 = .ok (.aload_n 0, 1) := by decide +kernel
theorem dL_drafts_709 : decode cL_drafts 709 = .ok (.iload 12, 2) := by decide +kernel
theorem dL_drafts_711 : decode cL_drafts 711 = .ok (.iload 13, 2) := by decide +kernel
theorem dL_drafts_713 : decode cL_drafts 713 = .ok (.invokestatic 96, 3) := by decide +kernel
theorem dL_drafts_716 : decode cL_drafts 716 = .ok (.bipush (-73), 2) := by decide +kernel
theorem dL_drafts_718 : decode cL_drafts 718 = .ok (.if_icmp .ne 7, 3) := by decide +kernel
theorem dL_drafts_721 : decode cL_drafts 721 = .ok (.iconst 1, 1) := by decide +kernel
theorem dL_drafts_722 : decode cL_drafts 722 = .ok (.goto 4, 3) := by decide +kernel
theorem dL_drafts_725 : decode cL_drafts 725 = .ok (.iconst 0, 1) := by decide +kernel
theorem dL_drafts_726 : decode cL_drafts 726 = .ok (.ireturn, 1) := by decide +kernel
theorem dL_drafts_727 : decode cL_drafts 727 = .ok (.aload 8, 2) := by decide +kernel
theorem dL_drafts_729 : decode cL_drafts 729 = .ok (.iload 12, 2) := by decide +kernel
theorem dL_drafts_731 : decode cL_drafts 731 = .ok (.dup2, 1) := by decide +kernel
theorem dL_drafts_732 : decode cL_drafts 732 = .ok (.iaload, 1) := by decide +kernel
theorem dL_drafts_733 : decode cL_drafts 733 = .ok (.iconst 1, 1) := by decide +kernel
theorem dL_drafts_734 : decode cL_drafts 734 = .ok (.iload 13, 2) := by decide +kernel
theorem dL_drafts_736 : decode cL_drafts 736 = .ok (.ishl, 1) := by decide +kernel
theorem dL_drafts_737 : decode cL_drafts 737 = .ok (.ior, 1) := by decide +kernel
theorem dL_drafts_738 : decode cL_drafts 738 = .ok (.iastore, 1) := by decide +kernel
theorem dL_drafts_739 : decode cL_drafts 739 = .ok (.aload 8, 2) := by decide +kernel
theorem dL_drafts_741 : decode cL_drafts 741 = .ok (.iload 12, 2) := by decide +kernel
theorem dL_drafts_743 : decode cL_drafts 743 = .ok (.iaload, 1) := by decide +kernel
theorem dL_drafts_744 : decode cL_drafts 744 = .ok (.iconst 3, 1) := by decide +kernel
theorem dL_drafts_745 : decode cL_drafts 745 = .ok (.if_icmp .ge 20, 3) := by decide +kernel
theorem dL_drafts_748 : decode cL_drafts 748 = .ok (.aload_n 0, 1) := by decide +kernel
theorem dL_drafts_749 : decode cL_drafts 749 = .ok (.iload 12, 2) := by decide +kernel
theorem dL_drafts_751 : decode cL_drafts 751 = .ok (.iload 13, 2) := by decide +kernel
theorem dL_drafts_753 : decode cL_drafts 753 = .ok (.invokestatic 96, 3) := by decide +kernel
theorem dL_drafts_756 : decode cL_drafts 756 = .ok (.ifCond .ne 7, 3) := by decide +kernel
theorem dL_drafts_759 : decode cL_drafts 759 = .ok (.iconst 1, 1) := by decide +kernel
theorem dL_drafts_760 : decode cL_drafts 760 = .ok (.goto 4, 3) := by decide +kernel
theorem dL_drafts_763 : decode cL_drafts 763 = .ok (.iconst 0, 1) := by decide +kernel
theorem dL_drafts_764 : decode cL_drafts 764 = .ok (.ireturn, 1) := by decide +kernel
theorem dL_drafts_765 : decode cL_drafts 765 = .ok (.aload 8, 2) := by decide +kernel
theorem dL_drafts_767 : decode cL_drafts 767 = .ok (.iload 12, 2) := by decide +kernel
theorem dL_drafts_769 : decode cL_drafts 769 = .ok (.iconst 4, 1) := by decide +kernel
theorem dL_drafts_770 : decode cL_drafts 770 = .ok (.iastore, 1) := by decide +kernel
theorem dL_drafts_771 : decode cL_drafts 771 = .ok (.aload 11, 2) := by decide +kernel
theorem dL_drafts_773 : decode cL_drafts 773 = .ok (.iconst 2, 1) := by decide +kernel
theorem dL_drafts_774 : decode cL_drafts 774 = .ok (.iaload, 1) := by decide +kernel
theorem dL_drafts_775 : decode cL_drafts 775 = .ok (.istore 17, 2) := by decide +kernel
theorem dL_drafts_777 : decode cL_drafts 777 = .ok (.iconst 0, 1) := by decide +kernel
theorem dL_drafts_778 : decode cL_drafts 778 = .ok (.istore 18, 2) := by decide +kernel
theorem dL_drafts_780 : decode cL_drafts 780 = .ok (.iload 18, 2) := by decide +kernel
theorem dL_drafts_782 : decode cL_drafts 782 = .ok (.bipush 6, 2) := by decide +kernel
theorem dL_drafts_784 : decode cL_drafts 784 = .ok (.if_icmp .ge 115, 3) := by decide +kernel
theorem dL_drafts_787 : decode cL_drafts 787 = .ok (.aload 7, 2) := by decide +kernel
theorem dL_drafts_789 : decode cL_drafts 789 = .ok (.bipush 6, 2) := by decide +kernel
theorem dL_drafts_791 : decode cL_drafts 791 = .ok (.iload 12, 2) := by decide +kernel
theorem dL_drafts_793 : decode cL_drafts 793 = .ok (.imul, 1) := by decide +kernel
theorem dL_drafts_794 : decode cL_drafts 794 = .ok (.iload 18, 2) := by decide +kernel
theorem dL_drafts_796 : decode cL_drafts 796 = .ok (.iadd, 1) := by decide +kernel
theorem dL_drafts_797 : decode cL_drafts 797 = .ok (.iaload, 1) := by decide +kernel
theorem dL_drafts_798 : decode cL_drafts 798 = .ok (.istore 19, 2) := by decide +kernel
theorem dL_drafts_800 : decode cL_drafts 800 = .ok (.iload 19, 2) := by decide +kernel
theorem dL_drafts_802 : decode cL_drafts 802 = .ok (.ifCond .ne 6, 3) := by decide +kernel
theorem dL_drafts_805 : decode cL_drafts 805 = .ok (.goto 88, 3) := by decide +kernel
theorem dL_drafts_808 : decode cL_drafts 808 = .ok (.aload 6, 2) := by decide +kernel
theorem dL_drafts_810 : decode cL_drafts 810 = .ok (.bipush 9, 2) := by decide +kernel
theorem dL_drafts_812 : decode cL_drafts 812 = .ok (.iload 18, 2) := by decide +kernel
theorem dL_drafts_814 : decode cL_drafts 814 = .ok (.imul, 1) := by decide +kernel
theorem dL_drafts_815 : decode cL_drafts 815 = .ok (.iload 19, 2) := by decide +kernel
theorem dL_drafts_817 : decode cL_drafts 817 = .ok (.bipush 15, 2) := by decide +kernel
theorem dL_drafts_819 : decode cL_drafts 819 = .ok (.iand, 1) := by decide +kernel
theorem dL_drafts_820 : decode cL_drafts 820 = .ok (.iadd, 1) := by decide +kernel
theorem dL_drafts_821 : decode cL_drafts 821 = .ok (.iconst 1, 1) := by decide +kernel
theorem dL_drafts_822 : decode cL_drafts 822 = .ok (.isub, 1) := by decide +kernel
theorem dL_drafts_823 : decode cL_drafts 823 = .ok (.iaload, 1) := by decide +kernel
theorem dL_drafts_824 : decode cL_drafts 824 = .ok (.istore 20, 2) := by decide +kernel
theorem dL_drafts_826 : decode cL_drafts 826 = .ok (.aload 9, 2) := by decide +kernel
theorem dL_drafts_828 : decode cL_drafts 828 = .ok (.aload 11, 2) := by decide +kernel
theorem dL_drafts_830 : decode cL_drafts 830 = .ok (.iconst 2, 1) := by decide +kernel
theorem dL_drafts_831 : decode cL_drafts 831 = .ok (.iaload, 1) := by decide +kernel
theorem dL_drafts_832 : decode cL_drafts 832 = .ok (.iload 12, 2) := by decide +kernel
theorem dL_drafts_834 : decode cL_drafts 834 = .ok (.bipush 16, 2) := by decide +kernel
theorem dL_drafts_836 : decode cL_drafts 836 = .ok (.iload 20, 2) := by decide +kernel
theorem dL_drafts_838 : decode cL_drafts 838 = .ok (.iconst 1, 1) := by decide +kernel
theorem dL_drafts_839 : decode cL_drafts 839 = .ok (.iand, 1) := by decide +kernel
theorem dL_drafts_840 : decode cL_drafts 840 = .ok (.imul, 1) := by decide +kernel
theorem dL_drafts_841 : decode cL_drafts 841 = .ok (.iadd, 1) := by decide +kernel
theorem dL_drafts_842 : decode cL_drafts 842 = .ok (.sipush 256, 3) := by decide +kernel
theorem dL_drafts_845 : decode cL_drafts 845 = .ok (.iload 20, 2) := by decide +kernel
theorem dL_drafts_847 : decode cL_drafts 847 = .ok (.bipush 8, 2) := by decide +kernel
theorem dL_drafts_849 : decode cL_drafts 849 = .ok (.ishr, 1) := by decide +kernel
theorem dL_drafts_850 : decode cL_drafts 850 = .ok (.bipush 63, 2) := by decide +kernel
theorem dL_drafts_852 : decode cL_drafts 852 = .ok (.iand, 1) := by decide +kernel
theorem dL_drafts_853 : decode cL_drafts 853 = .ok (.imul, 1) := by decide +kernel
theorem dL_drafts_854 : decode cL_drafts 854 = .ok (.iadd, 1) := by decide +kernel
theorem dL_drafts_855 : decode cL_drafts 855 = .ok (.sipush 16384, 3) := by decide +kernel
theorem dL_drafts_858 : decode cL_drafts 858 = .ok (.iload 20, 2) := by decide +kernel
theorem dL_drafts_860 : decode cL_drafts 860 = .ok (.bipush 14, 2) := by decide +kernel
theorem dL_drafts_862 : decode cL_drafts 862 = .ok (.ishr, 1) := by decide +kernel
theorem dL_drafts_863 : decode cL_drafts 863 = .ok (.imul, 1) := by decide +kernel
theorem dL_drafts_864 : decode cL_drafts 864 = .ok (.iadd, 1) := by decide +kernel
theorem dL_drafts_865 : decode cL_drafts 865 = .ok (.iastore, 1) := by decide +kernel
theorem dL_drafts_866 : decode cL_drafts 866 = .ok (.aload 10, 2) := by decide +kernel
theorem dL_drafts_868 : decode cL_drafts 868 = .ok (.aload 11, 2) := by decide +kernel
theorem dL_drafts_870 : decode cL_drafts 870 = .ok (.iconst 2, 1) := by decide +kernel
theorem dL_drafts_871 : decode cL_drafts 871 = .ok (.iaload, 1) := by decide +kernel
theorem dL_drafts_872 : decode cL_drafts 872 = .ok (.aload 11, 2) := by decide +kernel
theorem dL_drafts_874 : decode cL_drafts 874 = .ok (.iconst 0, 1) := by decide +kernel
theorem dL_drafts_875 : decode cL_drafts 875 = .ok (.iaload, 1) := by decide +kernel
theorem dL_drafts_876 : decode cL_drafts 876 = .ok (.iload 20, 2) := by decide +kernel
theorem dL_drafts_878 : decode cL_drafts 878 = .ok (.iconst 1, 1) := by decide +kernel
theorem dL_drafts_879 : decode cL_drafts 879 = .ok (.ishr, 1) := by decide +kernel
theorem dL_drafts_880 : decode cL_drafts 880 = .ok (.bipush 127, 2) := by decide +kernel
theorem dL_drafts_882 : decode cL_drafts 882 = .ok (.iand, 1) := by decide +kernel
theorem dL_drafts_883 : decode cL_drafts 883 = .ok (.iadd, 1) := by decide +kernel
theorem dL_drafts_884 : decode cL_drafts 884 = .ok (.iastore, 1) := by decide +kernel
theorem dL_drafts_885 : decode cL_drafts 885 = .ok (.aload 11, 2) := by decide +kernel
theorem dL_drafts_887 : decode cL_drafts 887 = .ok (.iconst 2, 1) := by decide +kernel
theorem dL_drafts_888 : decode cL_drafts 888 = .ok (.dup2, 1) := by decide +kernel
theorem dL_drafts_889 : decode cL_drafts 889 = .ok (.iaload, 1) := by decide +kernel
theorem dL_drafts_890 : decode cL_drafts 890 = .ok (.iconst 1, 1) := by decide +kernel
theorem dL_drafts_891 : decode cL_drafts 891 = .ok (.iadd, 1) := by decide +kernel
theorem dL_drafts_892 : decode cL_drafts 892 = .ok (.iastore, 1) := by decide +kernel
theorem dL_drafts_893 : decode cL_drafts 893 = .ok (.iinc 18 1, 3) := by decide +kernel
theorem dL_drafts_896 : decode cL_drafts 896 = .ok (.goto (-116), 3) := by decide +kernel
theorem dL_drafts_899 : decode cL_drafts 899 = .ok (.aload_n 0, 1) := by decide +kernel
theorem dL_drafts_900 : decode cL_drafts 900 = .ok (.iload 12, 2) := by decide +kernel
theorem dL_drafts_902 : decode cL_drafts 902 = .ok (.iload 13, 2) := by decide +kernel
theorem dL_drafts_904 : decode cL_drafts 904 = .ok (.invokestatic 96, 3) := by decide +kernel
theorem dL_drafts_907 : decode cL_drafts 907 = .ok (.aload 11, 2) := by decide +kernel
theorem dL_drafts_909 : decode cL_drafts 909 = .ok (.iconst 2, 1) := by decide +kernel
theorem dL_drafts_910 : decode cL_drafts 910 = .ok (.iaload, 1) := by decide +kernel
theorem dL_drafts_911 : decode cL_drafts 911 = .ok (.iload 17, 2) := by decide +kernel
theorem dL_drafts_913 : decode cL_drafts 913 = .ok (.isub, 1) := by decide +kernel
theorem dL_drafts_914 : decode cL_drafts 914 = .ok (.if_icmp .ne 7, 3) := by decide +kernel
theorem dL_drafts_917 : decode cL_drafts 917 = .ok (.iconst 1, 1) := by decide +kernel
theorem dL_drafts_918 : decode cL_drafts 918 = .ok (.goto 4, 3) := by decide +kernel
theorem dL_drafts_921 : decode cL_drafts 921 = .ok (.iconst 0, 1) := by decide +kernel
theorem dL_drafts_922 : decode cL_drafts 922 = .ok (.ireturn, 1) := by decide +kernel
theorem dL_breached_0 : decode cL_breached 0 = .ok (.iconst 0, 1) := by decide +kernel
theorem dL_breached_1 : decode cL_breached 1 = .ok (.istore_n 3, 1) := by decide +kernel
theorem dL_breached_2 : decode cL_breached 2 = .ok (.iconst 0, 1) := by decide +kernel
theorem dL_breached_3 : decode cL_breached 3 = .ok (.istore 4, 2) := by decide +kernel
theorem dL_breached_5 : decode cL_breached 5 = .ok (.iload 4, 2) := by decide +kernel
theorem dL_breached_7 : decode cL_breached 7 = .ok (.aload_n 1, 1) := by decide +kernel
theorem dL_breached_8 : decode cL_breached 8 = .ok (.iconst 2, 1) := by decide +kernel
theorem dL_breached_9 : decode cL_breached 9 = .ok (.iaload, 1) := by decide +kernel
theorem dL_breached_10 : decode cL_breached 10 = .ok (.if_icmp .ge 46, 3) := by decide +kernel
theorem dL_breached_13 : decode cL_breached 13 = .ok (.aload_n 0, 1) := by decide +kernel
theorem dL_breached_14 : decode cL_breached 14 = .ok (.iload 4, 2) := by decide +kernel
theorem dL_breached_16 : decode cL_breached 16 = .ok (.iaload, 1) := by decide +kernel
theorem dL_breached_17 : decode cL_breached 17 = .ok (.bipush 15, 2) := by decide +kernel
theorem dL_breached_19 : decode cL_breached 19 = .ok (.iand, 1) := by decide +kernel
theorem dL_breached_20 : decode cL_breached 20 = .ok (.iload_n 2, 1) := by decide +kernel
theorem dL_breached_21 : decode cL_breached 21 = .ok (.if_icmp .ne 29, 3) := by decide +kernel
theorem dL_breached_24 : decode cL_breached 24 = .ok (.aload_n 0, 1) := by decide +kernel
theorem dL_breached_25 : decode cL_breached 25 = .ok (.iload 4, 2) := by decide +kernel
theorem dL_breached_27 : decode cL_breached 27 = .ok (.iaload, 1) := by decide +kernel
theorem dL_breached_28 : decode cL_breached 28 = .ok (.iconst 5, 1) := by decide +kernel
theorem dL_breached_29 : decode cL_breached 29 = .ok (.ishr, 1) := by decide +kernel
theorem dL_breached_30 : decode cL_breached 30 = .ok (.bipush 7, 2) := by decide +kernel
theorem dL_breached_32 : decode cL_breached 32 = .ok (.iand, 1) := by decide +kernel
theorem dL_breached_33 : decode cL_breached 33 = .ok (.iconst 3, 1) := by decide +kernel
theorem dL_breached_34 : decode cL_breached 34 = .ok (.if_icmp .ne 16, 3) := by decide +kernel
theorem dL_breached_37 : decode cL_breached 37 = .ok (.iload_n 3, 1) := by decide +kernel
theorem dL_breached_38 : decode cL_breached 38 = .ok (.iconst 1, 1) := by decide +kernel
theorem dL_breached_39 : decode cL_breached 39 = .ok (.aload_n 0, 1) := by decide +kernel
theorem dL_breached_40 : decode cL_breached 40 = .ok (.iload 4, 2) := by decide +kernel
theorem dL_breached_42 : decode cL_breached 42 = .ok (.iaload, 1) := by decide +kernel
theorem dL_breached_43 : decode cL_breached 43 = .ok (.iconst 4, 1) := by decide +kernel
theorem dL_breached_44 : decode cL_breached 44 = .ok (.ishr, 1) := by decide +kernel
theorem dL_breached_45 : decode cL_breached 45 = .ok (.iconst 1, 1) := by decide +kernel
theorem dL_breached_46 : decode cL_breached 46 = .ok (.iand, 1) := by decide +kernel
theorem dL_breached_47 : decode cL_breached 47 = .ok (.ishl, 1) := by decide +kernel
theorem dL_breached_48 : decode cL_breached 48 = .ok (.ior, 1) := by decide +kernel
theorem dL_breached_49 : decode cL_breached 49 = .ok (.istore_n 3, 1) := by decide +kernel
theorem dL_breached_50 : decode cL_breached 50 = .ok (.iinc 4 1, 3) := by decide +kernel
theorem dL_breached_53 : decode cL_breached 53 = .ok (.goto (-48), 3) := by decide +kernel
theorem dL_breached_56 : decode cL_breached 56 = .ok (.iload_n 3, 1) := by decide +kernel
theorem dL_breached_57 : decode cL_breached 57 = .ok (.ireturn, 1) := by decide +kernel
set_option maxRecDepth 20000 in
theorem ggL_isSuspended_L_breached : GoodIn wsL_isSuspended wsL_breached := goodIn_r _ [4] (by decide +kernel) (by decide +kernel)
set_option maxRecDepth 20000 in
theorem gL_isSuspended_L_breached : GoodIn wsL_isSuspended (va_wsS RL 112 yL_breached wsL_breached) := goodIn_app (goodIn_of _ (by decide +kernel)) ggL_isSuspended_L_breached
theorem dL_isSuspended_0 : decode cL_isSuspended 0 = .ok (.aload_n 0, 1) := by decide +kernel
theorem dL_isSuspended_1 : decode cL_isSuspended 1 = .ok (.iload_n 2, 1) := by decide +kernel
theorem dL_isSuspended_2 : decode cL_isSuspended 2 = .ok (.iaload, 1) := by decide +kernel
theorem dL_isSuspended_3 : decode cL_isSuspended 3 = .ok (.iconst 5, 1) := by decide +kernel
theorem dL_isSuspended_4 : decode cL_isSuspended 4 = .ok (.ishr, 1) := by decide +kernel
theorem dL_isSuspended_5 : decode cL_isSuspended 5 = .ok (.bipush 7, 2) := by decide +kernel
theorem dL_isSuspended_7 : decode cL_isSuspended 7 = .ok (.iand, 1) := by decide +kernel
theorem dL_isSuspended_8 : decode cL_isSuspended 8 = .ok (.istore_n 3, 1) := by decide +kernel
theorem dL_isSuspended_9 : decode cL_isSuspended 9 = .ok (.iload_n 3, 1) := by decide +kernel
theorem dL_isSuspended_10 : decode cL_isSuspended 10 = .ok (.ifCond .eq 8, 3) := by decide +kernel
theorem dL_isSuspended_13 : decode cL_isSuspended 13 = .ok (.iload_n 3, 1) := by decide +kernel
theorem dL_isSuspended_14 : decode cL_isSuspended 14 = .ok (.iconst 2, 1) := by decide +kernel
theorem dL_isSuspended_15 : decode cL_isSuspended 15 = .ok (.if_icmp .ne 34, 3) := by decide +kernel
theorem dL_isSuspended_18 : decode cL_isSuspended 18 = .ok (.aload_n 0, 1) := by decide +kernel
