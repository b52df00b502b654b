theorem dX9_judge_82 : decode cX9_judge 82 = .ok (.iload 4, 2) := by decide +kernel
theorem dX9_judge_84 : decode cX9_judge 84 = .ok (.iconst 2, 1) := by decide +kernel
theorem dX9_judge_85 : decode cX9_judge 85 = .ok (.iadd, 1) := by decide +kernel
theorem dX9_judge_86 : decode cX9_judge 86 = .ok (.iaload, 1) := by decide +kernel
theorem dX9_judge_87 : decode cX9_judge 87 = .ok (.invokevirtual 150, 3) := by decide +kernel
theorem dX9_judge_90 : decode cX9_judge 90 = .ok (.aload_n 0, 1) := by decide +kernel
theorem dX9_judge_91 : decode cX9_judge 91 = .ok (.iload_n 2, 1) := by decide +kernel
theorem dX9_judge_92 : decode cX9_judge 92 = .ok (.invokevirtual 168, 3) := by decide +kernel
theorem dX9_judge_95 : decode cX9_judge 95 = .ok (.iinc 3 1, 3) := by decide +kernel
theorem dX9_judge_98 : decode cX9_judge 98 = .ok (.goto (-91), 3) := by decide +kernel
theorem dX9_judge_101 : decode cX9_judge 101 = .ok (.aload_n 0, 1) := by decide +kernel
theorem dX9_judge_102 : decode cX9_judge 102 = .ok (.iload_n 1, 1) := by decide +kernel
theorem dX9_judge_103 : decode cX9_judge 103 = .ok (.iload_n 2, 1) := by decide +kernel
theorem dX9_judge_104 : decode cX9_judge 104 = .ok (.invokevirtual 160, 3) := by decide +kernel
theorem dX9_judge_107 : decode cX9_judge 107 = .ok (.istore_n 3, 1) := by decide +kernel
theorem dX9_judge_108 : decode cX9_judge 108 = .ok (.iload_n 3, 1) := by decide +kernel
theorem dX9_judge_109 : decode cX9_judge 109 = .ok (.invokestatic 175, 3) := by decide +kernel
theorem dX9_judge_112 : decode cX9_judge 112 = .ok (.istore 4, 2) := by decide +kernel
theorem dX9_judge_114 : decode cX9_judge 114 = .ok (.aload_n 0, 1) := by decide +kernel
theorem dX9_judge_115 : decode cX9_judge 115 = .ok (.aload_n 0, 1) := by decide +kernel
theorem dX9_judge_116 : decode cX9_judge 116 = .ok (.getfield 143, 3) := by decide +kernel
theorem dX9_judge_119 : decode cX9_judge 119 = .ok (.ifCond .eq 25, 3) := by decide +kernel
theorem dX9_judge_122 : decode cX9_judge 122 = .ok (.iload 4, 2) := by decide +kernel
theorem dX9_judge_124 : decode cX9_judge 124 = .ok (.ifCond .le 20, 3) := by decide +kernel
theorem dX9_judge_127 : decode cX9_judge 127 = .ok (.iload_n 2, 1) := by decide +kernel
theorem dX9_judge_128 : decode cX9_judge 128 = .ok (.iload 4, 2) := by decide +kernel
theorem dX9_judge_130 : decode cX9_judge 130 = .ok (.iadd, 1) := by decide +kernel
theorem dX9_judge_131 : decode cX9_judge 131 = .ok (.aload_n 0, 1) := by decide +kernel
theorem dX9_judge_132 : decode cX9_judge 132 = .ok (.getfield 49, 3) := by decide +kernel
theorem dX9_judge_135 : decode cX9_judge 135 = .ok (.iload_n 1, 1) := by decide +kernel
theorem dX9_judge_136 : decode cX9_judge 136 = .ok (.iaload, 1) := by decide +kernel
theorem dX9_judge_137 : decode cX9_judge 137 = .ok (.if_icmp .gt 7, 3) := by decide +kernel
theorem dX9_judge_140 : decode cX9_judge 140 = .ok (.iconst 1, 1) := by decide +kernel
theorem dX9_judge_141 : decode cX9_judge 141 = .ok (.goto 4, 3) := by decide +kernel
theorem dX9_judge_144 : decode cX9_judge 144 = .ok (.iconst 0, 1) := by decide +kernel
theorem dX9_judge_145 : decode cX9_judge 145 = .ok (.putfield 143, 3) := by decide +kernel
theorem dX9_judge_148 : decode cX9_judge 148 = .ok (.aload_n 0, 1) := by decide +kernel
theorem dX9_judge_149 : decode cX9_judge 149 = .ok (.getfield 143, 3) := by decide +kernel
theorem dX9_judge_152 : decode cX9_judge 152 = .ok (.ifCond .ne 4, 3) := by decide +kernel
theorem dX9_judge_155 : decode cX9_judge 155 = .ok (.return_, 1) := by decide +kernel
theorem dX9_judge_156 : decode cX9_judge 156 = .ok (.iload 4, 2) := by decide +kernel
theorem dX9_judge_158 : decode cX9_judge 158 = .ok (.iconst 1, 1) := by decide +kernel
theorem dX9_judge_159 : decode cX9_judge 159 = .ok (.if_icmp .le 14, 3) := by decide +kernel
theorem dX9_judge_162 : decode cX9_judge 162 = .ok (.aload_n 0, 1) := by decide +kernel
theorem dX9_judge_163 : decode cX9_judge 163 = .ok (.iload_n 1, 1) := by decide +kernel
theorem dX9_judge_164 : decode cX9_judge 164 = .ok (.iload_n 2, 1) := by decide +kernel
theorem dX9_judge_165 : decode cX9_judge 165 = .ok (.iconst 1, 1) := by decide +kernel
theorem dX9_judge_166 : decode cX9_judge 166 = .ok (.iadd, 1) := by decide +kernel
theorem dX9_judge_167 : decode cX9_judge 167 = .ok (.invokevirtual 160, 3) := by decide +kernel
theorem dX9_judge_170 : decode cX9_judge 170 = .ok (.goto 4, 3) := by decide +kernel
theorem dX9_judge_173 : decode cX9_judge 173 = .ok (.iconst 0, 1) := by decide +kernel
theorem dX9_judge_174 : decode cX9_judge 174 = .ok (.istore 5, 2) := by decide +kernel
theorem dX9_judge_176 : decode cX9_judge 176 = .ok (.iload 4, 2) := by decide +kernel
theorem dX9_judge_178 : decode cX9_judge 178 = .ok (.iconst 2, 1) := by decide +kernel
theorem dX9_judge_179 : decode cX9_judge 179 = .ok (.if_icmp .le 14, 3) := by decide +kernel
theorem dX9_judge_182 : decode cX9_judge 182 = .ok (.aload_n 0, 1) := by decide +kernel
theorem dX9_judge_183 : decode cX9_judge 183 = .ok (.iload_n 1, 1) := by decide +kernel
theorem dX9_judge_184 : decode cX9_judge 184 = .ok (.iload_n 2, 1) := by decide +kernel
theorem dX9_judge_185 : decode cX9_judge 185 = .ok (.iconst 2, 1) := by decide +kernel
theorem dX9_judge_186 : decode cX9_judge 186 = .ok (.iadd, 1) := by decide +kernel
theorem dX9_judge_187 : decode cX9_judge 187 = .ok (.invokevirtual 160, 3) := by decide +kernel
theorem dX9_judge_190 : decode cX9_judge 190 = .ok (.goto 4, 3) := by decide +kernel
theorem dX9_judge_193 : decode cX9_judge 193 = .ok (.iconst 0, 1) := by decide +kernel
theorem dX9_judge_194 : decode cX9_judge 194 = .ok (.istore 6, 2) := by decide +kernel
theorem dX9_judge_196 : decode cX9_judge 196 = .ok (.iconst 1, 1) := by decide +kernel
theorem dX9_judge_197 : decode cX9_judge 197 = .ok (.istore 7, 2) := by decide +kernel
theorem dX9_judge_199 : decode cX9_judge 199 = .ok (.iload_n 3, 1) := by decide +kernel
theorem dX9_judge_200 : decode cX9_judge 200 = .ok (.ifCond .ne 9, 3) := by decide +kernel
theorem dX9_judge_203 : decode cX9_judge 203 = .ok (.iconst 1, 1) := by decide +kernel
theorem dX9_judge_204 : decode cX9_judge 204 = .ok (.istore 7, 2) := by decide +kernel
theorem dX9_judge_206 : decode cX9_judge 206 = .ok (.goto 364, 3) := by decide +kernel
theorem dX9_judge_209 : decode cX9_judge 209 = .ok (.iload_n 3, 1) := by decide +kernel
theorem dX9_judge_210 : decode cX9_judge 210 = .ok (.bipush 46, 2) := by decide +kernel
theorem dX9_judge_212 : decode cX9_judge 212 = .ok (.if_icmp .ge 14, 3) := by decide +kernel
theorem dX9_judge_215 : decode cX9_judge 215 = .ok (.aload_n 0, 1) := by decide +kernel
theorem dX9_judge_216 : decode cX9_judge 216 = .ok (.iload_n 1, 1) := by decide +kernel
theorem dX9_judge_217 : decode cX9_judge 217 = .ok (.iload_n 3, 1) := by decide +kernel
theorem dX9_judge_218 : decode cX9_judge 218 = .ok (.iload 5, 2) := by decide +kernel
theorem dX9_judge_220 : decode cX9_judge 220 = .ok (.invokevirtual 178, 3) := by decide +kernel
theorem dX9_judge_223 : decode cX9_judge 223 = .ok (.goto 347, 3) := by decide +kernel
theorem dX9_judge_226 : decode cX9_judge 226 = .ok (.iload_n 3, 1) := by decide +kernel
theorem dX9_judge_227 : decode cX9_judge 227 = .ok (.bipush 60, 2) := by decide +kernel
theorem dX9_judge_229 : decode cX9_judge 229 = .ok (.if_icmp .ge 88, 3) := by decide +kernel
theorem dX9_judge_232 : decode cX9_judge 232 = .ok (.iload_n 3, 1) := by decide +kernel
theorem dX9_judge_233 : decode cX9_judge 233 = .ok (.bipush 53, 2) := by decide +kernel
theorem dX9_judge_235 : decode cX9_judge 235 = .ok (.if_icmp .le 82, 3) := by decide +kernel
theorem dX9_judge_238 : decode cX9_judge 238 = .ok (.iload_n 3, 1) := by decide +kernel
theorem dX9_judge_239 : decode cX9_judge 239 = .ok (.bipush 54, 2) := by decide +kernel
theorem dX9_judge_241 : decode cX9_judge 241 = .ok (.if_icmp .ne 7, 3) := by decide +kernel
theorem dX9_judge_244 : decode cX9_judge 244 = .ok (.iconst 1, 1) := by decide +kernel
theorem dX9_judge_245 : decode cX9_judge 245 = .ok (.goto 14, 3) := by decide +kernel
theorem dX9_judge_248 : decode cX9_judge 248 = .ok (.iload_n 3, 1) := by decide +kernel
theorem dX9_judge_249 : decode cX9_judge 249 = .ok (.bipush 55, 2) := by decide +kernel
theorem dX9_judge_251 : decode cX9_judge 251 = .ok (.if_icmp .ne 7, 3) := by decide +kernel
theorem dX9_judge_254 : decode cX9_judge 254 = .ok (.iconst 2, 1) := by decide +kernel
theorem dX9_judge_255 : decode cX9_judge 255 = .ok (.goto 4, 3) := by decide +kernel
theorem dX9_judge_258 : decode cX9_judge 258 = .ok (.iconst 3, 1) := by decide +kernel
theorem dX9_judge_259 : decode cX9_judge 259 = .ok (.istore 8, 2) := by decide +kernel
theorem dX9_judge_261 : decode cX9_judge 261 = .ok (.aload_n 0, 1) := by decide +kernel
theorem dX9_judge_262 : decode cX9_judge 262 = .ok (.iload 8, 2) := by decide +kernel
theorem dX9_judge_264 : decode cX9_judge 264 = .ok (.invokevirtual 182, 3) := by decide +kernel
theorem dX9_judge_267 : decode cX9_judge 267 = .ok (.aload_n 0, 1) := by decide +kernel
theorem dX9_judge_268 : decode cX9_judge 268 = .ok (.aload_n 0, 1) := by decide +kernel
theorem dX9_judge_269 : decode cX9_judge 269 = .ok (.getfield 143, 3) := by decide +kernel
theorem dX9_judge_272 : decode cX9_judge 272 = .ok (.ifCond .eq 18, 3) := by decide +kernel
theorem dX9_judge_275 : decode cX9_judge 275 = .ok (.iload 5, 2) := by decide +kernel
theorem dX9_judge_277 : decode cX9_judge 277 = .ok (.aload_n 0, 1) := by decide +kernel
theorem dX9_judge_278 : decode cX9_judge 278 = .ok (.getfield 37, 3) := by decide +kernel
theorem dX9_judge_281 : decode cX9_judge 281 = .ok (.iload_n 1, 1) := by decide +kernel
theorem dX9_judge_282 : decode cX9_judge 282 = .ok (.iaload, 1) := by decide +kernel
theorem dX9_judge_283 : decode cX9_judge 283 = .ok (.if_icmp .ge 7, 3) := by decide +kernel
theorem dX9_judge_286 : decode cX9_judge 286 = .ok (.iconst 1, 1) := by decide +kernel
theorem dX9_judge_287 : decode cX9_judge 287 = .ok (.goto 4, 3) := by decide +kernel
theorem dX9_judge_290 : decode cX9_judge 290 = .ok (.iconst 0, 1) := by decide +kernel
theorem dX9_judge_291 : decode cX9_judge 291 = .ok (.putfield 143, 3) := by decide +kernel
theorem dX9_judge_294 : decode cX9_judge 294 = .ok (.aload_n 0, 1) := by decide +kernel
theorem dX9_judge_295 : decode cX9_judge 295 = .ok (.getfield 68, 3) := by decide +kernel
theorem dX9_judge_298 : decode cX9_judge 298 = .ok (.aload_n 0, 1) := by decide +kernel
theorem dX9_judge_299 : decode cX9_judge 299 = .ok (.getfield 143, 3) := by decide +kernel
theorem dX9_judge_302 : decode cX9_judge 302 = .ok (.ifCond .eq 8, 3) := by decide +kernel
theorem dX9_judge_305 : decode cX9_judge 305 = .ok (.iload 5, 2) := by decide +kernel
theorem dX9_judge_307 : decode cX9_judge 307 = .ok (.goto 4, 3) := by decide +kernel
theorem dX9_judge_310 : decode cX9_judge 310 = .ok (.iconst 0, 1) := by decide +kernel
theorem dX9_judge_311 : decode cX9_judge 311 = .ok (.iload 8, 2) := by decide +kernel
theorem dX9_judge_313 : decode cX9_judge 313 = .ok (.iastore, 1) := by decide +kernel
theorem dX9_judge_314 : decode cX9_judge 314 = .ok (.goto 256, 3) := by decide +kernel
theorem dX9_judge_317 : decode cX9_judge 317 = .ok (.iload_n 3, 1) := by decide +kernel
theorem dX9_judge_318 : decode cX9_judge 318 = .ok (.bipush 54, 2) := by decide +kernel
theorem dX9_judge_320 : decode cX9_judge 320 = .ok (.if_icmp .ge 25, 3) := by decide +kernel
theorem dX9_judge_323 : decode cX9_judge 323 = .ok (.aload_n 0, 1) := by decide +kernel
theorem dX9_judge_324 : decode cX9_judge 324 = .ok (.iconst 1, 1) := by decide +kernel
theorem dX9_judge_325 : decode cX9_judge 325 = .ok (.invokevirtual 182, 3) := by decide +kernel
theorem dX9_judge_328 : decode cX9_judge 328 = .ok (.aload_n 0, 1) := by decide +kernel
theorem dX9_judge_329 : decode cX9_judge 329 = .ok (.iconst 3, 1) := by decide +kernel
theorem dX9_judge_330 : decode cX9_judge 330 = .ok (.invokevirtual 182, 3) := by decide +kernel
theorem dX9_judge_333 : decode cX9_judge 333 = .ok (.aload_n 0, 1) := by decide +kernel
theorem dX9_judge_334 : decode cX9_judge 334 = .ok (.iload_n 1, 1) := by decide +kernel
theorem dX9_judge_335 : decode cX9_judge 335 = .ok (.iload_n 3, 1) := by decide +kernel
theorem dX9_judge_336 : decode cX9_judge 336 = .ok (.invokestatic 185, 3) := by decide +kernel
theorem dX9_judge_339 : decode cX9_judge 339 = .ok (.invokevirtual 172, 3) := by decide +kernel
theorem dX9_judge_342 : decode cX9_judge 342 = .ok (.goto 228, 3) := by decide +kernel
theorem dX9_judge_345 : decode cX9_judge 345 = .ok (.iload_n 3, 1) := by decide +kernel
theorem dX9_judge_346 : decode cX9_judge 346 = .ok (.bipush 87, 2) := by decide +kernel
theorem dX9_judge_348 : decode cX9_judge 348 = .ok (.if_icmp .ge 24, 3) := by decide +kernel
theorem dX9_judge_351 : decode cX9_judge 351 = .ok (.aload_n 0, 1) := by decide +kernel
theorem dX9_judge_352 : decode cX9_judge 352 = .ok (.iload_n 3, 1) := by decide +kernel
theorem dX9_judge_353 : decode cX9_judge 353 = .ok (.invokestatic 185, 3) := by decide +kernel
theorem dX9_judge_356 : decode cX9_judge 356 = .ok (.invokevirtual 182, 3) := by decide +kernel
theorem dX9_judge_359 : decode cX9_judge 359 = .ok (.aload_n 0, 1) := by decide +kernel
theorem dX9_judge_360 : decode cX9_judge 360 = .ok (.iconst 1, 1) := by decide +kernel
theorem dX9_judge_361 : decode cX9_judge 361 = .ok (.invokevirtual 182, 3) := by decide +kernel
theorem dX9_judge_364 : decode cX9_judge 364 = .ok (.aload_n 0, 1) := by decide +kernel
theorem dX9_judge_365 : decode cX9_judge 365 = .ok (.iconst 3, 1) := by decide +kernel
theorem dX9_judge_366 : decode cX9_judge 366 = .ok (.invokevirtual 182, 3) := by decide +kernel
theorem dX9_judge_369 : decode cX9_judge 369 = .ok (.goto 201, 3) := by decide +kernel
theorem dX9_judge_372 : decode cX9_judge 372 = .ok (.iload_n 3, 1) := by decide +kernel
theorem dX9_judge_373 : decode cX9_judge 373 = .ok (.bipush 96, 2) := by decide +kernel
theorem dX9_judge_375 : decode cX9_judge 375 = .ok (.if_icmp .ge 12, 3) := by decide +kernel
theorem dX9_judge_378 : decode cX9_judge 378 = .ok (.aload_n 0, 1) := by decide +kernel
theorem dX9_judge_379 : decode cX9_judge 379 = .ok (.iload_n 1, 1) := by decide +kernel
theorem dX9_judge_380 : decode cX9_judge 380 = .ok (.iload_n 3, 1) := by decide +kernel
theorem dX9_judge_381 : decode cX9_judge 381 = .ok (.invokevirtual 188, 3) := by decide +kernel
theorem dX9_judge_384 : decode cX9_judge 384 = .ok (.goto 186, 3) := by decide +kernel
theorem dX9_judge_387 : decode cX9_judge 387 = .ok (.iload_n 3, 1) := by decide +kernel
theorem dX9_judge_388 : decode cX9_judge 388 = .ok (.sipush 149, 3) := by decide +kernel
theorem dX9_judge_391 : decode cX9_judge 391 = .ok (.if_icmp .ge 14, 3) := by decide +kernel
theorem dX9_judge_394 : decode cX9_judge 394 = .ok (.aload_n 0, 1) := by decide +kernel
theorem dX9_judge_395 : decode cX9_judge 395 = .ok (.iload_n 1, 1) := by decide +kernel
theorem dX9_judge_396 : decode cX9_judge 396 = .ok (.iload_n 3, 1) := by decide +kernel
theorem dX9_judge_397 : decode cX9_judge 397 = .ok (.iload 5, 2) := by decide +kernel
theorem dX9_judge_399 : decode cX9_judge 399 = .ok (.invokevirtual 191, 3) := by decide +kernel
theorem dX9_judge_402 : decode cX9_judge 402 = .ok (.goto 168, 3) := by decide +kernel
theorem dX9_judge_405 : decode cX9_judge 405 = .ok (.iload_n 3, 1) := by decide +kernel
theorem dX9_judge_406 : decode cX9_judge 406 = .ok (.sipush 168, 3) := by decide +kernel
theorem dX9_judge_409 : decode cX9_judge 409 = .ok (.if_icmp .lt 10, 3) := by decide +kernel
theorem dX9_judge_412 : decode cX9_judge 412 = .ok (.iload_n 3, 1) := by decide +kernel
theorem dX9_judge_413 : decode cX9_judge 413 = .ok (.sipush 197, 3) := by decide +kernel
theorem dX9_judge_416 : decode cX9_judge 416 = .ok (.if_icmp .le 43, 3) := by decide +kernel
theorem dX9_judge_419 : decode cX9_judge 419 = .ok (.aload_n 0, 1) := by decide +kernel
theorem dX9_judge_420 : decode cX9_judge 420 = .ok (.iload_n 3, 1) := by decide +kernel
theorem dX9_judge_421 : decode cX9_judge 421 = .ok (.invokevirtual 194, 3) := by decide +kernel
theorem dX9_judge_424 : decode cX9_judge 424 = .ok (.aload_n 0, 1) := by decide +kernel
theorem dX9_judge_425 : decode cX9_judge 425 = .ok (.getfield 143, 3) := by decide +kernel
theorem dX9_judge_428 : decode cX9_judge 428 = .ok (.ifCond .eq 14, 3) := by decide +kernel
theorem dX9_judge_431 : decode cX9_judge 431 = .ok (.aload_n 0, 1) := by decide +kernel
theorem dX9_judge_432 : decode cX9_judge 432 = .ok (.iload_n 1, 1) := by decide +kernel
theorem dX9_judge_433 : decode cX9_judge 433 = .ok (.aload_n 0, 1) := by decide +kernel
theorem dX9_judge_434 : decode cX9_judge 434 = .ok (.iload_n 1, 1) := by decide +kernel
theorem dX9_judge_435 : decode cX9_judge 435 = .ok (.iload_n 2, 1) := by decide +kernel
theorem dX9_judge_436 : decode cX9_judge 436 = .ok (.invokevirtual 197, 3) := by decide +kernel
theorem dX9_judge_439 : decode cX9_judge 439 = .ok (.invokevirtual 150, 3) := by decide +kernel
theorem dX9_judge_442 : decode cX9_judge 442 = .ok (.iload_n 3, 1) := by decide +kernel
theorem dX9_judge_443 : decode cX9_judge 443 = .ok (.sipush 167, 3) := by decide +kernel
theorem dX9_judge_446 : decode cX9_judge 446 = .ok (.if_icmp .eq 7, 3) := by decide +kernel
theorem dX9_judge_449 : decode cX9_judge 449 = .ok (.iconst 1, 1) := by decide +kernel
theorem dX9_judge_450 : decode cX9_judge 450 = .ok (.goto 4, 3) := by decide +kernel
theorem dX9_judge_453 : decode cX9_judge 453 = .ok (.iconst 0, 1) := by decide +kernel
theorem dX9_judge_454 : decode cX9_judge 454 = .ok (.istore 7, 2) := by decide +kernel
theorem dX9_judge_456 : decode cX9_judge 456 = .ok (.goto 114, 3) := by decide +kernel
theorem dX9_judge_459 : decode cX9_judge 459 = .ok (.iload_n 3, 1) := by decide +kernel
theorem dX9_judge_460 : decode cX9_judge 460 = .ok (.sipush 178, 3) := by decide +kernel
theorem dX9_judge_463 : decode cX9_judge 463 = .ok (.if_icmp .ge 83, 3) := by decide +kernel
theorem dX9_judge_466 : decode cX9_judge 466 = .ok (.iload_n 3, 1) := by decide +kernel
theorem dX9_judge_467 : decode cX9_judge 467 = .ok (.sipush 172, 3) := by decide +kernel
theorem dX9_judge_470 : decode cX9_judge 470 = .ok (.if_icmp .ne 7, 3) := by decide +kernel
theorem dX9_judge_473 : decode cX9_judge 473 = .ok (.iconst 1, 1) := by decide +kernel
theorem dX9_judge_474 : decode cX9_judge 474 = .ok (.goto 26, 3) := by decide +kernel
theorem dX9_judge_477 : decode cX9_judge 477 = .ok (.iload_n 3, 1) := by decide +kernel
theorem dX9_judge_478 : decode cX9_judge 478 = .ok (.sipush 173, 3) := by decide +kernel
theorem dX9_judge_481 : decode cX9_judge 481 = .ok (.if_icmp .ne 7, 3) := by decide +kernel
theorem dX9_judge_484 : decode cX9_judge 484 = .ok (.iconst 2, 1) := by decide +kernel
theorem dX9_judge_485 : decode cX9_judge 485 = .ok (.goto 15, 3) := by decide +kernel
theorem dX9_judge_488 : decode cX9_judge 488 = .ok (.iload_n 3, 1) := by decide +kernel
theorem dX9_judge_489 : decode cX9_judge 489 = .ok (.sipush 176, 3) := by decide +kernel
theorem dX9_judge_492 : decode cX9_judge 492 = .ok (.if_icmp .ne 7, 3) := by decide +kernel
theorem dX9_judge_495 : decode cX9_judge 495 = .ok (.iconst 3, 1) := by decide +kernel
theorem dX9_judge_496 : decode cX9_judge 496 = .ok (.goto 4, 3) := by decide +kernel
theorem dX9_judge_499 : decode cX9_judge 499 = .ok (.iconst 0, 1) := by decide +kernel
theorem dX9_judge_500 : decode cX9_judge 500 = .ok (.istore 8, 2) := by decide +kernel
theorem dX9_judge_502 : decode cX9_judge 502 = .ok (.iload 8, 2) := by decide +kernel
theorem dX9_judge_504 : decode cX9_judge 504 = .ok (.ifCond .le 9, 3) := by decide +kernel
theorem dX9_judge_507 : decode cX9_judge 507 = .ok (.aload_n 0, 1) := by decide +kernel
theorem dX9_judge_508 : decode cX9_judge 508 = .ok (.iload 8, 2) := by decide +kernel
theorem dX9_judge_510 : decode cX9_judge 510 = .ok (.invokevirtual 182, 3) := by decide +kernel
theorem dX9_judge_513 : decode cX9_judge 513 = .ok (.aload_n 0, 1) := by decide +kernel
theorem dX9_judge_514 : decode cX9_judge 514 = .ok (.aload_n 0, 1) := by decide +kernel
theorem dX9_judge_515 : decode cX9_judge 515 = .ok (.getfield 143, 3) := by decide +kernel
theorem dX9_judge_518 : decode cX9_judge 518 = .ok (.ifCond .eq 18, 3) := by decide +kernel
theorem dX9_judge_521 : decode cX9_judge 521 = .ok (.aload_n 0, 1) := by decide +kernel
theorem dX9_judge_522 : decode cX9_judge 522 = .ok (.getfield 43, 3) := by decide +kernel
theorem dX9_judge_525 : decode cX9_judge 525 = .ok (.iload_n 1, 1) := by decide +kernel
theorem dX9_judge_526 : decode cX9_judge 526 = .ok (.iaload, 1) := by decide +kernel
theorem dX9_judge_527 : decode cX9_judge 527 = .ok (.iload 8, 2) := by decide +kernel
theorem dX9_judge_529 : decode cX9_judge 529 = .ok (.if_icmp .ne 7, 3) := by decide +kernel
theorem dX9_judge_532 : decode cX9_judge 532 = .ok (.iconst 1, 1) := by decide +kernel
theorem dX9_judge_533 : decode cX9_judge 533 = .ok (.goto 4, 3) := by decide +kernel
theorem dX9_judge_536 : decode cX9_judge 536 = .ok (.iconst 0, 1) := by decide +kernel
theorem dX9_judge_537 : decode cX9_judge 537 = .ok (.putfield 143, 3) := by decide +kernel
theorem dX9_judge_540 : decode cX9_judge 540 = .ok (.iconst 0, 1) := by decide +kernel
theorem dX9_judge_541 : decode cX9_judge 541 = .ok (.istore 7, 2) := by decide +kernel
theorem dX9_judge_543 : decode cX9_judge 543 = .ok (.goto 27, 3) := by decide +kernel
theorem dX9_judge_546 : decode cX9_judge 546 = .ok (.aload_n 0, 1) := by decide +kernel
theorem dX9_judge_547 : decode cX9_judge 547 = .ok (.iload_n 1, 1) := by decide +kernel
theorem dX9_judge_548 : decode cX9_judge 548 = .ok (.iload_n 3, 1) := by decide +kernel
theorem dX9_judge_549 : decode cX9_judge 549 = .ok (.iload 5, 2) := by decide +kernel
theorem dX9_judge_551 : decode cX9_judge 551 = .ok (.iload 6, 2) := by decide +kernel
theorem dX9_judge_553 : decode cX9_judge 553 = .ok (.invokevirtual 200, 3) := by decide +kernel
theorem dX9_judge_556 : decode cX9_judge 556 = .ok (.iload_n 3, 1) := by decide +kernel
theorem dX9_judge_557 : decode cX9_judge 557 = .ok (.sipush 191, 3) := by decide +kernel
theorem dX9_judge_560 : decode cX9_judge 560 = .ok (.if_icmp .eq 7, 3) := by decide +kernel
theorem dX9_judge_563 : decode cX9_judge 563 = .ok (.iconst 1, 1) := by decide +kernel
theorem dX9_judge_564 : decode cX9_judge 564 = .ok (.goto 4, 3) := by decide +kernel
theorem dX9_judge_567 : decode cX9_judge 567 = .ok (.iconst 0, 1) := by decide +kernel
theorem dX9_judge_568 : decode cX9_judge 568 = .ok (.istore 7, 2) := by decide +kernel
theorem dX9_judge_570 : decode cX9_judge 570 = .ok (.aload_n 0, 1) := by decide +kernel
theorem dX9_judge_571 : decode cX9_judge 571 = .ok (.getfield 143, 3) := by decide +kernel
theorem dX9_judge_574 : decode cX9_judge 574 = .ok (.ifCond .eq 17, 3) := by decide +kernel
theorem dX9_judge_577 : decode cX9_judge 577 = .ok (.iload 7, 2) := by decide +kernel
theorem dX9_judge_579 : decode cX9_judge 579 = .ok (.ifCond .eq 12, 3) := by decide +kernel
theorem dX9_judge_582 : decode cX9_judge 582 = .ok (.aload_n 0, 1) := by decide +kernel
theorem dX9_judge_583 : decode cX9_judge 583 = .ok (.iload_n 1, 1) := by decide +kernel
theorem dX9_judge_584 : decode cX9_judge 584 = .ok (.iload_n 2, 1) := by decide +kernel
theorem dX9_judge_585 : decode cX9_judge 585 = .ok (.iload 4, 2) := by decide +kernel
theorem dX9_judge_587 : decode cX9_judge 587 = .ok (.iadd, 1) := by decide +kernel
theorem dX9_judge_588 : decode cX9_judge 588 = .ok (.invokevirtual 150, 3) := by decide +kernel
theorem dX9_judge_591 : decode cX9_judge 591 = .ok (.return_, 1) := by decide +kernel
theorem dX9_isGood_0 : decode cX9_isGood 0 = .ok (.iconst 0, 1) := by decide +kernel
theorem dX9_isGood_1 : decode cX9_isGood 1 = .ok (.istore_n 2, 1) := by decide +kernel
theorem dX9_isGood_2 : decode cX9_isGood 2 = .ok (.iload_n 2, 1) := by decide +kernel
theorem dX9_isGood_3 : decode cX9_isGood 3 = .ok (.sipush 200, 3) := by decide +kernel
theorem dX9_isGood_6 : decode cX9_isGood 6 = .ok (.if_icmp .ge 16, 3) := by decide +kernel
theorem dX9_isGood_9 : decode cX9_isGood 9 = .ok (.aload_n 0, 1) := by decide +kernel
theorem dX9_isGood_10 : decode cX9_isGood 10 = .ok (.getfield 52, 3) := by decide +kernel
theorem dX9_isGood_13 : decode cX9_isGood 13 = .ok (.iload_n 2, 1) := by decide +kernel
theorem dX9_isGood_14 : decode cX9_isGood 14 = .ok (.iconst 0, 1) := by decide +kernel
theorem dX9_isGood_15 : decode cX9_isGood 15 = .ok (.bastore, 1) := by decide +kernel
theorem dX9_isGood_16 : decode cX9_isGood 16 = .ok (.iinc 2 1, 3) := by decide +kernel
theorem dX9_isGood_19 : decode cX9_isGood 19 = .ok (.goto (-17), 3) := by decide +kernel
theorem dX9_isGood_22 : decode cX9_isGood 22 = .ok (.aload_n 0, 1) := by decide +kernel
theorem dX9_isGood_23 : decode cX9_isGood 23 = .ok (.iconst 1, 1) := by decide +kernel
theorem dX9_isGood_24 : decode cX9_isGood 24 = .ok (.putfield 143, 3) := by decide +kernel
theorem dX9_isGood_27 : decode cX9_isGood 27 = .ok (.aload_n 0, 1) := by decide +kernel
theorem dX9_isGood_28 : decode cX9_isGood 28 = .ok (.iconst 0, 1) := by decide +kernel
theorem dX9_isGood_29 : decode cX9_isGood 29 = .ok (.putfield 147, 3) := by decide +kernel
theorem dX9_isGood_32 : decode cX9_isGood 32 = .ok (.iconst 0, 1) := by decide +kernel
theorem dX9_isGood_33 : decode cX9_isGood 33 = .ok (.istore_n 2, 1) := by decide +kernel
theorem dX9_isGood_34 : decode cX9_isGood 34 = .ok (.iload_n 2, 1) := by decide +kernel
theorem dX9_isGood_35 : decode cX9_isGood 35 = .ok (.bipush 16, 2) := by decide +kernel
theorem dX9_isGood_37 : decode cX9_isGood 37 = .ok (.if_icmp .ge 39, 3) := by decide +kernel
theorem dX9_isGood_40 : decode cX9_isGood 40 = .ok (.aload_n 0, 1) := by decide +kernel
theorem dX9_isGood_41 : decode cX9_isGood 41 = .ok (.getfield 68, 3) := by decide +kernel
theorem dX9_isGood_44 : decode cX9_isGood 44 = .ok (.iload_n 2, 1) := by decide +kernel
theorem dX9_isGood_45 : decode cX9_isGood 45 = .ok (.iload_n 2, 1) := by decide +kernel
theorem dX9_isGood_46 : decode cX9_isGood 46 = .ok (.aload_n 0, 1) := by decide +kernel
theorem dX9_isGood_47 : decode cX9_isGood 47 = .ok (.getfield 31, 3) := by decide +kernel
theorem dX9_isGood_50 : decode cX9_isGood 50 = .ok (.iload_n 1, 1) := by decide +kernel
theorem dX9_isGood_51 : decode cX9_isGood 51 = .ok (.iaload, 1) := by decide +kernel
theorem dX9_isGood_52 : decode cX9_isGood 52 = .ok (.if_icmp .ge 16, 3) := by decide +kernel
theorem dX9_isGood_55 : decode cX9_isGood 55 = .ok (.aload_n 0, 1) := by decide +kernel
theorem dX9_isGood_56 : decode cX9_isGood 56 = .ok (.getfield 34, 3) := by decide +kernel
theorem dX9_isGood_59 : decode cX9_isGood 59 = .ok (.iconst 4, 1) := by decide +kernel
theorem dX9_isGood_60 : decode cX9_isGood 60 = .ok (.iload_n 1, 1) := by decide +kernel
theorem dX9_isGood_61 : decode cX9_isGood 61 = .ok (.imul, 1) := by decide +kernel
theorem dX9_isGood_62 : decode cX9_isGood 62 = .ok (.iload_n 2, 1) := by decide +kernel
theorem dX9_isGood_63 : decode cX9_isGood 63 = .ok (.iadd, 1) := by decide +kernel
theorem dX9_isGood_64 : decode cX9_isGood 64 = .ok (.iaload, 1) := by decide +kernel
theorem dX9_isGood_65 : decode cX9_isGood 65 = .ok (.goto 4, 3) := by decide +kernel
theorem dX9_isGood_68 : decode cX9_isGood 68 = .ok (.iconst 0, 1) := by decide +kernel
theorem dX9_isGood_69 : decode cX9_isGood 69 = .ok (.iastore, 1) := by decide +kernel
theorem dX9_isGood_70 : decode cX9_isGood 70 = .ok (.iinc 2 1, 3) := by decide +kernel
theorem dX9_isGood_73 : decode cX9_isGood 73 = .ok (.goto (-39), 3) := by decide +kernel
theorem dX9_isGood_76 : decode cX9_isGood 76 = .ok (.aload_n 0, 1) := by decide +kernel
theorem dX9_isGood_77 : decode cX9_isGood 77 = .ok (.iload_n 1, 1) := by decide +kernel
theorem dX9_isGood_78 : decode cX9_isGood 78 = .ok (.iconst 0, 1) := by decide +kernel
theorem dX9_isGood_79 : decode cX9_isGood 79 = .ok (.invokevirtual 150, 3) := by decide +kernel
theorem dX9_isGood_82 : decode cX9_isGood 82 = .ok (.aload_n 0, 1) := by decide +kernel
theorem dX9_isGood_83 : decode cX9_isGood 83 = .ok (.iconst 1, 1) := by decide +kernel
theorem dX9_isGood_84 : decode cX9_isGood 84 = .ok (.putfield 154, 3) := by decide +kernel
theorem dX9_isGood_87 : decode cX9_isGood 87 = .ok (.aload_n 0, 1) := by decide +kernel
theorem dX9_isGood_88 : decode cX9_isGood 88 = .ok (.getfield 154, 3) := by decide +kernel
theorem dX9_isGood_91 : decode cX9_isGood 91 = .ok (.ifCond .eq 58, 3) := by decide +kernel
theorem dX9_isGood_94 : decode cX9_isGood 94 = .ok (.aload_n 0, 1) := by decide +kernel
theorem dX9_isGood_95 : decode cX9_isGood 95 = .ok (.getfield 143, 3) := by decide +kernel
theorem dX9_isGood_98 : decode cX9_isGood 98 = .ok (.ifCond .eq 51, 3) := by decide +kernel
theorem dX9_isGood_101 : decode cX9_isGood 101 = .ok (.aload_n 0, 1) := by decide +kernel
theorem dX9_isGood_102 : decode cX9_isGood 102 = .ok (.iconst 0, 1) := by decide +kernel
theorem dX9_isGood_103 : decode cX9_isGood 103 = .ok (.putfield 154, 3) := by decide +kernel
theorem dX9_isGood_106 : decode cX9_isGood 106 = .ok (.iconst 0, 1) := by decide +kernel
theorem dX9_isGood_107 : decode cX9_isGood 107 = .ok (.istore_n 2, 1) := by decide +kernel
theorem dX9_isGood_108 : decode cX9_isGood 108 = .ok (.iload_n 2, 1) := by decide +kernel
theorem dX9_isGood_109 : decode cX9_isGood 109 = .ok (.aload_n 0, 1) := by decide +kernel
theorem dX9_isGood_110 : decode cX9_isGood 110 = .ok (.getfield 49, 3) := by decide +kernel
theorem dX9_isGood_113 : decode cX9_isGood 113 = .ok (.iload_n 1, 1) := by decide +kernel
theorem dX9_isGood_114 : decode cX9_isGood 114 = .ok (.iaload, 1) := by decide +kernel
theorem dX9_isGood_115 : decode cX9_isGood 115 = .ok (.if_icmp .ge 31, 3) := by decide +kernel
theorem dX9_isGood_118 : decode cX9_isGood 118 = .ok (.aload_n 0, 1) := by decide +kernel
theorem dX9_isGood_119 : decode cX9_isGood 119 = .ok (.getfield 143, 3) := by decide +kernel
theorem dX9_isGood_122 : decode cX9_isGood 122 = .ok (.ifCond .eq 24, 3) := by decide +kernel
theorem dX9_isGood_125 : decode cX9_isGood 125 = .ok (.aload_n 0, 1) := by decide +kernel
theorem dX9_isGood_126 : decode cX9_isGood 126 = .ok (.getfield 52, 3) := by decide +kernel
theorem dX9_isGood_129 : decode cX9_isGood 129 = .ok (.iload_n 2, 1) := by decide +kernel
theorem dX9_isGood_130 : decode cX9_isGood 130 = .ok (.baload, 1) := by decide +kernel
theorem dX9_isGood_131 : decode cX9_isGood 131 = .ok (.ifCond .eq 9, 3) := by decide +kernel
theorem dX9_isGood_134 : decode cX9_isGood 134 = .ok (.aload_n 0, 1) := by decide +kernel
theorem dX9_isGood_135 : decode cX9_isGood 135 = .ok (.iload_n 1, 1) := by decide +kernel
theorem dX9_isGood_136 : decode cX9_isGood 136 = .ok (.iload_n 2, 1) := by decide +kernel
theorem dX9_isGood_137 : decode cX9_isGood 137 = .ok (.invokevirtual 157, 3) := by decide +kernel
theorem dX9_isGood_140 : decode cX9_isGood 140 = .ok (.iinc 2 1, 3) := by decide +kernel
theorem dX9_isGood_143 : decode cX9_isGood 143 = .ok (.goto (-35), 3) := by decide +kernel
theorem dX9_isGood_146 : decode cX9_isGood 146 = .ok (.goto (-59), 3) := by decide +kernel
theorem dX9_isGood_149 : decode cX9_isGood 149 = .ok (.aload_n 0, 1) := by decide +kernel
theorem dX9_isGood_150 : decode cX9_isGood 150 = .ok (.getfield 143, 3) := by decide +kernel
theorem dX9_isGood_153 : decode cX9_isGood 153 = .ok (.ireturn, 1) := by decide +kernel
theorem dX9_method_0 : decode cX9_method 0 = .ok (.iconst 0, 1) := by decide +kernel
theorem dX9_method_1 : decode cX9_method 1 = .ok (.istore 5, 2) := by decide +kernel
theorem dX9_method_3 : decode cX9_method 3 = .ok (.iload_n 1, 1) := by decide +kernel
theorem dX9_method_4 : decode cX9_method 4 = .ok (.istore 6, 2) := by decide +kernel
theorem dX9_method_6 : decode cX9_method 6 = .ok (.iload_n 1, 1) := by decide +kernel
theorem dX9_method_7 : decode cX9_method 7 = .ok (.ifCond .lt 35, 3) := by decide +kernel
theorem dX9_method_10 : decode cX9_method 10 = .ok (.iload_n 1, 1) := by decide +kernel
theorem dX9_method_11 : decode cX9_method 11 = .ok (.sipush 255, 3) := by decide +kernel
theorem dX9_method_14 : decode cX9_method 14 = .ok (.if_icmp .gt 28, 3) := by decide +kernel
theorem dX9_method_17 : decode cX9_method 17 = .ok (.iload_n 3, 1) := by decide +kernel
theorem dX9_method_18 : decode cX9_method 18 = .ok (.ifCond .lt 24, 3) := by decide +kernel
theorem dX9_method_21 : decode cX9_method 21 = .ok (.iload_n 3, 1) := by decide +kernel
theorem dX9_method_22 : decode cX9_method 22 = .ok (.bipush 12, 2) := by decide +kernel
theorem dX9_method_24 : decode cX9_method 24 = .ok (.if_icmp .gt 18, 3) := by decide +kernel
theorem dX9_method_27 : decode cX9_method 27 = .ok (.iload 4, 2) := by decide +kernel
theorem dX9_method_29 : decode cX9_method 29 = .ok (.ifCond .lt 13, 3) := by decide +kernel
theorem dX9_method_32 : decode cX9_method 32 = .ok (.iload 4, 2) := by decide +kernel
theorem dX9_method_34 : decode cX9_method 34 = .ok (.iconst 3, 1) := by decide +kernel
theorem dX9_method_35 : decode cX9_method 35 = .ok (.if_icmp .gt 7, 3) := by decide +kernel
theorem dX9_method_38 : decode cX9_method 38 = .ok (.iconst 1, 1) := by decide +kernel
theorem dX9_method_39 : decode cX9_method 39 = .ok (.goto 4, 3) := by decide +kernel
theorem dX9_method_42 : decode cX9_method 42 = .ok (.iconst 0, 1) := by decide +kernel
theorem dX9_method_43 : decode cX9_method 43 = .ok (.istore 7, 2) := by decide +kernel
theorem dX9_method_45 : decode cX9_method 45 = .ok (.iload 7, 2) := by decide +kernel
theorem dX9_method_47 : decode cX9_method 47 = .ok (.ifCond .eq 22, 3) := by decide +kernel
theorem dX9_method_50 : decode cX9_method 50 = .ok (.iload 6, 2) := by decide +kernel
theorem dX9_method_52 : decode cX9_method 52 = .ok (.iconst 4, 1) := by decide +kernel
theorem dX9_method_53 : decode cX9_method 53 = .ok (.irem, 1) := by decide +kernel
theorem dX9_method_54 : decode cX9_method 54 = .ok (.ifCond .le 15, 3) := by decide +kernel
theorem dX9_method_57 : decode cX9_method 57 = .ok (.iinc 5 1, 3) := by decide +kernel
theorem dX9_method_60 : decode cX9_method 60 = .ok (.iload 6, 2) := by decide +kernel
theorem dX9_method_62 : decode cX9_method 62 = .ok (.iconst 4, 1) := by decide +kernel
theorem dX9_method_63 : decode cX9_method 63 = .ok (.idiv, 1) := by decide +kernel
theorem dX9_method_64 : decode cX9_method 64 = .ok (.istore 6, 2) := by decide +kernel
theorem dX9_method_66 : decode cX9_method 66 = .ok (.goto (-21), 3) := by decide +kernel
theorem dX9_method_69 : decode cX9_method 69 = .ok (.aload_n 0, 1) := by decide +kernel
theorem dX9_method_70 : decode cX9_method 70 = .ok (.iload 7, 2) := by decide +kernel
theorem dX9_method_72 : decode cX9_method 72 = .ok (.ifCond .eq 15, 3) := by decide +kernel
theorem dX9_method_75 : decode cX9_method 75 = .ok (.iload_n 2, 1) := by decide +kernel
theorem dX9_method_76 : decode cX9_method 76 = .ok (.iload 5, 2) := by decide +kernel
theorem dX9_method_78 : decode cX9_method 78 = .ok (.if_icmp .lt 9, 3) := by decide +kernel
theorem dX9_method_81 : decode cX9_method 81 = .ok (.iload_n 2, 1) := by decide +kernel
theorem dX9_method_82 : decode cX9_method 82 = .ok (.bipush 16, 2) := by decide +kernel
theorem dX9_method_84 : decode cX9_method 84 = .ok (.if_icmp .le 7, 3) := by decide +kernel
theorem dX9_method_87 : decode cX9_method 87 = .ok (.iconst 1, 1) := by decide +kernel
theorem dX9_method_88 : decode cX9_method 88 = .ok (.goto 17, 3) := by decide +kernel
theorem dX9_method_91 : decode cX9_method 91 = .ok (.aload_n 0, 1) := by decide +kernel
theorem dX9_method_92 : decode cX9_method 92 = .ok (.getfield 136, 3) := by decide +kernel
theorem dX9_method_95 : decode cX9_method 95 = .ok (.bipush 20, 2) := by decide +kernel
theorem dX9_method_97 : decode cX9_method 97 = .ok (.if_icmp .ne 7, 3) := by decide +kernel
theorem dX9_method_100 : decode cX9_method 100 = .ok (.iconst 2, 1) := by decide +kernel
theorem dX9_method_101 : decode cX9_method 101 = .ok (.goto 4, 3) := by decide +kernel
theorem dX9_method_104 : decode cX9_method 104 = .ok (.iconst 0, 1) := by decide +kernel
theorem dX9_method_105 : decode cX9_method 105 = .ok (.putfield 127, 3) := by decide +kernel
theorem dX9_method_108 : decode cX9_method 108 = .ok (.aload_n 0, 1) := by decide +kernel
theorem dX9_method_109 : decode cX9_method 109 = .ok (.getfield 127, 3) := by decide +kernel
theorem dX9_method_112 : decode cX9_method 112 = .ok (.ifCond .le 5, 3) := by decide +kernel
theorem dX9_method_115 : decode cX9_method 115 = .ok (.iconst 0, 1) := by decide +kernel
theorem dX9_method_116 : decode cX9_method 116 = .ok (.ireturn, 1) := by decide +kernel
theorem dX9_method_117 : decode cX9_method 117 = .ok (.aload_n 0, 1) := by decide +kernel
theorem dX9_method_118 : decode cX9_method 118 = .ok (.getfield 136, 3) := by decide +kernel
theorem dX9_method_121 : decode cX9_method 121 = .ok (.istore 8, 2) := by decide +kernel
theorem dX9_method_123 : decode cX9_method 123 = .ok (.aload_n 0, 1) := by decide +kernel
theorem dX9_method_124 : decode cX9_method 124 = .ok (.getfield 31, 3) := by decide +kernel
theorem dX9_method_127 : decode cX9_method 127 = .ok (.iload 8, 2) := by decide +kernel
theorem dX9_method_129 : decode cX9_method 129 = .ok (.iload 5, 2) := by decide +kernel
theorem dX9_method_131 : decode cX9_method 131 = .ok (.iastore, 1) := by decide +kernel
theorem dX9_method_132 : decode cX9_method 132 = .ok (.iload_n 1, 1) := by decide +kernel
theorem dX9_method_133 : decode cX9_method 133 = .ok (.istore 6, 2) := by decide +kernel
theorem dX9_method_135 : decode cX9_method 135 = .ok (.iconst 0, 1) := by decide +kernel
theorem dX9_method_136 : decode cX9_method 136 = .ok (.istore 9, 2) := by decide +kernel
theorem dX9_method_138 : decode cX9_method 138 = .ok (.iload 9, 2) := by decide +kernel
theorem dX9_method_140 : decode cX9_method 140 = .ok (.iload 5, 2) := by decide +kernel
theorem dX9_method_142 : decode cX9_method 142 = .ok (.if_icmp .ge 31, 3) := by decide +kernel
theorem dX9_method_145 : decode cX9_method 145 = .ok (.aload_n 0, 1) := by decide +kernel
theorem dX9_method_146 : decode cX9_method 146 = .ok (.getfield 34, 3) := by decide +kernel
theorem dX9_method_149 : decode cX9_method 149 = .ok (.iconst 4, 1) := by decide +kernel
theorem dX9_method_150 : decode cX9_method 150 = .ok (.iload 8, 2) := by decide +kernel
theorem dX9_method_152 : decode cX9_method 152 = .ok (.imul, 1) := by decide +kernel
theorem dX9_method_153 : decode cX9_method 153 = .ok (.iload 9, 2) := by decide +kernel
theorem dX9_method_155 : decode cX9_method 155 = .ok (.iadd, 1) := by decide +kernel
theorem dX9_method_156 : decode cX9_method 156 = .ok (.iload 6, 2) := by decide +kernel
theorem dX9_method_158 : decode cX9_method 158 = .ok (.iconst 4, 1) := by decide +kernel
theorem dX9_method_159 : decode cX9_method 159 = .ok (.irem, 1) := by decide +kernel
theorem dX9_method_160 : decode cX9_method 160 = .ok (.iastore, 1) := by decide +kernel
theorem dX9_method_161 : decode cX9_method 161 = .ok (.iload 6, 2) := by decide +kernel
theorem dX9_method_163 : decode cX9_method 163 = .ok (.iconst 4, 1) := by decide +kernel
theorem dX9_method_164 : decode cX9_method 164 = .ok (.idiv, 1) := by decide +kernel
theorem dX9_method_165 : decode cX9_method 165 = .ok (.istore 6, 2) := by decide +kernel
theorem dX9_method_167 : decode cX9_method 167 = .ok (.iinc 9 1, 3) := by decide +kernel
theorem dX9_method_170 : decode cX9_method 170 = .ok (.goto (-32), 3) := by decide +kernel
theorem dX9_method_173 : decode cX9_method 173 = .ok (.aload_n 0, 1) := by decide +kernel
theorem dX9_method_174 : decode cX9_method 174 = .ok (.getfield 37, 3) := by decide +kernel
theorem dX9_method_177 : decode cX9_method 177 = .ok (.iload 8, 2) := by decide +kernel
theorem dX9_method_179 : decode cX9_method 179 = .ok (.iload_n 2, 1) := by decide +kernel
theorem dX9_method_180 : decode cX9_method 180 = .ok (.iastore, 1) := by decide +kernel
theorem dX9_method_181 : decode cX9_method 181 = .ok (.aload_n 0, 1) := by decide +kernel
theorem dX9_method_182 : decode cX9_method 182 = .ok (.getfield 40, 3) := by decide +kernel
theorem dX9_method_185 : decode cX9_method 185 = .ok (.iload 8, 2) := by decide +kernel
theorem dX9_method_187 : decode cX9_method 187 = .ok (.iload_n 3, 1) := by decide +kernel
theorem dX9_method_188 : decode cX9_method 188 = .ok (.iastore, 1) := by decide +kernel
theorem dX9_method_189 : decode cX9_method 189 = .ok (.aload_n 0, 1) := by decide +kernel
theorem dX9_method_190 : decode cX9_method 190 = .ok (.getfield 43, 3) := by decide +kernel
theorem dX9_method_193 : decode cX9_method 193 = .ok (.iload 8, 2) := by decide +kernel
theorem dX9_method_195 : decode cX9_method 195 = .ok (.iload 4, 2) := by decide +kernel
theorem dX9_method_197 : decode cX9_method 197 = .ok (.iastore, 1) := by decide +kernel
theorem dX9_method_198 : decode cX9_method 198 = .ok (.aload_n 0, 1) := by decide +kernel
theorem dX9_method_199 : decode cX9_method 199 = .ok (.getfield 49, 3) := by decide +kernel
theorem dX9_method_202 : decode cX9_method 202 = .ok (.iload 8, 2) := by decide +kernel
theorem dX9_method_204 : decode cX9_method 204 = .ok (.aload_n 0, 1) := by decide +kernel
theorem dX9_method_205 : decode cX9_method 205 = .ok (.getfield 130, 3) := by decide +kernel
theorem dX9_method_208 : decode cX9_method 208 = .ok (.iastore, 1) := by decide +kernel
theorem dX9_method_209 : decode cX9_method 209 = .ok (.iconst 0, 1) := by decide +kernel
theorem dX9_method_210 : decode cX9_method 210 = .ok (.istore 9, 2) := by decide +kernel
theorem dX9_method_212 : decode cX9_method 212 = .ok (.iload 9, 2) := by decide +kernel
theorem dX9_method_214 : decode cX9_method 214 = .ok (.aload_n 0, 1) := by decide +kernel
theorem dX9_method_215 : decode cX9_method 215 = .ok (.getfield 130, 3) := by decide +kernel
theorem dX9_method_218 : decode cX9_method 218 = .ok (.if_icmp .ge 30, 3) := by decide +kernel
theorem dX9_method_221 : decode cX9_method 221 = .ok (.aload_n 0, 1) := by decide +kernel
theorem dX9_method_222 : decode cX9_method 222 = .ok (.getfield 46, 3) := by decide +kernel
theorem dX9_method_225 : decode cX9_method 225 = .ok (.sipush 200, 3) := by decide +kernel
theorem dX9_method_228 : decode cX9_method 228 = .ok (.iload 8, 2) := by decide +kernel
theorem dX9_method_230 : decode cX9_method 230 = .ok (.imul, 1) := by decide +kernel
theorem dX9_method_231 : decode cX9_method 231 = .ok (.iload 9, 2) := by decide +kernel
theorem dX9_method_233 : decode cX9_method 233 = .ok (.iadd, 1) := by decide +kernel
theorem dX9_method_234 : decode cX9_method 234 = .ok (.aload_n 0, 1) := by decide +kernel
theorem dX9_method_235 : decode cX9_method 235 = .ok (.getfield 19, 3) := by decide +kernel
theorem dX9_method_238 : decode cX9_method 238 = .ok (.iload 9, 2) := by decide +kernel
theorem dX9_method_240 : decode cX9_method 240 = .ok (.iaload, 1) := by decide +kernel
theorem dX9_method_241 : decode cX9_method 241 = .ok (.iastore, 1) := by decide +kernel
theorem dX9_method_242 : decode cX9_method 242 = .ok (.iinc 9 1, 3) := by decide +kernel
theorem dX9_method_245 : decode cX9_method 245 = .ok (.goto (-33), 3) := by decide +kernel
theorem dX9_method_248 : decode cX9_method 248 = .ok (.aload_n 0, 1) := by decide +kernel
theorem dX9_method_249 : decode cX9_method 249 = .ok (.getfield 28, 3) := by decide +kernel
theorem dX9_method_252 : decode cX9_method 252 = .ok (.iload 8, 2) := by decide +kernel
theorem dX9_method_254 : decode cX9_method 254 = .ok (.aload_n 0, 1) := by decide +kernel
theorem dX9_method_255 : decode cX9_method 255 = .ok (.getfield 133, 3) := by decide +kernel
theorem dX9_method_258 : decode cX9_method 258 = .ok (.iastore, 1) := by decide +kernel
theorem dX9_method_259 : decode cX9_method 259 = .ok (.iconst 0, 1) := by decide +kernel
theorem dX9_method_260 : decode cX9_method 260 = .ok (.istore 9, 2) := by decide +kernel
theorem dX9_method_262 : decode cX9_method 262 = .ok (.iload 9, 2) := by decide +kernel
theorem dX9_method_264 : decode cX9_method 264 = .ok (.iconst 4, 1) := by decide +kernel
theorem dX9_method_265 : decode cX9_method 265 = .ok (.aload_n 0, 1) := by decide +kernel
theorem dX9_method_266 : decode cX9_method 266 = .ok (.getfield 133, 3) := by decide +kernel
theorem dX9_method_269 : decode cX9_method 269 = .ok (.imul, 1) := by decide +kernel
theorem dX9_method_270 : decode cX9_method 270 = .ok (.if_icmp .ge 29, 3) := by decide +kernel
theorem dX9_method_273 : decode cX9_method 273 = .ok (.aload_n 0, 1) := by decide +kernel
theorem dX9_method_274 : decode cX9_method 274 = .ok (.getfield 25, 3) := by decide +kernel
theorem dX9_method_277 : decode cX9_method 277 = .ok (.bipush 32, 2) := by decide +kernel
theorem dX9_method_279 : decode cX9_method 279 = .ok (.iload 8, 2) := by decide +kernel
theorem dX9_method_281 : decode cX9_method 281 = .ok (.imul, 1) := by decide +kernel
theorem dX9_method_282 : decode cX9_method 282 = .ok (.iload 9, 2) := by decide +kernel
theorem dX9_method_284 : decode cX9_method 284 = .ok (.iadd, 1) := by decide +kernel
theorem dX9_method_285 : decode cX9_method 285 = .ok (.aload_n 0, 1) := by decide +kernel
theorem dX9_method_286 : decode cX9_method 286 = .ok (.getfield 22, 3) := by decide +kernel
theorem dX9_method_289 : decode cX9_method 289 = .ok (.iload 9, 2) := by decide +kernel
theorem dX9_method_291 : decode cX9_method 291 = .ok (.iaload, 1) := by decide +kernel
theorem dX9_method_292 : decode cX9_method 292 = .ok (.iastore, 1) := by decide +kernel
theorem dX9_method_293 : decode cX9_method 293 = .ok (.iinc 9 1, 3) := by decide +kernel
theorem dX9_method_296 : decode cX9_method 296 = .ok (.goto (-34), 3) := by decide +kernel
theorem dX9_method_299 : decode cX9_method 299 = .ok (.aload_n 0, 1) := by decide +kernel
theorem dX9_method_300 : decode cX9_method 300 = .ok (.iconst 0, 1) := by decide +kernel
theorem dX9_method_301 : decode cX9_method 301 = .ok (.putfield 130, 3) := by decide +kernel
theorem dX9_method_304 : decode cX9_method 304 = .ok (.aload_n 0, 1) := by decide +kernel
theorem dX9_method_305 : decode cX9_method 305 = .ok (.iconst 0, 1) := by decide +kernel
theorem dX9_method_306 : decode cX9_method 306 = .ok (.putfield 133, 3) := by decide +kernel
theorem dX9_method_309 : decode cX9_method 309 = .ok (.aload_n 0, 1) := by decide +kernel
theorem dX9_method_310 : decode cX9_method 310 = .ok (.getfield 49, 3) := by decide +kernel
theorem dX9_method_313 : decode cX9_method 313 = .ok (.iload 8, 2) := by decide +kernel
theorem dX9_method_315 : decode cX9_method 315 = .ok (.iaload, 1) := by decide +kernel
theorem dX9_method_316 : decode cX9_method 316 = .ok (.ifCond .eq 12, 3) := by decide +kernel
theorem dX9_method_319 : decode cX9_method 319 = .ok (.aload_n 0, 1) := by decide +kernel
theorem dX9_method_320 : decode cX9_method 320 = .ok (.iload 8, 2) := by decide +kernel
theorem dX9_method_322 : decode cX9_method 322 = .ok (.invokevirtual 139, 3) := by decide +kernel
theorem dX9_method_325 : decode cX9_method 325 = .ok (.ifCond .ne 5, 3) := by decide +kernel
theorem dX9_method_328 : decode cX9_method 328 = .ok (.iconst (-1), 1) := by decide +kernel
theorem dX9_method_329 : decode cX9_method 329 = .ok (.ireturn, 1) := by decide +kernel
theorem dX9_method_330 : decode cX9_method 330 = .ok (.aload_n 0, 1) := by decide +kernel
theorem dX9_method_331 : decode cX9_method 331 = .ok (.dup, 1) := by decide +kernel
theorem dX9_method_332 : decode cX9_method 332 = .ok (.getfield 136, 3) := by decide +kernel
theorem dX9_method_335 : decode cX9_method 335 = .ok (.iconst 1, 1) := by decide +kernel
theorem dX9_method_336 : decode cX9_method 336 = .ok (.iadd, 1) := by decide +kernel
theorem dX9_method_337 : decode cX9_method 337 = .ok (.putfield 136, 3) := by decide +kernel
theorem dX9_method_340 : decode cX9_method 340 = .ok (.iload 8, 2) := by decide +kernel
theorem dX9_method_342 : decode cX9_method 342 = .ok (.ireturn, 1) := by decide +kernel
theorem dX9_open_0 : decode cX9_open 0 = .ok (.aload_n 0, 1) := by decide +kernel
theorem dX9_open_1 : decode cX9_open 1 = .ok (.getfield 99, 3) := by decide +kernel
theorem dX9_open_4 : decode cX9_open 4 = .ok (.aload_n 0, 1) := by decide +kernel
theorem dX9_open_5 : decode cX9_open 5 = .ok (.getfield 214, 3) := by decide +kernel
theorem dX9_open_8 : decode cX9_open 8 = .ok (.iload_n 1, 1) := by decide +kernel
theorem dX9_open_9 : decode cX9_open 9 = .ok (.iastore, 1) := by decide +kernel
theorem dX9_open_10 : decode cX9_open 10 = .ok (.aload_n 0, 1) := by decide +kernel
theorem dX9_open_11 : decode cX9_open 11 = .ok (.getfield 102, 3) := by decide +kernel
theorem dX9_open_14 : decode cX9_open 14 = .ok (.aload_n 0, 1) := by decide +kernel
theorem dX9_open_15 : decode cX9_open 15 = .ok (.getfield 214, 3) := by decide +kernel
theorem dX9_open_18 : decode cX9_open 18 = .ok (.iconst 0, 1) := by decide +kernel
theorem dX9_open_19 : decode cX9_open 19 = .ok (.iastore, 1) := by decide +kernel
theorem dX9_open_20 : decode cX9_open 20 = .ok (.aload_n 0, 1) := by decide +kernel
theorem dX9_open_21 : decode cX9_open 21 = .ok (.getfield 105, 3) := by decide +kernel
theorem dX9_open_24 : decode cX9_open 24 = .ok (.aload_n 0, 1) := by decide +kernel
theorem dX9_open_25 : decode cX9_open 25 = .ok (.getfield 214, 3) := by decide +kernel
theorem dX9_open_28 : decode cX9_open 28 = .ok (.iconst 0, 1) := by decide +kernel
theorem dX9_open_29 : decode cX9_open 29 = .ok (.iastore, 1) := by decide +kernel
theorem dX9_open_30 : decode cX9_open 30 = .ok (.iconst 0, 1) := by decide +kernel
theorem dX9_open_31 : decode cX9_open 31 = .ok (.istore_n 2, 1) := by decide +kernel
theorem dX9_open_32 : decode cX9_open 32 = .ok (.iload_n 2, 1) := by decide +kernel
theorem dX9_open_33 : decode cX9_open 33 = .ok (.bipush 16, 2) := by decide +kernel
theorem dX9_open_35 : decode cX9_open 35 = .ok (.if_icmp .ge 39, 3) := by decide +kernel
theorem dX9_open_38 : decode cX9_open 38 = .ok (.aload_n 0, 1) := by decide +kernel
theorem dX9_open_39 : decode cX9_open 39 = .ok (.getfield 111, 3) := by decide +kernel
theorem dX9_open_42 : decode cX9_open 42 = .ok (.bipush 16, 2) := by decide +kernel
theorem dX9_open_44 : decode cX9_open 44 = .ok (.aload_n 0, 1) := by decide +kernel
theorem dX9_open_45 : decode cX9_open 45 = .ok (.getfield 214, 3) := by decide +kernel
theorem dX9_open_48 : decode cX9_open 48 = .ok (.imul, 1) := by decide +kernel
theorem dX9_open_49 : decode cX9_open 49 = .ok (.iload_n 2, 1) := by decide +kernel
theorem dX9_open_50 : decode cX9_open 50 = .ok (.iadd, 1) := by decide +kernel
theorem dX9_open_51 : decode cX9_open 51 = .ok (.iconst 0, 1) := by decide +kernel
theorem dX9_open_52 : decode cX9_open 52 = .ok (.iastore, 1) := by decide +kernel
theorem dX9_open_53 : decode cX9_open 53 = .ok (.aload_n 0, 1) := by decide +kernel
theorem dX9_open_54 : decode cX9_open 54 = .ok (.getfield 108, 3) := by decide +kernel
theorem dX9_open_57 : decode cX9_open 57 = .ok (.bipush 16, 2) := by decide +kernel
theorem dX9_open_59 : decode cX9_open 59 = .ok (.aload_n 0, 1) := by decide +kernel
theorem dX9_open_60 : decode cX9_open 60 = .ok (.getfield 214, 3) := by decide +kernel
theorem dX9_open_63 : decode cX9_open 63 = .ok (.imul, 1) := by decide +kernel
theorem dX9_open_64 : decode cX9_open 64 = .ok (.iload_n 2, 1) := by decide +kernel
theorem dX9_open_65 : decode cX9_open 65 = .ok (.iadd, 1) := by decide +kernel
theorem dX9_open_66 : decode cX9_open 66 = .ok (.lconst 0, 1) := by decide +kernel
theorem dX9_open_67 : decode cX9_open 67 = .ok (.lastore, 1) := by decide +kernel
theorem dX9_open_68 : decode cX9_open 68 = .ok (.iinc 2 1, 3) := by decide +kernel
theorem dX9_open_71 : decode cX9_open 71 = .ok (.goto (-39), 3) := by decide +kernel
theorem dX9_open_74 : decode cX9_open 74 = .ok (.return_, 1) := by decide +kernel
theorem dX9_popValue_0 : decode cX9_popValue 0 = .ok (.aload_n 0, 1) := by decide +kernel
theorem dX9_popValue_1 : decode cX9_popValue 1 = .ok (.getfield 214, 3) := by decide +kernel
theorem dX9_popValue_4 : decode cX9_popValue 4 = .ok (.iconst 1, 1) := by decide +kernel
theorem dX9_popValue_5 : decode cX9_popValue 5 = .ok (.isub, 1) := by decide +kernel
theorem dX9_popValue_6 : decode cX9_popValue 6 = .ok (.istore_n 1, 1) := by decide +kernel
theorem dX9_popValue_7 : decode cX9_popValue 7 = .ok (.aload_n 0, 1) := by decide +kernel
theorem dX9_popValue_8 : decode cX9_popValue 8 = .ok (.getfield 105, 3) := by decide +kernel
theorem dX9_popValue_11 : decode cX9_popValue 11 = .ok (.iload_n 1, 1) := by decide +kernel
theorem dX9_popValue_12 : decode cX9_popValue 12 = .ok (.dup2, 1) := by decide +kernel
theorem dX9_popValue_13 : decode cX9_popValue 13 = .ok (.iaload, 1) := by decide +kernel
theorem dX9_popValue_14 : decode cX9_popValue 14 = .ok (.iconst 1, 1) := by decide +kernel
theorem dX9_popValue_15 : decode cX9_popValue 15 = .ok (.isub, 1) := by decide +kernel
theorem dX9_popValue_16 : decode cX9_popValue 16 = .ok (.iastore, 1) := by decide +kernel
theorem dX9_popValue_17 : decode cX9_popValue 17 = .ok (.aload_n 0, 1) := by decide +kernel
theorem dX9_popValue_18 : decode cX9_popValue 18 = .ok (.getfield 114, 3) := by decide +kernel
theorem dX9_popValue_21 : decode cX9_popValue 21 = .ok (.bipush 12, 2) := by decide +kernel
theorem dX9_popValue_23 : decode cX9_popValue 23 = .ok (.iload_n 1, 1) := by decide +kernel
theorem dX9_popValue_24 : decode cX9_popValue 24 = .ok (.imul, 1) := by decide +kernel
theorem dX9_popValue_25 : decode cX9_popValue 25 = .ok (.aload_n 0, 1) := by decide +kernel
theorem dX9_popValue_26 : decode cX9_popValue 26 = .ok (.getfield 105, 3) := by decide +kernel
theorem dX9_popValue_29 : decode cX9_popValue 29 = .ok (.iload_n 1, 1) := by decide +kernel
theorem dX9_popValue_30 : decode cX9_popValue 30 = .ok (.iaload, 1) := by decide +kernel
theorem dX9_popValue_31 : decode cX9_popValue 31 = .ok (.iadd, 1) := by decide +kernel
theorem dX9_popValue_32 : decode cX9_popValue 32 = .ok (.laload, 1) := by decide +kernel
theorem dX9_popValue_33 : decode cX9_popValue 33 = .ok (.lreturn, 1) := by decide +kernel
theorem dX9_isOf_0 : decode cX9_isOf 0 = .ok (.aload_n 0, 1) := by decide +kernel
theorem dX9_isOf_1 : decode cX9_isOf 1 = .ok (.getfield 77, 3) := by decide +kernel
theorem dX9_isOf_4 : decode cX9_isOf 4 = .ok (.iload_n 1, 1) := by decide +kernel
theorem dX9_isOf_5 : decode cX9_isOf 5 = .ok (.iaload, 1) := by decide +kernel
theorem dX9_isOf_6 : decode cX9_isOf 6 = .ok (.istore_n 3, 1) := by decide +kernel
theorem dX9_isOf_7 : decode cX9_isOf 7 = .ok (.iload_n 3, 1) := by decide +kernel
theorem dX9_isOf_8 : decode cX9_isOf 8 = .ok (.iconst (-1), 1) := by decide +kernel
theorem dX9_isOf_9 : decode cX9_isOf 9 = .ok (.if_icmp .eq 18, 3) := by decide +kernel
theorem dX9_isOf_12 : decode cX9_isOf 12 = .ok (.iload_n 3, 1) := by decide +kernel
theorem dX9_isOf_13 : decode cX9_isOf 13 = .ok (.iload_n 2, 1) := by decide +kernel
theorem dX9_isOf_14 : decode cX9_isOf 14 = .ok (.if_icmp .eq 13, 3) := by decide +kernel
theorem dX9_isOf_17 : decode cX9_isOf 17 = .ok (.aload_n 0, 1) := by decide +kernel
theorem dX9_isOf_18 : decode cX9_isOf 18 = .ok (.getfield 7, 3) := by decide +kernel
theorem dX9_isOf_21 : decode cX9_isOf 21 = .ok (.iload_n 3, 1) := by decide +kernel
theorem dX9_isOf_22 : decode cX9_isOf 22 = .ok (.iaload, 1) := by decide +kernel
theorem dX9_isOf_23 : decode cX9_isOf 23 = .ok (.istore_n 3, 1) := by decide +kernel
theorem dX9_isOf_24 : decode cX9_isOf 24 = .ok (.goto (-17), 3) := by decide +kernel
theorem dX9_isOf_27 : decode cX9_isOf 27 = .ok (.iload_n 3, 1) := by decide +kernel
theorem dX9_isOf_28 : decode cX9_isOf 28 = .ok (.iload_n 2, 1) := by decide +kernel
theorem dX9_isOf_29 : decode cX9_isOf 29 = .ok (.if_icmp .ne 12, 3) := by decide +kernel
theorem dX9_isOf_32 : decode cX9_isOf 32 = .ok (.iload_n 2, 1) := by decide +kernel
theorem dX9_isOf_33 : decode cX9_isOf 33 = .ok (.iconst (-1), 1) := by decide +kernel
theorem dX9_isOf_34 : decode cX9_isOf 34 = .ok (.if_icmp .eq 7, 3) := by decide +kernel
theorem dX9_isOf_37 : decode cX9_isOf 37 = .ok (.iconst 1, 1) := by decide +kernel
theorem dX9_isOf_38 : decode cX9_isOf 38 = .ok (.goto 4, 3) := by decide +kernel
theorem dX9_isOf_41 : decode cX9_isOf 41 = .ok (.iconst 0, 1) := by decide +kernel
theorem dX9_isOf_42 : decode cX9_isOf 42 = .ok (.ireturn, 1) := by decide +kernel
theorem dX9_pushValue_0 : decode cX9_pushValue 0 = .ok (.aload_n 0, 1) := by decide +kernel
theorem dX9_pushValue_1 : decode cX9_pushValue 1 = .ok (.getfield 214, 3) := by decide +kernel
theorem dX9_pushValue_4 : decode cX9_pushValue 4 = .ok (.iconst 1, 1) := by decide +kernel
theorem dX9_pushValue_5 : decode cX9_pushValue 5 = .ok (.isub, 1) := by decide +kernel
theorem dX9_pushValue_6 : decode cX9_pushValue 6 = .ok (.istore 4, 2) := by decide +kernel
theorem dX9_pushValue_8 : decode cX9_pushValue 8 = .ok (.bipush 12, 2) := by decide +kernel
theorem dX9_pushValue_10 : decode cX9_pushValue 10 = .ok (.iload 4, 2) := by decide +kernel
theorem dX9_pushValue_12 : decode cX9_pushValue 12 = .ok (.imul, 1) := by decide +kernel
theorem dX9_pushValue_13 : decode cX9_pushValue 13 = .ok (.aload_n 0, 1) := by decide +kernel
theorem dX9_pushValue_14 : decode cX9_pushValue 14 = .ok (.getfield 105, 3) := by decide +kernel
theorem dX9_pushValue_17 : decode cX9_pushValue 17 = .ok (.iload 4, 2) := by decide +kernel
theorem dX9_pushValue_19 : decode cX9_pushValue 19 = .ok (.iaload, 1) := by decide +kernel
theorem dX9_pushValue_20 : decode cX9_pushValue 20 = .ok (.iadd, 1) := by decide +kernel
theorem dX9_pushValue_21 : decode cX9_pushValue 21 = .ok (.istore 5, 2) := by decide +kernel
theorem dX9_pushValue_23 : decode cX9_pushValue 23 = .ok (.aload_n 0, 1) := by decide +kernel
theorem dX9_pushValue_24 : decode cX9_pushValue 24 = .ok (.getfield 114, 3) := by decide +kernel
theorem dX9_pushValue_27 : decode cX9_pushValue 27 = .ok (.iload 5, 2) := by decide +kernel
theorem dX9_pushValue_29 : decode cX9_pushValue 29 = .ok (.lload_n 2, 1) := by decide +kernel
theorem dX9_pushValue_30 : decode cX9_pushValue 30 = .ok (.lastore, 1) := by decide +kernel
theorem dX9_pushValue_31 : decode cX9_pushValue 31 = .ok (.aload_n 0, 1) := by decide +kernel
theorem dX9_pushValue_32 : decode cX9_pushValue 32 = .ok (.getfield 117, 3) := by decide +kernel
theorem dX9_pushValue_35 : decode cX9_pushValue 35 = .ok (.iload 5, 2) := by decide +kernel
theorem dX9_pushValue_37 : decode cX9_pushValue 37 = .ok (.iload_n 1, 1) := by decide +kernel
theorem dX9_pushValue_38 : decode cX9_pushValue 38 = .ok (.iastore, 1) := by decide +kernel
theorem dX9_pushValue_39 : decode cX9_pushValue 39 = .ok (.aload_n 0, 1) := by decide +kernel
theorem dX9_pushValue_40 : decode cX9_pushValue 40 = .ok (.getfield 105, 3) := by decide +kernel
theorem dX9_pushValue_43 : decode cX9_pushValue 43 = .ok (.iload 4, 2) := by decide +kernel
theorem dX9_pushValue_45 : decode cX9_pushValue 45 = .ok (.dup2, 1) := by decide +kernel
theorem dX9_pushValue_46 : decode cX9_pushValue 46 = .ok (.iaload, 1) := by decide +kernel
theorem dX9_pushValue_47 : decode cX9_pushValue 47 = .ok (.iconst 1, 1) := by decide +kernel
theorem dX9_pushValue_48 : decode cX9_pushValue 48 = .ok (.iadd, 1) := by decide +kernel
theorem dX9_pushValue_49 : decode cX9_pushValue 49 = .ok (.iastore, 1) := by decide +kernel
theorem dX9_pushValue_50 : decode cX9_pushValue 50 = .ok (.return_, 1) := by decide +kernel
theorem dX9_hurl_0 : decode cX9_hurl 0 = .ok (.aload_n 0, 1) := by decide +kernel
theorem dX9_hurl_1 : decode cX9_hurl 1 = .ok (.getfield 214, 3) := by decide +kernel
theorem dX9_hurl_4 : decode cX9_hurl 4 = .ok (.ifCond .le 144, 3) := by decide +kernel
theorem dX9_hurl_7 : decode cX9_hurl 7 = .ok (.aload_n 0, 1) := by decide +kernel
theorem dX9_hurl_8 : decode cX9_hurl 8 = .ok (.getfield 214, 3) := by decide +kernel
theorem dX9_hurl_11 : decode cX9_hurl 11 = .ok (.iconst 1, 1) := by decide +kernel
theorem dX9_hurl_12 : decode cX9_hurl 12 = .ok (.isub, 1) := by decide +kernel
theorem dX9_hurl_13 : decode cX9_hurl 13 = .ok (.istore_n 2, 1) := by decide +kernel
theorem dX9_hurl_14 : decode cX9_hurl 14 = .ok (.aload_n 0, 1) := by decide +kernel
theorem dX9_hurl_15 : decode cX9_hurl 15 = .ok (.getfield 99, 3) := by decide +kernel
theorem dX9_hurl_18 : decode cX9_hurl 18 = .ok (.iload_n 2, 1) := by decide +kernel
theorem dX9_hurl_19 : decode cX9_hurl 19 = .ok (.iaload, 1) := by decide +kernel
theorem dX9_hurl_20 : decode cX9_hurl 20 = .ok (.istore_n 3, 1) := by decide +kernel
theorem dX9_hurl_21 : decode cX9_hurl 21 = .ok (.iconst 0, 1) := by decide +kernel
theorem dX9_hurl_22 : decode cX9_hurl 22 = .ok (.istore 4, 2) := by decide +kernel
theorem dX9_hurl_24 : decode cX9_hurl 24 = .ok (.iload 4, 2) := by decide +kernel
theorem dX9_hurl_26 : decode cX9_hurl 26 = .ok (.aload_n 0, 1) := by decide +kernel
theorem dX9_hurl_27 : decode cX9_hurl 27 = .ok (.getfield 28, 3) := by decide +kernel
theorem dX9_hurl_30 : decode cX9_hurl 30 = .ok (.iload_n 3, 1) := by decide +kernel
theorem dX9_hurl_31 : decode cX9_hurl 31 = .ok (.iaload, 1) := by decide +kernel
theorem dX9_hurl_32 : decode cX9_hurl 32 = .ok (.if_icmp .ge 103, 3) := by decide +kernel
theorem dX9_hurl_35 : decode cX9_hurl 35 = .ok (.bipush 32, 2) := by decide +kernel
theorem dX9_hurl_37 : decode cX9_hurl 37 = .ok (.iload_n 3, 1) := by decide +kernel
theorem dX9_hurl_38 : decode cX9_hurl 38 = .ok (.imul, 1) := by decide +kernel
theorem dX9_hurl_39 : decode cX9_hurl 39 = .ok (.iconst 4, 1) := by decide +kernel
theorem dX9_hurl_40 : decode cX9_hurl 40 = .ok (.iload 4, 2) := by decide +kernel
theorem dX9_hurl_42 : decode cX9_hurl 42 = .ok (.imul, 1) := by decide +kernel
theorem dX9_hurl_43 : decode cX9_hurl 43 = .ok (.iadd, 1) := by decide +kernel
theorem dX9_hurl_44 : decode cX9_hurl 44 = .ok (.istore 5, 2) := by decide +kernel
theorem dX9_hurl_46 : decode cX9_hurl 46 = .ok (.aload_n 0, 1) := by decide +kernel
theorem dX9_hurl_47 : decode cX9_hurl 47 = .ok (.getfield 25, 3) := by decide +kernel
theorem dX9_hurl_50 : decode cX9_hurl 50 = .ok (.iload 5, 2) := by decide +kernel
theorem dX9_hurl_52 : decode cX9_hurl 52 = .ok (.iaload, 1) := by decide +kernel
theorem dX9_hurl_53 : decode cX9_hurl 53 = .ok (.aload_n 0, 1) := by decide +kernel
theorem dX9_hurl_54 : decode cX9_hurl 54 = .ok (.getfield 102, 3) := by decide +kernel
theorem dX9_hurl_57 : decode cX9_hurl 57 = .ok (.iload_n 2, 1) := by decide +kernel
theorem dX9_hurl_58 : decode cX9_hurl 58 = .ok (.iaload, 1) := by decide +kernel
theorem dX9_hurl_59 : decode cX9_hurl 59 = .ok (.if_icmp .gt 70, 3) := by decide +kernel
theorem dX9_hurl_62 : decode cX9_hurl 62 = .ok (.aload_n 0, 1) := by decide +kernel
theorem dX9_hurl_63 : decode cX9_hurl 63 = .ok (.getfield 102, 3) := by decide +kernel
theorem dX9_hurl_66 : decode cX9_hurl 66 = .ok (.iload_n 2, 1) := by decide +kernel
theorem dX9_hurl_67 : decode cX9_hurl 67 = .ok (.iaload, 1) := by decide +kernel
theorem dX9_hurl_68 : decode cX9_hurl 68 = .ok (.aload_n 0, 1) := by decide +kernel
theorem dX9_hurl_69 : decode cX9_hurl 69 = .ok (.getfield 25, 3) := by decide +kernel
theorem dX9_hurl_72 : decode cX9_hurl 72 = .ok (.iload 5, 2) := by decide +kernel
theorem dX9_hurl_74 : decode cX9_hurl 74 = .ok (.iconst 1, 1) := by decide +kernel
theorem dX9_hurl_75 : decode cX9_hurl 75 = .ok (.iadd, 1) := by decide +kernel
theorem dX9_hurl_76 : decode cX9_hurl 76 = .ok (.iaload, 1) := by decide +kernel
theorem dX9_hurl_77 : decode cX9_hurl 77 = .ok (.if_icmp .ge 52, 3) := by decide +kernel
theorem dX9_hurl_80 : decode cX9_hurl 80 = .ok (.aload_n 0, 1) := by decide +kernel
theorem dX9_hurl_81 : decode cX9_hurl 81 = .ok (.iload_n 1, 1) := by decide +kernel
theorem dX9_hurl_82 : decode cX9_hurl 82 = .ok (.aload_n 0, 1) := by decide +kernel
theorem dX9_hurl_83 : decode cX9_hurl 83 = .ok (.getfield 25, 3) := by decide +kernel
theorem dX9_hurl_86 : decode cX9_hurl 86 = .ok (.iload 5, 2) := by decide +kernel
theorem dX9_hurl_88 : decode cX9_hurl 88 = .ok (.iconst 3, 1) := by decide +kernel
theorem dX9_hurl_89 : decode cX9_hurl 89 = .ok (.iadd, 1) := by decide +kernel
theorem dX9_hurl_90 : decode cX9_hurl 90 = .ok (.iaload, 1) := by decide +kernel
theorem dX9_hurl_91 : decode cX9_hurl 91 = .ok (.invokevirtual 270, 3) := by decide +kernel
theorem dX9_hurl_94 : decode cX9_hurl 94 = .ok (.ifCond .eq 35, 3) := by decide +kernel
theorem dX9_hurl_97 : decode cX9_hurl 97 = .ok (.aload_n 0, 1) := by decide +kernel
theorem dX9_hurl_98 : decode cX9_hurl 98 = .ok (.getfield 105, 3) := by decide +kernel
theorem dX9_hurl_101 : decode cX9_hurl 101 = .ok (.iload_n 2, 1) := by decide +kernel
theorem dX9_hurl_102 : decode cX9_hurl 102 = .ok (.iconst 0, 1) := by decide +kernel
theorem dX9_hurl_103 : decode cX9_hurl 103 = .ok (.iastore, 1) := by decide +kernel
theorem dX9_hurl_104 : decode cX9_hurl 104 = .ok (.aload_n 0, 1) := by decide +kernel
theorem dX9_hurl_105 : decode cX9_hurl 105 = .ok (.iconst 3, 1) := by decide +kernel
theorem dX9_hurl_106 : decode cX9_hurl 106 = .ok (.iload_n 1, 1) := by decide +kernel
theorem dX9_hurl_107 : decode cX9_hurl 107 = .ok (.i2l, 1) := by decide +kernel
theorem dX9_hurl_108 : decode cX9_hurl 108 = .ok (.lconst 1, 1) := by decide +kernel
theorem dX9_hurl_109 : decode cX9_hurl 109 = .ok (.ladd, 1) := by decide +kernel
theorem dX9_hurl_110 : decode cX9_hurl 110 = .ok (.invokevirtual 274, 3) := by decide +kernel
theorem dX9_hurl_113 : decode cX9_hurl 113 = .ok (.aload_n 0, 1) := by decide +kernel
theorem dX9_hurl_114 : decode cX9_hurl 114 = .ok (.getfield 102, 3) := by decide +kernel
theorem dX9_hurl_117 : decode cX9_hurl 117 = .ok (.iload_n 2, 1) := by decide +kernel
theorem dX9_hurl_118 : decode cX9_hurl 118 = .ok (.aload_n 0, 1) := by decide +kernel
theorem dX9_hurl_119 : decode cX9_hurl 119 = .ok (.getfield 25, 3) := by decide +kernel
theorem dX9_hurl_122 : decode cX9_hurl 122 = .ok (.iload 5, 2) := by decide +kernel
theorem dX9_hurl_124 : decode cX9_hurl 124 = .ok (.iconst 2, 1) := by decide +kernel
theorem dX9_hurl_125 : decode cX9_hurl 125 = .ok (.iadd, 1) := by decide +kernel
theorem dX9_hurl_126 : decode cX9_hurl 126 = .ok (.iaload, 1) := by decide +kernel
theorem dX9_hurl_127 : decode cX9_hurl 127 = .ok (.iastore, 1) := by decide +kernel
theorem dX9_hurl_128 : decode cX9_hurl 128 = .ok (.return_, 1) := by decide +kernel
theorem dX9_hurl_129 : decode cX9_hurl 129 = .ok (.iinc 4 1, 3) := by decide +kernel
theorem dX9_hurl_132 : decode cX9_hurl 132 = .ok (.goto (-108), 3) := by decide +kernel
theorem dX9_hurl_135 : decode cX9_hurl 135 = .ok (.aload_n 0, 1) := by decide +kernel
theorem dX9_hurl_136 : decode cX9_hurl 136 = .ok (.dup, 1) := by decide +kernel
theorem dX9_hurl_137 : decode cX9_hurl 137 = .ok (.getfield 214, 3) := by decide +kernel
theorem dX9_hurl_140 : decode cX9_hurl 140 = .ok (.iconst 1, 1) := by decide +kernel
theorem dX9_hurl_141 : decode cX9_hurl 141 = .ok (.isub, 1) := by decide +kernel
theorem dX9_hurl_142 : decode cX9_hurl 142 = .ok (.putfield 214, 3) := by decide +kernel
theorem dX9_hurl_145 : decode cX9_hurl 145 = .ok (.goto (-145), 3) := by decide +kernel
theorem dX9_hurl_148 : decode cX9_hurl 148 = .ok (.aload_n 0, 1) := by decide +kernel
theorem dX9_hurl_149 : decode cX9_hurl 149 = .ok (.aload_n 0, 1) := by decide +kernel
theorem dX9_hurl_150 : decode cX9_hurl 150 = .ok (.getfield 77, 3) := by decide +kernel
theorem dX9_hurl_153 : decode cX9_hurl 153 = .ok (.iload_n 1, 1) := by decide +kernel
theorem dX9_hurl_154 : decode cX9_hurl 154 = .ok (.iaload, 1) := by decide +kernel
theorem dX9_hurl_155 : decode cX9_hurl 155 = .ok (.i2l, 1) := by decide +kernel
theorem dX9_hurl_156 : decode cX9_hurl 156 = .ok (.putfield 256, 3) := by decide +kernel
theorem dX9_hurl_159 : decode cX9_hurl 159 = .ok (.aload_n 0, 1) := by decide +kernel
theorem dX9_hurl_160 : decode cX9_hurl 160 = .ok (.iconst 1, 1) := by decide +kernel
theorem dX9_hurl_161 : decode cX9_hurl 161 = .ok (.putfield 235, 3) := by decide +kernel
theorem dX9_hurl_164 : decode cX9_hurl 164 = .ok (.aload_n 0, 1) := by decide +kernel
theorem dX9_hurl_165 : decode cX9_hurl 165 = .ok (.iconst 1, 1) := by decide +kernel
theorem dX9_hurl_166 : decode cX9_hurl 166 = .ok (.putfield 238, 3) := by decide +kernel
theorem dX9_hurl_169 : decode cX9_hurl 169 = .ok (.return_, 1) := by decide +kernel
theorem dX9_meet_0 : decode cX9_meet 0 = .ok (.lload_n 1, 1) := by decide +kernel
theorem dX9_meet_1 : decode cX9_meet 1 = .ok (.l2i, 1) := by decide +kernel
theorem dX9_meet_2 : decode cX9_meet 2 = .ok (.iconst 1, 1) := by decide +kernel
theorem dX9_meet_3 : decode cX9_meet 3 = .ok (.isub, 1) := by decide +kernel
theorem dX9_meet_4 : decode cX9_meet 4 = .ok (.istore 4, 2) := by decide +kernel
theorem dX9_meet_6 : decode cX9_meet 6 = .ok (.iload 4, 2) := by decide +kernel
theorem dX9_meet_8 : decode cX9_meet 8 = .ok (.ifCond .lt 13, 3) := by decide +kernel
theorem dX9_meet_11 : decode cX9_meet 11 = .ok (.aload_n 0, 1) := by decide +kernel
theorem dX9_meet_12 : decode cX9_meet 12 = .ok (.getfield 74, 3) := by decide +kernel
theorem dX9_meet_15 : decode cX9_meet 15 = .ok (.iload 4, 2) := by decide +kernel
theorem dX9_meet_17 : decode cX9_meet 17 = .ok (.baload, 1) := by decide +kernel
theorem dX9_meet_18 : decode cX9_meet 18 = .ok (.ifCond .eq 5, 3) := by decide +kernel
theorem dX9_meet_21 : decode cX9_meet 21 = .ok (.iload_n 3, 1) := by decide +kernel
theorem dX9_meet_22 : decode cX9_meet 22 = .ok (.ireturn, 1) := by decide +kernel
theorem dX9_meet_23 : decode cX9_meet 23 = .ok (.aload_n 0, 1) := by decide +kernel
theorem dX9_meet_24 : decode cX9_meet 24 = .ok (.getfield 74, 3) := by decide +kernel
theorem dX9_meet_27 : decode cX9_meet 27 = .ok (.iload 4, 2) := by decide +kernel
theorem dX9_meet_29 : decode cX9_meet 29 = .ok (.iconst 1, 1) := by decide +kernel
theorem dX9_meet_30 : decode cX9_meet 30 = .ok (.bastore, 1) := by decide +kernel
theorem dX9_meet_31 : decode cX9_meet 31 = .ok (.aload_n 0, 1) := by decide +kernel
theorem dX9_meet_32 : decode cX9_meet 32 = .ok (.getfield 96, 3) := by decide +kernel
theorem dX9_meet_35 : decode cX9_meet 35 = .ok (.iload_n 3, 1) := by decide +kernel
theorem dX9_meet_36 : decode cX9_meet 36 = .ok (.iload 4, 2) := by decide +kernel
theorem dX9_meet_38 : decode cX9_meet 38 = .ok (.iastore, 1) := by decide +kernel
theorem dX9_meet_39 : decode cX9_meet 39 = .ok (.iload_n 3, 1) := by decide +kernel
theorem dX9_meet_40 : decode cX9_meet 40 = .ok (.iconst 1, 1) := by decide +kernel
theorem dX9_meet_41 : decode cX9_meet 41 = .ok (.iadd, 1) := by decide +kernel
theorem dX9_meet_42 : decode cX9_meet 42 = .ok (.ireturn, 1) := by decide +kernel
theorem dX9_wordsOf_0 : decode cX9_wordsOf 0 = .ok (.iload_n 0, 1) := by decide +kernel
theorem dX9_wordsOf_1 : decode cX9_wordsOf 1 = .ok (.iconst 4, 1) := by decide +kernel
theorem dX9_wordsOf_2 : decode cX9_wordsOf 2 = .ok (.if_icmp .eq 9, 3) := by decide +kernel
theorem dX9_wordsOf_5 : decode cX9_wordsOf 5 = .ok (.iload_n 0, 1) := by decide +kernel
theorem dX9_wordsOf_6 : decode cX9_wordsOf 6 = .ok (.bipush 8, 2) := by decide +kernel
theorem dX9_wordsOf_8 : decode cX9_wordsOf 8 = .ok (.if_icmp .ne 17, 3) := by decide +kernel
theorem dX9_wordsOf_11 : decode cX9_wordsOf 11 = .ok (.ldc2_w 208, 3) := by decide +kernel
theorem dX9_wordsOf_14 : decode cX9_wordsOf 14 = .ok (.lload_n 1, 1) := by decide +kernel
theorem dX9_wordsOf_15 : decode cX9_wordsOf 15 = .ok (.ldc2_w 210, 3) := by decide +kernel
theorem dX9_wordsOf_18 : decode cX9_wordsOf 18 = .ok (.ladd, 1) := by decide +kernel
theorem dX9_wordsOf_19 : decode cX9_wordsOf 19 = .ok (.ldc2_w 212, 3) := by decide +kernel
theorem dX9_wordsOf_22 : decode cX9_wordsOf 22 = .ok (.ldiv, 1) := by decide +kernel
theorem dX9_wordsOf_23 : decode cX9_wordsOf 23 = .ok (.ladd, 1) := by decide +kernel
theorem dX9_wordsOf_24 : decode cX9_wordsOf 24 = .ok (.lreturn, 1) := by decide +kernel
theorem dX9_wordsOf_25 : decode cX9_wordsOf 25 = .ok (.iload_n 0, 1) := by decide +kernel
theorem dX9_wordsOf_26 : decode cX9_wordsOf 26 = .ok (.iconst 5, 1) := by decide +kernel
theorem dX9_wordsOf_27 : decode cX9_wordsOf 27 = .ok (.if_icmp .eq 9, 3) := by decide +kernel
theorem dX9_wordsOf_30 : decode cX9_wordsOf 30 = .ok (.iload_n 0, 1) := by decide +kernel
theorem dX9_wordsOf_31 : decode cX9_wordsOf 31 = .ok (.bipush 9, 2) := by decide +kernel
theorem dX9_wordsOf_33 : decode cX9_wordsOf 33 = .ok (.if_icmp .ne 15, 3) := by decide +kernel
theorem dX9_wordsOf_36 : decode cX9_wordsOf 36 = .ok (.ldc2_w 208, 3) := by decide +kernel
theorem dX9_wordsOf_39 : decode cX9_wordsOf 39 = .ok (.lload_n 1, 1) := by decide +kernel
theorem dX9_wordsOf_40 : decode cX9_wordsOf 40 = .ok (.lconst 1, 1) := by decide +kernel
theorem dX9_wordsOf_41 : decode cX9_wordsOf 41 = .ok (.ladd, 1) := by decide +kernel
theorem dX9_wordsOf_42 : decode cX9_wordsOf 42 = .ok (.ldc2_w 208, 3) := by decide +kernel
theorem dX9_wordsOf_45 : decode cX9_wordsOf 45 = .ok (.ldiv, 1) := by decide +kernel
theorem dX9_wordsOf_46 : decode cX9_wordsOf 46 = .ok (.ladd, 1) := by decide +kernel
theorem dX9_wordsOf_47 : decode cX9_wordsOf 47 = .ok (.lreturn, 1) := by decide +kernel
theorem dX9_wordsOf_48 : decode cX9_wordsOf 48 = .ok (.iload_n 0, 1) := by decide +kernel
theorem dX9_wordsOf_49 : decode cX9_wordsOf 49 = .ok (.bipush 11, 2) := by decide +kernel
theorem dX9_wordsOf_51 : decode cX9_wordsOf 51 = .ok (.if_icmp .ne 15, 3) := by decide +kernel
theorem dX9_wordsOf_54 : decode cX9_wordsOf 54 = .ok (.ldc2_w 208, 3) := by decide +kernel
theorem dX9_wordsOf_57 : decode cX9_wordsOf 57 = .ok (.ldc2_w 208, 3) := by decide +kernel
theorem dX9_wordsOf_60 : decode cX9_wordsOf 60 = .ok (.lload_n 1, 1) := by decide +kernel
theorem dX9_wordsOf_61 : decode cX9_wordsOf 61 = .ok (.lmul, 1) := by decide +kernel
theorem dX9_wordsOf_62 : decode cX9_wordsOf 62 = .ok (.ladd, 1) := by decide +kernel
theorem dX9_wordsOf_63 : decode cX9_wordsOf 63 = .ok (.goto 8, 3) := by decide +kernel
theorem dX9_wordsOf_66 : decode cX9_wordsOf 66 = .ok (.ldc2_w 208, 3) := by decide +kernel
theorem dX9_wordsOf_69 : decode cX9_wordsOf 69 = .ok (.lload_n 1, 1) := by decide +kernel
theorem dX9_wordsOf_70 : decode cX9_wordsOf 70 = .ok (.ladd, 1) := by decide +kernel
theorem dX9_wordsOf_71 : decode cX9_wordsOf 71 = .ok (.lreturn, 1) := by decide +kernel
theorem dX9_reach_0 : decode cX9_reach 0 = .ok (.iconst 0, 1) := by decide +kernel
theorem dX9_reach_1 : decode cX9_reach 1 = .ok (.istore_n 1, 1) := by decide +kernel
theorem dX9_reach_2 : decode cX9_reach 2 = .ok (.lconst 0, 1) := by decide +kernel
theorem dX9_reach_3 : decode cX9_reach 3 = .ok (.lstore_n 2, 1) := by decide +kernel
theorem dX9_reach_4 : decode cX9_reach 4 = .ok (.iconst 0, 1) := by decide +kernel
theorem dX9_reach_5 : decode cX9_reach 5 = .ok (.istore 4, 2) := by decide +kernel
theorem dX9_reach_7 : decode cX9_reach 7 = .ok (.iload 4, 2) := by decide +kernel
theorem dX9_reach_9 : decode cX9_reach 9 = .ok (.sipush 201, 3) := by decide +kernel
theorem dX9_reach_12 : decode cX9_reach 12 = .ok (.if_icmp .ge 17, 3) := by decide +kernel
theorem dX9_reach_15 : decode cX9_reach 15 = .ok (.aload_n 0, 1) := by decide +kernel
theorem dX9_reach_16 : decode cX9_reach 16 = .ok (.getfield 74, 3) := by decide +kernel
theorem dX9_reach_19 : decode cX9_reach 19 = .ok (.iload 4, 2) := by decide +kernel
theorem dX9_reach_21 : decode cX9_reach 21 = .ok (.iconst 0, 1) := by decide +kernel
theorem dX9_reach_22 : decode cX9_reach 22 = .ok (.bastore, 1) := by decide +kernel
theorem dX9_reach_23 : decode cX9_reach 23 = .ok (.iinc 4 1, 3) := by decide +kernel
theorem dX9_reach_26 : decode cX9_reach 26 = .ok (.goto (-19), 3) := by decide +kernel
theorem dX9_reach_29 : decode cX9_reach 29 = .ok (.iconst 0, 1) := by decide +kernel
theorem dX9_reach_30 : decode cX9_reach 30 = .ok (.istore 4, 2) := by decide +kernel
theorem dX9_reach_32 : decode cX9_reach 32 = .ok (.iload 4, 2) := by decide +kernel
theorem dX9_reach_34 : decode cX9_reach 34 = .ok (.aload_n 0, 1) := by decide +kernel
theorem dX9_reach_35 : decode cX9_reach 35 = .ok (.getfield 214, 3) := by decide +kernel
theorem dX9_reach_38 : decode cX9_reach 38 = .ok (.if_icmp .ge 126, 3) := by decide +kernel
theorem dX9_reach_41 : decode cX9_reach 41 = .ok (.iconst 0, 1) := by decide +kernel
theorem dX9_reach_42 : decode cX9_reach 42 = .ok (.istore 5, 2) := by decide +kernel
theorem dX9_reach_44 : decode cX9_reach 44 = .ok (.iload 5, 2) := by decide +kernel
theorem dX9_reach_46 : decode cX9_reach 46 = .ok (.bipush 16, 2) := by decide +kernel
theorem dX9_reach_48 : decode cX9_reach 48 = .ok (.if_icmp .ge 49, 3) := by decide +kernel
theorem dX9_reach_51 : decode cX9_reach 51 = .ok (.aload_n 0, 1) := by decide +kernel
theorem dX9_reach_52 : decode cX9_reach 52 = .ok (.getfield 111, 3) := by decide +kernel
theorem dX9_reach_55 : decode cX9_reach 55 = .ok (.bipush 16, 2) := by decide +kernel
theorem dX9_reach_57 : decode cX9_reach 57 = .ok (.iload 4, 2) := by decide +kernel
theorem dX9_reach_59 : decode cX9_reach 59 = .ok (.imul, 1) := by decide +kernel
theorem dX9_reach_60 : decode cX9_reach 60 = .ok (.iload 5, 2) := by decide +kernel
theorem dX9_reach_62 : decode cX9_reach 62 = .ok (.iadd, 1) := by decide +kernel
theorem dX9_reach_63 : decode cX9_reach 63 = .ok (.iaload, 1) := by decide +kernel
theorem dX9_reach_64 : decode cX9_reach 64 = .ok (.iconst 3, 1) := by decide +kernel
theorem dX9_reach_65 : decode cX9_reach 65 = .ok (.if_icmp .ne 24, 3) := by decide +kernel
theorem dX9_reach_68 : decode cX9_reach 68 = .ok (.aload_n 0, 1) := by decide +kernel
theorem dX9_reach_69 : decode cX9_reach 69 = .ok (.aload_n 0, 1) := by decide +kernel
theorem dX9_reach_70 : decode cX9_reach 70 = .ok (.getfield 108, 3) := by decide +kernel
theorem dX9_reach_73 : decode cX9_reach 73 = .ok (.bipush 16, 2) := by decide +kernel
theorem dX9_reach_75 : decode cX9_reach 75 = .ok (.iload 4, 2) := by decide +kernel
theorem dX9_reach_77 : decode cX9_reach 77 = .ok (.imul, 1) := by decide +kernel
theorem dX9_reach_78 : decode cX9_reach 78 = .ok (.iload 5, 2) := by decide +kernel
theorem dX9_reach_80 : decode cX9_reach 80 = .ok (.iadd, 1) := by decide +kernel
theorem dX9_reach_81 : decode cX9_reach 81 = .ok (.laload, 1) := by decide +kernel
theorem dX9_reach_82 : decode cX9_reach 82 = .ok (.iload_n 1, 1) := by decide +kernel
theorem dX9_reach_83 : decode cX9_reach 83 = .ok (.invokevirtual 217, 3) := by decide +kernel
theorem dX9_reach_86 : decode cX9_reach 86 = .ok (.goto 4, 3) := by decide +kernel
theorem dX9_reach_89 : decode cX9_reach 89 = .ok (.iload_n 1, 1) := by decide +kernel
theorem dX9_reach_90 : decode cX9_reach 90 = .ok (.istore_n 1, 1) := by decide +kernel
theorem dX9_reach_91 : decode cX9_reach 91 = .ok (.iinc 5 1, 3) := by decide +kernel
theorem dX9_reach_94 : decode cX9_reach 94 = .ok (.goto (-50), 3) := by decide +kernel
theorem dX9_reach_97 : decode cX9_reach 97 = .ok (.iconst 0, 1) := by decide +kernel
theorem dX9_reach_98 : decode cX9_reach 98 = .ok (.istore 5, 2) := by decide +kernel
theorem dX9_reach_100 : decode cX9_reach 100 = .ok (.iload 5, 2) := by decide +kernel
theorem dX9_reach_102 : decode cX9_reach 102 = .ok (.aload_n 0, 1) := by decide +kernel
theorem dX9_reach_103 : decode cX9_reach 103 = .ok (.getfield 105, 3) := by decide +kernel
theorem dX9_reach_106 : decode cX9_reach 106 = .ok (.iload 4, 2) := by decide +kernel
theorem dX9_reach_108 : decode cX9_reach 108 = .ok (.iaload, 1) := by decide +kernel
theorem dX9_reach_109 : decode cX9_reach 109 = .ok (.if_icmp .ge 49, 3) := by decide +kernel
theorem dX9_reach_112 : decode cX9_reach 112 = .ok (.aload_n 0, 1) := by decide +kernel
theorem dX9_reach_113 : decode cX9_reach 113 = .ok (.getfield 117, 3) := by decide +kernel
theorem dX9_reach_116 : decode cX9_reach 116 = .ok (.bipush 12, 2) := by decide +kernel
theorem dX9_reach_118 : decode cX9_reach 118 = .ok (.iload 4, 2) := by decide +kernel
theorem dX9_reach_120 : decode cX9_reach 120 = .ok (.imul, 1) := by decide +kernel
theorem dX9_reach_121 : decode cX9_reach 121 = .ok (.iload 5, 2) := by decide +kernel
theorem dX9_reach_123 : decode cX9_reach 123 = .ok (.iadd, 1) := by decide +kernel
theorem dX9_reach_124 : decode cX9_reach 124 = .ok (.iaload, 1) := by decide +kernel
theorem dX9_reach_125 : decode cX9_reach 125 = .ok (.iconst 3, 1) := by decide +kernel
theorem dX9_reach_126 : decode cX9_reach 126 = .ok (.if_icmp .ne 24, 3) := by decide +kernel
theorem dX9_reach_129 : decode cX9_reach 129 = .ok (.aload_n 0, 1) := by decide +kernel
theorem dX9_reach_130 : decode cX9_reach 130 = .ok (.aload_n 0, 1) := by decide +kernel
theorem dX9_reach_131 : decode cX9_reach 131 = .ok (.getfield 114, 3) := by decide +kernel
theorem dX9_reach_134 : decode cX9_reach 134 = .ok (.bipush 12, 2) := by decide +kernel
theorem dX9_reach_136 : decode cX9_reach 136 = .ok (.iload 4, 2) := by decide +kernel
theorem dX9_reach_138 : decode cX9_reach 138 = .ok (.imul, 1) := by decide +kernel
theorem dX9_reach_139 : decode cX9_reach 139 = .ok (.iload 5, 2) := by decide +kernel
theorem dX9_reach_141 : decode cX9_reach 141 = .ok (.iadd, 1) := by decide +kernel
theorem dX9_reach_142 : decode cX9_reach 142 = .ok (.laload, 1) := by decide +kernel
theorem dX9_reach_143 : decode cX9_reach 143 = .ok (.iload_n 1, 1) := by decide +kernel
theorem dX9_reach_144 : decode cX9_reach 144 = .ok (.invokevirtual 217, 3) := by decide +kernel
theorem dX9_reach_147 : decode cX9_reach 147 = .ok (.goto 4, 3) := by decide +kernel
theorem dX9_reach_150 : decode cX9_reach 150 = .ok (.iload_n 1, 1) := by decide +kernel
theorem dX9_reach_151 : decode cX9_reach 151 = .ok (.istore_n 1, 1) := by decide +kernel
theorem dX9_reach_152 : decode cX9_reach 152 = .ok (.iinc 5 1, 3) := by decide +kernel
theorem dX9_reach_155 : decode cX9_reach 155 = .ok (.goto (-55), 3) := by decide +kernel
theorem dX9_reach_158 : decode cX9_reach 158 = .ok (.iinc 4 1, 3) := by decide +kernel
theorem dX9_reach_161 : decode cX9_reach 161 = .ok (.goto (-129), 3) := by decide +kernel
theorem dX9_reach_164 : decode cX9_reach 164 = .ok (.iload_n 1, 1) := by decide +kernel
theorem dX9_reach_165 : decode cX9_reach 165 = .ok (.ifCond .le 140, 3) := by decide +kernel
theorem dX9_reach_168 : decode cX9_reach 168 = .ok (.iinc 1 (-1), 3) := by decide +kernel
theorem dX9_reach_171 : decode cX9_reach 171 = .ok (.aload_n 0, 1) := by decide +kernel
theorem dX9_reach_172 : decode cX9_reach 172 = .ok (.getfield 96, 3) := by decide +kernel
theorem dX9_reach_175 : decode cX9_reach 175 = .ok (.iload_n 1, 1) := by decide +kernel
theorem dX9_reach_176 : decode cX9_reach 176 = .ok (.iaload, 1) := by decide +kernel
theorem dX9_reach_177 : decode cX9_reach 177 = .ok (.istore 4, 2) := by decide +kernel
theorem dX9_reach_179 : decode cX9_reach 179 = .ok (.lload_n 2, 1) := by decide +kernel
theorem dX9_reach_180 : decode cX9_reach 180 = .ok (.aload_n 0, 1) := by decide +kernel
theorem dX9_reach_181 : decode cX9_reach 181 = .ok (.getfield 80, 3) := by decide +kernel
theorem dX9_reach_184 : decode cX9_reach 184 = .ok (.iload 4, 2) := by decide +kernel
theorem dX9_reach_186 : decode cX9_reach 186 = .ok (.iaload, 1) := by decide +kernel
theorem dX9_reach_187 : decode cX9_reach 187 = .ok (.aload_n 0, 1) := by decide +kernel
theorem dX9_reach_188 : decode cX9_reach 188 = .ok (.getfield 83, 3) := by decide +kernel
theorem dX9_reach_191 : decode cX9_reach 191 = .ok (.iload 4, 2) := by decide +kernel
theorem dX9_reach_193 : decode cX9_reach 193 = .ok (.iaload, 1) := by decide +kernel
theorem dX9_reach_194 : decode cX9_reach 194 = .ok (.i2l, 1) := by decide +kernel
theorem dX9_reach_195 : decode cX9_reach 195 = .ok (.invokestatic 221, 3) := by decide +kernel
theorem dX9_reach_198 : decode cX9_reach 198 = .ok (.ladd, 1) := by decide +kernel
theorem dX9_reach_199 : decode cX9_reach 199 = .ok (.lstore_n 2, 1) := by decide +kernel
theorem dX9_reach_200 : decode cX9_reach 200 = .ok (.iconst 0, 1) := by decide +kernel
theorem dX9_reach_201 : decode cX9_reach 201 = .ok (.istore 5, 2) := by decide +kernel
theorem dX9_reach_203 : decode cX9_reach 203 = .ok (.iload 5, 2) := by decide +kernel
theorem dX9_reach_205 : decode cX9_reach 205 = .ok (.aload_n 0, 1) := by decide +kernel
theorem dX9_reach_206 : decode cX9_reach 206 = .ok (.getfield 83, 3) := by decide +kernel
theorem dX9_reach_209 : decode cX9_reach 209 = .ok (.iload 4, 2) := by decide +kernel
theorem dX9_reach_211 : decode cX9_reach 211 = .ok (.iaload, 1) := by decide +kernel
theorem dX9_reach_212 : decode cX9_reach 212 = .ok (.if_icmp .ge 90, 3) := by decide +kernel
theorem dX9_reach_215 : decode cX9_reach 215 = .ok (.aload_n 0, 1) := by decide +kernel
theorem dX9_reach_216 : decode cX9_reach 216 = .ok (.getfield 80, 3) := by decide +kernel
theorem dX9_reach_219 : decode cX9_reach 219 = .ok (.iload 4, 2) := by decide +kernel
theorem dX9_reach_221 : decode cX9_reach 221 = .ok (.iaload, 1) := by decide +kernel
theorem dX9_reach_222 : decode cX9_reach 222 = .ok (.bipush 12, 2) := by decide +kernel
theorem dX9_reach_224 : decode cX9_reach 224 = .ok (.if_icmp .eq 35, 3) := by decide +kernel
theorem dX9_reach_227 : decode cX9_reach 227 = .ok (.aload_n 0, 1) := by decide +kernel
theorem dX9_reach_228 : decode cX9_reach 228 = .ok (.getfield 80, 3) := by decide +kernel
theorem dX9_reach_231 : decode cX9_reach 231 = .ok (.iload 4, 2) := by decide +kernel
theorem dX9_reach_233 : decode cX9_reach 233 = .ok (.iaload, 1) := by decide +kernel
theorem dX9_reach_234 : decode cX9_reach 234 = .ok (.ifCond .ne 29, 3) := by decide +kernel
theorem dX9_reach_237 : decode cX9_reach 237 = .ok (.aload_n 0, 1) := by decide +kernel
theorem dX9_reach_238 : decode cX9_reach 238 = .ok (.getfield 16, 3) := by decide +kernel
theorem dX9_reach_241 : decode cX9_reach 241 = .ok (.bipush 8, 2) := by decide +kernel
theorem dX9_reach_243 : decode cX9_reach 243 = .ok (.aload_n 0, 1) := by decide +kernel
theorem dX9_reach_244 : decode cX9_reach 244 = .ok (.getfield 77, 3) := by decide +kernel
theorem dX9_reach_247 : decode cX9_reach 247 = .ok (.iload 4, 2) := by decide +kernel
theorem dX9_reach_249 : decode cX9_reach 249 = .ok (.iaload, 1) := by decide +kernel
theorem dX9_reach_250 : decode cX9_reach 250 = .ok (.imul, 1) := by decide +kernel
theorem dX9_reach_251 : decode cX9_reach 251 = .ok (.iload 5, 2) := by decide +kernel
theorem dX9_reach_253 : decode cX9_reach 253 = .ok (.iadd, 1) := by decide +kernel
theorem dX9_reach_254 : decode cX9_reach 254 = .ok (.iaload, 1) := by decide +kernel
theorem dX9_reach_255 : decode cX9_reach 255 = .ok (.iconst 3, 1) := by decide +kernel
theorem dX9_reach_256 : decode cX9_reach 256 = .ok (.if_icmp .ne 7, 3) := by decide +kernel
theorem dX9_reach_259 : decode cX9_reach 259 = .ok (.iconst 1, 1) := by decide +kernel
theorem dX9_reach_260 : decode cX9_reach 260 = .ok (.goto 4, 3) := by decide +kernel
theorem dX9_reach_263 : decode cX9_reach 263 = .ok (.iconst 0, 1) := by decide +kernel
theorem dX9_reach_264 : decode cX9_reach 264 = .ok (.istore 6, 2) := by decide +kernel
theorem dX9_reach_266 : decode cX9_reach 266 = .ok (.iload 6, 2) := by decide +kernel
theorem dX9_reach_268 : decode cX9_reach 268 = .ok (.ifCond .eq 26, 3) := by decide +kernel
theorem dX9_reach_271 : decode cX9_reach 271 = .ok (.aload_n 0, 1) := by decide +kernel
theorem dX9_reach_272 : decode cX9_reach 272 = .ok (.aload_n 0, 1) := by decide +kernel
theorem dX9_reach_273 : decode cX9_reach 273 = .ok (.getfield 92, 3) := by decide +kernel
theorem dX9_reach_276 : decode cX9_reach 276 = .ok (.aload_n 0, 1) := by decide +kernel
theorem dX9_reach_277 : decode cX9_reach 277 = .ok (.getfield 86, 3) := by decide +kernel
theorem dX9_reach_280 : decode cX9_reach 280 = .ok (.iload 4, 2) := by decide +kernel
theorem dX9_reach_282 : decode cX9_reach 282 = .ok (.iaload, 1) := by decide +kernel
theorem dX9_reach_283 : decode cX9_reach 283 = .ok (.iload 5, 2) := by decide +kernel
theorem dX9_reach_285 : decode cX9_reach 285 = .ok (.iadd, 1) := by decide +kernel
theorem dX9_reach_286 : decode cX9_reach 286 = .ok (.laload, 1) := by decide +kernel
theorem dX9_reach_287 : decode cX9_reach 287 = .ok (.iload_n 1, 1) := by decide +kernel
theorem dX9_reach_288 : decode cX9_reach 288 = .ok (.invokevirtual 217, 3) := by decide +kernel
theorem dX9_reach_291 : decode cX9_reach 291 = .ok (.goto 4, 3) := by decide +kernel
theorem dX9_reach_294 : decode cX9_reach 294 = .ok (.iload_n 1, 1) := by decide +kernel
theorem dX9_reach_295 : decode cX9_reach 295 = .ok (.istore_n 1, 1) := by decide +kernel
theorem dX9_reach_296 : decode cX9_reach 296 = .ok (.iinc 5 1, 3) := by decide +kernel
theorem dX9_reach_299 : decode cX9_reach 299 = .ok (.goto (-96), 3) := by decide +kernel
theorem dX9_reach_302 : decode cX9_reach 302 = .ok (.goto (-138), 3) := by decide +kernel
theorem dX9_reach_305 : decode cX9_reach 305 = .ok (.lload_n 2, 1) := by decide +kernel
theorem dX9_reach_306 : decode cX9_reach 306 = .ok (.lreturn, 1) := by decide +kernel
theorem dX9_sweep_0 : decode cX9_sweep 0 = .ok (.iconst 0, 1) := by decide +kernel
theorem dX9_sweep_1 : decode cX9_sweep 1 = .ok (.istore_n 1, 1) := by decide +kernel
theorem dX9_sweep_2 : decode cX9_sweep 2 = .ok (.aload_n 0, 1) := by decide +kernel
theorem dX9_sweep_3 : decode cX9_sweep 3 = .ok (.iconst 0, 1) := by decide +kernel
theorem dX9_sweep_4 : decode cX9_sweep 4 = .ok (.putfield 225, 3) := by decide +kernel
theorem dX9_sweep_7 : decode cX9_sweep 7 = .ok (.iconst 0, 1) := by decide +kernel
theorem dX9_sweep_8 : decode cX9_sweep 8 = .ok (.istore_n 2, 1) := by decide +kernel
theorem dX9_sweep_9 : decode cX9_sweep 9 = .ok (.iload_n 2, 1) := by decide +kernel
theorem dX9_sweep_10 : decode cX9_sweep 10 = .ok (.aload_n 0, 1) := by decide +kernel
theorem dX9_sweep_11 : decode cX9_sweep 11 = .ok (.getfield 228, 3) := by decide +kernel
theorem dX9_sweep_14 : decode cX9_sweep 14 = .ok (.if_icmp .ge 118, 3) := by decide +kernel
theorem dX9_sweep_17 : decode cX9_sweep 17 = .ok (.aload_n 0, 1) := by decide +kernel
theorem dX9_sweep_18 : decode cX9_sweep 18 = .ok (.getfield 89, 3) := by decide +kernel
theorem dX9_sweep_21 : decode cX9_sweep 21 = .ok (.iload_n 2, 1) := by decide +kernel
theorem dX9_sweep_22 : decode cX9_sweep 22 = .ok (.iaload, 1) := by decide +kernel
theorem dX9_sweep_23 : decode cX9_sweep 23 = .ok (.istore_n 3, 1) := by decide +kernel
theorem dX9_sweep_24 : decode cX9_sweep 24 = .ok (.aload_n 0, 1) := by decide +kernel
theorem dX9_sweep_25 : decode cX9_sweep 25 = .ok (.getfield 71, 3) := by decide +kernel
theorem dX9_sweep_28 : decode cX9_sweep 28 = .ok (.iload_n 3, 1) := by decide +kernel
theorem dX9_sweep_29 : decode cX9_sweep 29 = .ok (.aload_n 0, 1) := by decide +kernel
theorem dX9_sweep_30 : decode cX9_sweep 30 = .ok (.getfield 74, 3) := by decide +kernel
theorem dX9_sweep_33 : decode cX9_sweep 33 = .ok (.iload_n 3, 1) := by decide +kernel
theorem dX9_sweep_34 : decode cX9_sweep 34 = .ok (.baload, 1) := by decide +kernel
theorem dX9_sweep_35 : decode cX9_sweep 35 = .ok (.bastore, 1) := by decide +kernel
theorem dX9_sweep_36 : decode cX9_sweep 36 = .ok (.aload_n 0, 1) := by decide +kernel
theorem dX9_sweep_37 : decode cX9_sweep 37 = .ok (.getfield 74, 3) := by decide +kernel
theorem dX9_sweep_40 : decode cX9_sweep 40 = .ok (.iload_n 3, 1) := by decide +kernel
theorem dX9_sweep_41 : decode cX9_sweep 41 = .ok (.baload, 1) := by decide +kernel
theorem dX9_sweep_42 : decode cX9_sweep 42 = .ok (.ifCond .eq 84, 3) := by decide +kernel
theorem dX9_sweep_45 : decode cX9_sweep 45 = .ok (.iconst 0, 1) := by decide +kernel
theorem dX9_sweep_46 : decode cX9_sweep 46 = .ok (.istore 4, 2) := by decide +kernel
theorem dX9_sweep_48 : decode cX9_sweep 48 = .ok (.iload 4, 2) := by decide +kernel
theorem dX9_sweep_50 : decode cX9_sweep 50 = .ok (.aload_n 0, 1) := by decide +kernel
theorem dX9_sweep_51 : decode cX9_sweep 51 = .ok (.getfield 83, 3) := by decide +kernel
theorem dX9_sweep_54 : decode cX9_sweep 54 = .ok (.iload_n 3, 1) := by decide +kernel
theorem dX9_sweep_55 : decode cX9_sweep 55 = .ok (.iaload, 1) := by decide +kernel
theorem dX9_sweep_56 : decode cX9_sweep 56 = .ok (.if_icmp .ge 35, 3) := by decide +kernel
theorem dX9_sweep_59 : decode cX9_sweep 59 = .ok (.aload_n 0, 1) := by decide +kernel
theorem dX9_sweep_60 : decode cX9_sweep 60 = .ok (.getfield 92, 3) := by decide +kernel
theorem dX9_sweep_63 : decode cX9_sweep 63 = .ok (.aload_n 0, 1) := by decide +kernel
theorem dX9_sweep_64 : decode cX9_sweep 64 = .ok (.getfield 225, 3) := by decide +kernel
theorem dX9_sweep_67 : decode cX9_sweep 67 = .ok (.iload 4, 2) := by decide +kernel
theorem dX9_sweep_69 : decode cX9_sweep 69 = .ok (.iadd, 1) := by decide +kernel
theorem dX9_sweep_70 : decode cX9_sweep 70 = .ok (.aload_n 0, 1) := by decide +kernel
theorem dX9_sweep_71 : decode cX9_sweep 71 = .ok (.getfield 92, 3) := by decide +kernel
theorem dX9_sweep_74 : decode cX9_sweep 74 = .ok (.aload_n 0, 1) := by decide +kernel
theorem dX9_sweep_75 : decode cX9_sweep 75 = .ok (.getfield 86, 3) := by decide +kernel
theorem dX9_sweep_78 : decode cX9_sweep 78 = .ok (.iload_n 3, 1) := by decide +kernel
theorem dX9_sweep_79 : decode cX9_sweep 79 = .ok (.iaload, 1) := by decide +kernel
theorem dX9_sweep_80 : decode cX9_sweep 80 = .ok (.iload 4, 2) := by decide +kernel
theorem dX9_sweep_82 : decode cX9_sweep 82 = .ok (.iadd, 1) := by decide +kernel
theorem dX9_sweep_83 : decode cX9_sweep 83 = .ok (.laload, 1) := by decide +kernel
theorem dX9_sweep_84 : decode cX9_sweep 84 = .ok (.lastore, 1) := by decide +kernel
theorem dX9_sweep_85 : decode cX9_sweep 85 = .ok (.iinc 4 1, 3) := by decide +kernel
theorem dX9_sweep_88 : decode cX9_sweep 88 = .ok (.goto (-40), 3) := by decide +kernel
theorem dX9_sweep_91 : decode cX9_sweep 91 = .ok (.aload_n 0, 1) := by decide +kernel
theorem dX9_sweep_92 : decode cX9_sweep 92 = .ok (.getfield 86, 3) := by decide +kernel
theorem dX9_sweep_95 : decode cX9_sweep 95 = .ok (.iload_n 3, 1) := by decide +kernel
theorem dX9_sweep_96 : decode cX9_sweep 96 = .ok (.aload_n 0, 1) := by decide +kernel
theorem dX9_sweep_97 : decode cX9_sweep 97 = .ok (.getfield 225, 3) := by decide +kernel
theorem dX9_sweep_100 : decode cX9_sweep 100 = .ok (.iastore, 1) := by decide +kernel
theorem dX9_sweep_101 : decode cX9_sweep 101 = .ok (.aload_n 0, 1) := by decide +kernel
theorem dX9_sweep_102 : decode cX9_sweep 102 = .ok (.aload_n 0, 1) := by decide +kernel
theorem dX9_sweep_103 : decode cX9_sweep 103 = .ok (.getfield 225, 3) := by decide +kernel
theorem dX9_sweep_106 : decode cX9_sweep 106 = .ok (.aload_n 0, 1) := by decide +kernel
theorem dX9_sweep_107 : decode cX9_sweep 107 = .ok (.getfield 83, 3) := by decide +kernel
theorem dX9_sweep_110 : decode cX9_sweep 110 = .ok (.iload_n 3, 1) := by decide +kernel
theorem dX9_sweep_111 : decode cX9_sweep 111 = .ok (.iaload, 1) := by decide +kernel
theorem dX9_sweep_112 : decode cX9_sweep 112 = .ok (.iadd, 1) := by decide +kernel
theorem dX9_sweep_113 : decode cX9_sweep 113 = .ok (.putfield 225, 3) := by decide +kernel
theorem dX9_sweep_116 : decode cX9_sweep 116 = .ok (.aload_n 0, 1) := by decide +kernel
theorem dX9_sweep_117 : decode cX9_sweep 117 = .ok (.getfield 89, 3) := by decide +kernel
theorem dX9_sweep_120 : decode cX9_sweep 120 = .ok (.iload_n 1, 1) := by decide +kernel
theorem dX9_sweep_121 : decode cX9_sweep 121 = .ok (.iload_n 3, 1) := by decide +kernel
theorem dX9_sweep_122 : decode cX9_sweep 122 = .ok (.iastore, 1) := by decide +kernel
theorem dX9_sweep_123 : decode cX9_sweep 123 = .ok (.iinc 1 1, 3) := by decide +kernel
theorem dX9_sweep_126 : decode cX9_sweep 126 = .ok (.iinc 2 1, 3) := by decide +kernel
theorem dX9_sweep_129 : decode cX9_sweep 129 = .ok (.goto (-120), 3) := by decide +kernel
theorem dX9_sweep_132 : decode cX9_sweep 132 = .ok (.aload_n 0, 1) := by decide +kernel
theorem dX9_sweep_133 : decode cX9_sweep 133 = .ok (.iload_n 1, 1) := by decide +kernel
theorem dX9_sweep_134 : decode cX9_sweep 134 = .ok (.putfield 228, 3) := by decide +kernel
theorem dX9_sweep_137 : decode cX9_sweep 137 = .ok (.return_, 1) := by decide +kernel
theorem dX9_make_0 : decode cX9_make 0 = .ok (.aload_n 0, 1) := by decide +kernel
theorem dX9_make_1 : decode cX9_make 1 = .ok (.invokevirtual 231, 3) := by decide +kernel
theorem dX9_make_4 : decode cX9_make 4 = .ok (.iload_n 2, 1) := by decide +kernel
theorem dX9_make_5 : decode cX9_make 5 = .ok (.iload_n 3, 1) := by decide +kernel
theorem dX9_make_6 : decode cX9_make 6 = .ok (.i2l, 1) := by decide +kernel
theorem dX9_make_7 : decode cX9_make 7 = .ok (.invokestatic 221, 3) := by decide +kernel
theorem dX9_make_10 : decode cX9_make 10 = .ok (.ladd, 1) := by decide +kernel
theorem dX9_make_11 : decode cX9_make 11 = .ok (.lstore 4, 2) := by decide +kernel
theorem dX9_make_13 : decode cX9_make 13 = .ok (.lload 4, 2) := by decide +kernel
theorem dX9_make_15 : decode cX9_make 15 = .ok (.aload_n 0, 1) := by decide +kernel
theorem dX9_make_16 : decode cX9_make 16 = .ok (.getfield 120, 3) := by decide +kernel
theorem dX9_make_19 : decode cX9_make 19 = .ok (.i2l, 1) := by decide +kernel
theorem dX9_make_20 : decode cX9_make 20 = .ok (.lcmp, 1) := by decide +kernel
theorem dX9_make_21 : decode cX9_make 21 = .ok (.ifCond .le 15, 3) := by decide +kernel
theorem dX9_make_24 : decode cX9_make 24 = .ok (.aload_n 0, 1) := by decide +kernel
theorem dX9_make_25 : decode cX9_make 25 = .ok (.iconst 3, 1) := by decide +kernel
theorem dX9_make_26 : decode cX9_make 26 = .ok (.putfield 235, 3) := by decide +kernel
theorem dX9_make_29 : decode cX9_make 29 = .ok (.aload_n 0, 1) := by decide +kernel
theorem dX9_make_30 : decode cX9_make 30 = .ok (.iconst 1, 1) := by decide +kernel
theorem dX9_make_31 : decode cX9_make 31 = .ok (.putfield 238, 3) := by decide +kernel
theorem dX9_make_34 : decode cX9_make 34 = .ok (.lconst 0, 1) := by decide +kernel
theorem dX9_make_35 : decode cX9_make 35 = .ok (.lreturn, 1) := by decide +kernel
theorem dX9_make_36 : decode cX9_make 36 = .ok (.aload_n 0, 1) := by decide +kernel
theorem dX9_make_37 : decode cX9_make 37 = .ok (.lload 4, 2) := by decide +kernel
theorem dX9_make_39 : decode cX9_make 39 = .ok (.l2i, 1) := by decide +kernel
theorem dX9_make_40 : decode cX9_make 40 = .ok (.putfield 241, 3) := by decide +kernel
theorem dX9_make_43 : decode cX9_make 43 = .ok (.aload_n 0, 1) := by decide +kernel
theorem dX9_make_44 : decode cX9_make 44 = .ok (.aload_n 0, 1) := by decide +kernel
theorem dX9_make_45 : decode cX9_make 45 = .ok (.getfield 241, 3) := by decide +kernel
theorem dX9_make_48 : decode cX9_make 48 = .ok (.aload_n 0, 1) := by decide +kernel
theorem dX9_make_49 : decode cX9_make 49 = .ok (.getfield 244, 3) := by decide +kernel
theorem dX9_make_52 : decode cX9_make 52 = .ok (.if_icmp .le 10, 3) := by decide +kernel
theorem dX9_make_55 : decode cX9_make 55 = .ok (.aload_n 0, 1) := by decide +kernel
theorem dX9_make_56 : decode cX9_make 56 = .ok (.getfield 241, 3) := by decide +kernel
theorem dX9_make_59 : decode cX9_make 59 = .ok (.goto 7, 3) := by decide +kernel
theorem dX9_make_62 : decode cX9_make 62 = .ok (.aload_n 0, 1) := by decide +kernel
theorem dX9_make_63 : decode cX9_make 63 = .ok (.getfield 244, 3) := by decide +kernel
theorem dX9_make_66 : decode cX9_make 66 = .ok (.putfield 244, 3) := by decide +kernel
theorem dX9_make_69 : decode cX9_make 69 = .ok (.aload_n 0, 1) := by decide +kernel
theorem dX9_make_70 : decode cX9_make 70 = .ok (.invokevirtual 247, 3) := by decide +kernel
theorem dX9_make_73 : decode cX9_make 73 = .ok (.iconst 0, 1) := by decide +kernel
theorem dX9_make_74 : decode cX9_make 74 = .ok (.istore 6, 2) := by decide +kernel
theorem dX9_make_76 : decode cX9_make 76 = .ok (.aload_n 0, 1) := by decide +kernel
theorem dX9_make_77 : decode cX9_make 77 = .ok (.getfield 71, 3) := by decide +kernel
theorem dX9_make_80 : decode cX9_make 80 = .ok (.iload 6, 2) := by decide +kernel
theorem dX9_make_82 : decode cX9_make 82 = .ok (.baload, 1) := by decide +kernel
theorem dX9_make_83 : decode cX9_make 83 = .ok (.ifCond .eq 9, 3) := by decide +kernel
theorem dX9_make_86 : decode cX9_make 86 = .ok (.iinc 6 1, 3) := by decide +kernel
theorem dX9_make_89 : decode cX9_make 89 = .ok (.goto (-13), 3) := by decide +kernel
theorem dX9_make_92 : decode cX9_make 92 = .ok (.aload_n 0, 1) := by decide +kernel
theorem dX9_make_93 : decode cX9_make 93 = .ok (.getfield 71, 3) := by decide +kernel
theorem dX9_make_96 : decode cX9_make 96 = .ok (.iload 6, 2) := by decide +kernel
theorem dX9_make_98 : decode cX9_make 98 = .ok (.iconst 1, 1) := by decide +kernel
theorem dX9_make_99 : decode cX9_make 99 = .ok (.bastore, 1) := by decide +kernel
theorem dX9_make_100 : decode cX9_make 100 = .ok (.aload_n 0, 1) := by decide +kernel
theorem dX9_make_101 : decode cX9_make 101 = .ok (.getfield 77, 3) := by decide +kernel
theorem dX9_make_104 : decode cX9_make 104 = .ok (.iload 6, 2) := by decide +kernel
theorem dX9_make_106 : decode cX9_make 106 = .ok (.iload_n 1, 1) := by decide +kernel
theorem dX9_make_107 : decode cX9_make 107 = .ok (.iastore, 1) := by decide +kernel
theorem dX9_make_108 : decode cX9_make 108 = .ok (.aload_n 0, 1) := by decide +kernel
theorem dX9_make_109 : decode cX9_make 109 = .ok (.getfield 80, 3) := by decide +kernel
theorem dX9_make_112 : decode cX9_make 112 = .ok (.iload 6, 2) := by decide +kernel
theorem dX9_make_114 : decode cX9_make 114 = .ok (.iload_n 2, 1) := by decide +kernel
theorem dX9_make_115 : decode cX9_make 115 = .ok (.iastore, 1) := by decide +kernel
theorem dX9_make_116 : decode cX9_make 116 = .ok (.aload_n 0, 1) := by decide +kernel
theorem dX9_make_117 : decode cX9_make 117 = .ok (.getfield 83, 3) := by decide +kernel
theorem dX9_make_120 : decode cX9_make 120 = .ok (.iload 6, 2) := by decide +kernel
theorem dX9_make_122 : decode cX9_make 122 = .ok (.iload_n 3, 1) := by decide +kernel
theorem dX9_make_123 : decode cX9_make 123 = .ok (.iastore, 1) := by decide +kernel
theorem dX9_make_124 : decode cX9_make 124 = .ok (.aload_n 0, 1) := by decide +kernel
theorem dX9_make_125 : decode cX9_make 125 = .ok (.getfield 86, 3) := by decide +kernel
theorem dX9_make_128 : decode cX9_make 128 = .ok (.iload 6, 2) := by decide +kernel
theorem dX9_make_130 : decode cX9_make 130 = .ok (.aload_n 0, 1) := by decide +kernel
theorem dX9_make_131 : decode cX9_make 131 = .ok (.getfield 225, 3) := by decide +kernel
theorem dX9_make_134 : decode cX9_make 134 = .ok (.iastore, 1) := by decide +kernel
theorem dX9_make_135 : decode cX9_make 135 = .ok (.iconst 0, 1) := by decide +kernel
theorem dX9_make_136 : decode cX9_make 136 = .ok (.istore 7, 2) := by decide +kernel
theorem dX9_make_138 : decode cX9_make 138 = .ok (.iload 7, 2) := by decide +kernel
theorem dX9_make_140 : decode cX9_make 140 = .ok (.iload_n 3, 1) := by decide +kernel
theorem dX9_make_141 : decode cX9_make 141 = .ok (.if_icmp .ge 22, 3) := by decide +kernel
theorem dX9_make_144 : decode cX9_make 144 = .ok (.aload_n 0, 1) := by decide +kernel
theorem dX9_make_145 : decode cX9_make 145 = .ok (.getfield 92, 3) := by decide +kernel
theorem dX9_make_148 : decode cX9_make 148 = .ok (.aload_n 0, 1) := by decide +kernel
theorem dX9_make_149 : decode cX9_make 149 = .ok (.getfield 225, 3) := by decide +kernel
theorem dX9_make_152 : decode cX9_make 152 = .ok (.iload 7, 2) := by decide +kernel
theorem dX9_make_154 : decode cX9_make 154 = .ok (.iadd, 1) := by decide +kernel
theorem dX9_make_155 : decode cX9_make 155 = .ok (.lconst 0, 1) := by decide +kernel
theorem dX9_make_156 : decode cX9_make 156 = .ok (.lastore, 1) := by decide +kernel
theorem dX9_make_157 : decode cX9_make 157 = .ok (.iinc 7 1, 3) := by decide +kernel
theorem dX9_make_160 : decode cX9_make 160 = .ok (.goto (-22), 3) := by decide +kernel
theorem dX9_make_163 : decode cX9_make 163 = .ok (.aload_n 0, 1) := by decide +kernel
theorem dX9_make_164 : decode cX9_make 164 = .ok (.aload_n 0, 1) := by decide +kernel
theorem dX9_make_165 : decode cX9_make 165 = .ok (.getfield 225, 3) := by decide +kernel
theorem dX9_make_168 : decode cX9_make 168 = .ok (.iload_n 3, 1) := by decide +kernel
theorem dX9_make_169 : decode cX9_make 169 = .ok (.iadd, 1) := by decide +kernel
theorem dX9_make_170 : decode cX9_make 170 = .ok (.putfield 225, 3) := by decide +kernel
theorem dX9_make_173 : decode cX9_make 173 = .ok (.aload_n 0, 1) := by decide +kernel
theorem dX9_make_174 : decode cX9_make 174 = .ok (.getfield 89, 3) := by decide +kernel
theorem dX9_make_177 : decode cX9_make 177 = .ok (.aload_n 0, 1) := by decide +kernel
theorem dX9_make_178 : decode cX9_make 178 = .ok (.getfield 228, 3) := by decide +kernel
theorem dX9_make_181 : decode cX9_make 181 = .ok (.iload 6, 2) := by decide +kernel
theorem dX9_make_183 : decode cX9_make 183 = .ok (.iastore, 1) := by decide +kernel
theorem dX9_make_184 : decode cX9_make 184 = .ok (.aload_n 0, 1) := by decide +kernel
theorem dX9_make_185 : decode cX9_make 185 = .ok (.dup, 1) := by decide +kernel
theorem dX9_make_186 : decode cX9_make 186 = .ok (.getfield 228, 3) := by decide +kernel
theorem dX9_make_189 : decode cX9_make 189 = .ok (.iconst 1, 1) := by decide +kernel
theorem dX9_make_190 : decode cX9_make 190 = .ok (.iadd, 1) := by decide +kernel
theorem dX9_make_191 : decode cX9_make 191 = .ok (.putfield 228, 3) := by decide +kernel
theorem dX9_make_194 : decode cX9_make 194 = .ok (.iload 6, 2) := by decide +kernel
theorem dX9_make_196 : decode cX9_make 196 = .ok (.i2l, 1) := by decide +kernel
theorem dX9_make_197 : decode cX9_make 197 = .ok (.lconst 1, 1) := by decide +kernel
theorem dX9_make_198 : decode cX9_make 198 = .ok (.ladd, 1) := by decide +kernel
theorem dX9_make_199 : decode cX9_make 199 = .ok (.lreturn, 1) := by decide +kernel
theorem dX9_raise_0 : decode cX9_raise 0 = .ok (.aload_n 0, 1) := by decide +kernel
theorem dX9_raise_1 : decode cX9_raise 1 = .ok (.iload_n 1, 1) := by decide +kernel
theorem dX9_raise_2 : decode cX9_raise 2 = .ok (.iconst 0, 1) := by decide +kernel
theorem dX9_raise_3 : decode cX9_raise 3 = .ok (.iconst 0, 1) := by decide +kernel
theorem dX9_raise_4 : decode cX9_raise 4 = .ok (.invokevirtual 263, 3) := by decide +kernel
theorem dX9_raise_7 : decode cX9_raise 7 = .ok (.lstore_n 2, 1) := by decide +kernel
theorem dX9_raise_8 : decode cX9_raise 8 = .ok (.aload_n 0, 1) := by decide +kernel
theorem dX9_raise_9 : decode cX9_raise 9 = .ok (.getfield 238, 3) := by decide +kernel
theorem dX9_raise_12 : decode cX9_raise 12 = .ok (.ifCond .ne 11, 3) := by decide +kernel
theorem dX9_raise_15 : decode cX9_raise 15 = .ok (.aload_n 0, 1) := by decide +kernel
theorem dX9_raise_16 : decode cX9_raise 16 = .ok (.lload_n 2, 1) := by decide +kernel
theorem dX9_raise_17 : decode cX9_raise 17 = .ok (.l2i, 1) := by decide +kernel
theorem dX9_raise_18 : decode cX9_raise 18 = .ok (.iconst 1, 1) := by decide +kernel
theorem dX9_raise_19 : decode cX9_raise 19 = .ok (.isub, 1) := by decide +kernel
theorem dX9_raise_20 : decode cX9_raise 20 = .ok (.invokevirtual 267, 3) := by decide +kernel
theorem dX9_raise_23 : decode cX9_raise 23 = .ok (.return_, 1) := by decide +kernel
theorem dX9_doCall_0 : decode cX9_doCall 0 = .ok (.aload_n 0, 1) := by decide +kernel
theorem dX9_doCall_1 : decode cX9_doCall 1 = .ok (.getfield 214, 3) := by decide +kernel
theorem dX9_doCall_4 : decode cX9_doCall 4 = .ok (.bipush 16, 2) := by decide +kernel
theorem dX9_doCall_6 : decode cX9_doCall 6 = .ok (.if_icmp .ne 10, 3) := by decide +kernel
theorem dX9_doCall_9 : decode cX9_doCall 9 = .ok (.aload_n 0, 1) := by decide +kernel
theorem dX9_doCall_10 : decode cX9_doCall 10 = .ok (.bipush 6, 2) := by decide +kernel
theorem dX9_doCall_12 : decode cX9_doCall 12 = .ok (.invokevirtual 314, 3) := by decide +kernel
theorem dX9_doCall_15 : decode cX9_doCall 15 = .ok (.return_, 1) := by decide +kernel
theorem dX9_doCall_16 : decode cX9_doCall 16 = .ok (.aload_n 0, 1) := by decide +kernel
theorem dX9_doCall_17 : decode cX9_doCall 17 = .ok (.iload_n 1, 1) := by decide +kernel
theorem dX9_doCall_18 : decode cX9_doCall 18 = .ok (.invokevirtual 250, 3) := by decide +kernel
theorem dX9_doCall_21 : decode cX9_doCall 21 = .ok (.aload_n 0, 1) := by decide +kernel
theorem dX9_doCall_22 : decode cX9_doCall 22 = .ok (.getfield 31, 3) := by decide +kernel
theorem dX9_doCall_25 : decode cX9_doCall 25 = .ok (.iload_n 1, 1) := by decide +kernel
theorem dX9_doCall_26 : decode cX9_doCall 26 = .ok (.iaload, 1) := by decide +kernel
theorem dX9_doCall_27 : decode cX9_doCall 27 = .ok (.iconst 1, 1) := by decide +kernel
theorem dX9_doCall_28 : decode cX9_doCall 28 = .ok (.isub, 1) := by decide +kernel
theorem dX9_doCall_29 : decode cX9_doCall 29 = .ok (.istore_n 2, 1) := by decide +kernel
theorem dX9_doCall_30 : decode cX9_doCall 30 = .ok (.iload_n 2, 1) := by decide +kernel
theorem dX9_doCall_31 : decode cX9_doCall 31 = .ok (.ifCond .lt 51, 3) := by decide +kernel
theorem dX9_doCall_34 : decode cX9_doCall 34 = .ok (.aload_n 0, 1) := by decide +kernel
theorem dX9_doCall_35 : decode cX9_doCall 35 = .ok (.getfield 111, 3) := by decide +kernel
theorem dX9_doCall_38 : decode cX9_doCall 38 = .ok (.bipush 16, 2) := by decide +kernel
theorem dX9_doCall_40 : decode cX9_doCall 40 = .ok (.aload_n 0, 1) := by decide +kernel
theorem dX9_doCall_41 : decode cX9_doCall 41 = .ok (.getfield 214, 3) := by decide +kernel
theorem dX9_doCall_44 : decode cX9_doCall 44 = .ok (.imul, 1) := by decide +kernel
theorem dX9_doCall_45 : decode cX9_doCall 45 = .ok (.iload_n 2, 1) := by decide +kernel
theorem dX9_doCall_46 : decode cX9_doCall 46 = .ok (.iadd, 1) := by decide +kernel
theorem dX9_doCall_47 : decode cX9_doCall 47 = .ok (.aload_n 0, 1) := by decide +kernel
theorem dX9_doCall_48 : decode cX9_doCall 48 = .ok (.getfield 34, 3) := by decide +kernel
theorem dX9_doCall_51 : decode cX9_doCall 51 = .ok (.iconst 4, 1) := by decide +kernel
theorem dX9_doCall_52 : decode cX9_doCall 52 = .ok (.iload_n 1, 1) := by decide +kernel
theorem dX9_doCall_53 : decode cX9_doCall 53 = .ok (.imul, 1) := by decide +kernel
theorem dX9_doCall_54 : decode cX9_doCall 54 = .ok (.iload_n 2, 1) := by decide +kernel
theorem dX9_doCall_55 : decode cX9_doCall 55 = .ok (.iadd, 1) := by decide +kernel
theorem dX9_doCall_56 : decode cX9_doCall 56 = .ok (.iaload, 1) := by decide +kernel
theorem dX9_doCall_57 : decode cX9_doCall 57 = .ok (.iastore, 1) := by decide +kernel
theorem dX9_doCall_58 : decode cX9_doCall 58 = .ok (.aload_n 0, 1) := by decide +kernel
theorem dX9_doCall_59 : decode cX9_doCall 59 = .ok (.getfield 108, 3) := by decide +kernel
theorem dX9_doCall_62 : decode cX9_doCall 62 = .ok (.bipush 16, 2) := by decide +kernel
theorem dX9_doCall_64 : decode cX9_doCall 64 = .ok (.aload_n 0, 1) := by decide +kernel
theorem dX9_doCall_65 : decode cX9_doCall 65 = .ok (.getfield 214, 3) := by decide +kernel
theorem dX9_doCall_68 : decode cX9_doCall 68 = .ok (.imul, 1) := by decide +kernel
theorem dX9_doCall_69 : decode cX9_doCall 69 = .ok (.iload_n 2, 1) := by decide +kernel
theorem dX9_doCall_70 : decode cX9_doCall 70 = .ok (.iadd, 1) := by decide +kernel
theorem dX9_doCall_71 : decode cX9_doCall 71 = .ok (.aload_n 0, 1) := by decide +kernel
theorem dX9_doCall_72 : decode cX9_doCall 72 = .ok (.invokevirtual 284, 3) := by decide +kernel
theorem dX9_doCall_75 : decode cX9_doCall 75 = .ok (.lastore, 1) := by decide +kernel
theorem dX9_doCall_76 : decode cX9_doCall 76 = .ok (.iinc 2 (-1), 3) := by decide +kernel
theorem dX9_doCall_79 : decode cX9_doCall 79 = .ok (.goto (-49), 3) := by decide +kernel
theorem dX9_doCall_82 : decode cX9_doCall 82 = .ok (.aload_n 0, 1) := by decide +kernel
theorem dX9_doCall_83 : decode cX9_doCall 83 = .ok (.dup, 1) := by decide +kernel
theorem dX9_doCall_84 : decode cX9_doCall 84 = .ok (.getfield 214, 3) := by decide +kernel
theorem dX9_doCall_87 : decode cX9_doCall 87 = .ok (.iconst 1, 1) := by decide +kernel
theorem dX9_doCall_88 : decode cX9_doCall 88 = .ok (.iadd, 1) := by decide +kernel
theorem dX9_doCall_89 : decode cX9_doCall 89 = .ok (.putfield 214, 3) := by decide +kernel
theorem dX9_doCall_92 : decode cX9_doCall 92 = .ok (.return_, 1) := by decide +kernel
theorem dX9_doEnd_0 : decode cX9_doEnd 0 = .ok (.iload_n 1, 1) := by decide +kernel
theorem dX9_doEnd_1 : decode cX9_doEnd 1 = .ok (.sipush 177, 3) := by decide +kernel
theorem dX9_doEnd_4 : decode cX9_doEnd 4 = .ok (.if_icmp .ne 7, 3) := by decide +kernel
theorem dX9_doEnd_7 : decode cX9_doEnd 7 = .ok (.lconst 0, 1) := by decide +kernel
theorem dX9_doEnd_8 : decode cX9_doEnd 8 = .ok (.goto 7, 3) := by decide +kernel
theorem dX9_doEnd_11 : decode cX9_doEnd 11 = .ok (.aload_n 0, 1) := by decide +kernel
theorem dX9_doEnd_12 : decode cX9_doEnd 12 = .ok (.invokevirtual 284, 3) := by decide +kernel
theorem dX9_doEnd_15 : decode cX9_doEnd 15 = .ok (.lstore_n 2, 1) := by decide +kernel
theorem dX9_doEnd_16 : decode cX9_doEnd 16 = .ok (.aload_n 0, 1) := by decide +kernel
theorem dX9_doEnd_17 : decode cX9_doEnd 17 = .ok (.dup, 1) := by decide +kernel
theorem dX9_doEnd_18 : decode cX9_doEnd 18 = .ok (.getfield 214, 3) := by decide +kernel
theorem dX9_doEnd_21 : decode cX9_doEnd 21 = .ok (.iconst 1, 1) := by decide +kernel
theorem dX9_doEnd_22 : decode cX9_doEnd 22 = .ok (.isub, 1) := by decide +kernel
theorem dX9_doEnd_23 : decode cX9_doEnd 23 = .ok (.putfield 214, 3) := by decide +kernel
theorem dX9_doEnd_26 : decode cX9_doEnd 26 = .ok (.aload_n 0, 1) := by decide +kernel
theorem dX9_doEnd_27 : decode cX9_doEnd 27 = .ok (.getfield 214, 3) := by decide +kernel
theorem dX9_doEnd_30 : decode cX9_doEnd 30 = .ok (.ifCond .ne 35, 3) := by decide +kernel
theorem dX9_doEnd_33 : decode cX9_doEnd 33 = .ok (.aload_n 0, 1) := by decide +kernel
theorem dX9_doEnd_34 : decode cX9_doEnd 34 = .ok (.iload_n 1, 1) := by decide +kernel
theorem dX9_doEnd_35 : decode cX9_doEnd 35 = .ok (.sipush 176, 3) := by decide +kernel
theorem dX9_doEnd_38 : decode cX9_doEnd 38 = .ok (.if_icmp .ne 17, 3) := by decide +kernel
theorem dX9_doEnd_41 : decode cX9_doEnd 41 = .ok (.lload_n 2, 1) := by decide +kernel
theorem dX9_doEnd_42 : decode cX9_doEnd 42 = .ok (.lconst 0, 1) := by decide +kernel
theorem dX9_doEnd_43 : decode cX9_doEnd 43 = .ok (.lcmp, 1) := by decide +kernel
theorem dX9_doEnd_44 : decode cX9_doEnd 44 = .ok (.ifCond .ne 7, 3) := by decide +kernel
theorem dX9_doEnd_47 : decode cX9_doEnd 47 = .ok (.lconst 0, 1) := by decide +kernel
theorem dX9_doEnd_48 : decode cX9_doEnd 48 = .ok (.goto 8, 3) := by decide +kernel
theorem dX9_doEnd_51 : decode cX9_doEnd 51 = .ok (.lconst 1, 1) := by decide +kernel
theorem dX9_doEnd_52 : decode cX9_doEnd 52 = .ok (.goto 4, 3) := by decide +kernel
theorem dX9_doEnd_55 : decode cX9_doEnd 55 = .ok (.lload_n 2, 1) := by decide +kernel
theorem dX9_doEnd_56 : decode cX9_doEnd 56 = .ok (.putfield 256, 3) := by decide +kernel
theorem dX9_doEnd_59 : decode cX9_doEnd 59 = .ok (.aload_n 0, 1) := by decide +kernel
theorem dX9_doEnd_60 : decode cX9_doEnd 60 = .ok (.iconst 1, 1) := by decide +kernel
theorem dX9_doEnd_61 : decode cX9_doEnd 61 = .ok (.putfield 238, 3) := by decide +kernel
theorem dX9_doEnd_64 : decode cX9_doEnd 64 = .ok (.return_, 1) := by decide +kernel
theorem dX9_doEnd_65 : decode cX9_doEnd 65 = .ok (.iload_n 1, 1) := by decide +kernel
theorem dX9_doEnd_66 : decode cX9_doEnd 66 = .ok (.sipush 177, 3) := by decide +kernel
theorem dX9_doEnd_69 : decode cX9_doEnd 69 = .ok (.if_icmp .eq 31, 3) := by decide +kernel
theorem dX9_doEnd_72 : decode cX9_doEnd 72 = .ok (.aload_n 0, 1) := by decide +kernel
theorem dX9_doEnd_73 : decode cX9_doEnd 73 = .ok (.iload_n 1, 1) := by decide +kernel
theorem dX9_doEnd_74 : decode cX9_doEnd 74 = .ok (.sipush 172, 3) := by decide +kernel
theorem dX9_doEnd_77 : decode cX9_doEnd 77 = .ok (.if_icmp .ne 7, 3) := by decide +kernel
theorem dX9_doEnd_80 : decode cX9_doEnd 80 = .ok (.iconst 1, 1) := by decide +kernel
theorem dX9_doEnd_81 : decode cX9_doEnd 81 = .ok (.goto 15, 3) := by decide +kernel
theorem dX9_doEnd_84 : decode cX9_doEnd 84 = .ok (.iload_n 1, 1) := by decide +kernel
theorem dX9_doEnd_85 : decode cX9_doEnd 85 = .ok (.sipush 173, 3) := by decide +kernel
theorem dX9_doEnd_88 : decode cX9_doEnd 88 = .ok (.if_icmp .ne 7, 3) := by decide +kernel
theorem dX9_doEnd_91 : decode cX9_doEnd 91 = .ok (.iconst 2, 1) := by decide +kernel
theorem dX9_doEnd_92 : decode cX9_doEnd 92 = .ok (.goto 4, 3) := by decide +kernel
theorem dX9_doEnd_95 : decode cX9_doEnd 95 = .ok (.iconst 3, 1) := by decide +kernel
theorem dX9_doEnd_96 : decode cX9_doEnd 96 = .ok (.lload_n 2, 1) := by decide +kernel
theorem dX9_doEnd_97 : decode cX9_doEnd 97 = .ok (.invokevirtual 274, 3) := by decide +kernel
theorem dX9_doEnd_100 : decode cX9_doEnd 100 = .ok (.aload_n 0, 1) := by decide +kernel
theorem dX9_doEnd_101 : decode cX9_doEnd 101 = .ok (.getfield 102, 3) := by decide +kernel
theorem dX9_doEnd_104 : decode cX9_doEnd 104 = .ok (.aload_n 0, 1) := by decide +kernel
theorem dX9_doEnd_105 : decode cX9_doEnd 105 = .ok (.getfield 214, 3) := by decide +kernel
theorem dX9_doEnd_108 : decode cX9_doEnd 108 = .ok (.iconst 1, 1) := by decide +kernel
theorem dX9_doEnd_109 : decode cX9_doEnd 109 = .ok (.isub, 1) := by decide +kernel
theorem dX9_doEnd_110 : decode cX9_doEnd 110 = .ok (.aload_n 0, 1) := by decide +kernel
theorem dX9_doEnd_111 : decode cX9_doEnd 111 = .ok (.getfield 102, 3) := by decide +kernel
theorem dX9_doEnd_114 : decode cX9_doEnd 114 = .ok (.aload_n 0, 1) := by decide +kernel
theorem dX9_doEnd_115 : decode cX9_doEnd 115 = .ok (.getfield 214, 3) := by decide +kernel
theorem dX9_doEnd_118 : decode cX9_doEnd 118 = .ok (.iconst 1, 1) := by decide +kernel
theorem dX9_doEnd_119 : decode cX9_doEnd 119 = .ok (.isub, 1) := by decide +kernel
theorem dX9_doEnd_120 : decode cX9_doEnd 120 = .ok (.iaload, 1) := by decide +kernel
theorem dX9_doEnd_121 : decode cX9_doEnd 121 = .ok (.iconst 2, 1) := by decide +kernel
theorem dX9_doEnd_122 : decode cX9_doEnd 122 = .ok (.iadd, 1) := by decide +kernel
theorem dX9_doEnd_123 : decode cX9_doEnd 123 = .ok (.iastore, 1) := by decide +kernel
theorem dX9_doEnd_124 : decode cX9_doEnd 124 = .ok (.return_, 1) := by decide +kernel
theorem dX9_fail_0 : decode cX9_fail 0 = .ok (.aload_n 0, 1) := by decide +kernel
theorem dX9_fail_1 : decode cX9_fail 1 = .ok (.iload_n 1, 1) := by decide +kernel
theorem dX9_fail_2 : decode cX9_fail 2 = .ok (.invokevirtual 314, 3) := by decide +kernel
theorem dX9_fail_5 : decode cX9_fail 5 = .ok (.aload_n 0, 1) := by decide +kernel
theorem dX9_fail_6 : decode cX9_fail 6 = .ok (.iconst 1, 1) := by decide +kernel
theorem dX9_fail_7 : decode cX9_fail 7 = .ok (.putfield 311, 3) := by decide +kernel
theorem dX9_fail_10 : decode cX9_fail 10 = .ok (.return_, 1) := by decide +kernel
theorem dX9_peek_0 : decode cX9_peek 0 = .ok (.aload_n 0, 1) := by decide +kernel
theorem dX9_peek_1 : decode cX9_peek 1 = .ok (.getfield 214, 3) := by decide +kernel
theorem dX9_peek_4 : decode cX9_peek 4 = .ok (.iconst 1, 1) := by decide +kernel
theorem dX9_peek_5 : decode cX9_peek 5 = .ok (.isub, 1) := by decide +kernel
theorem dX9_peek_6 : decode cX9_peek 6 = .ok (.istore_n 2, 1) := by decide +kernel
theorem dX9_peek_7 : decode cX9_peek 7 = .ok (.aload_n 0, 1) := by decide +kernel
theorem dX9_peek_8 : decode cX9_peek 8 = .ok (.getfield 114, 3) := by decide +kernel
theorem dX9_peek_11 : decode cX9_peek 11 = .ok (.bipush 12, 2) := by decide +kernel
theorem dX9_peek_13 : decode cX9_peek 13 = .ok (.iload_n 2, 1) := by decide +kernel
theorem dX9_peek_14 : decode cX9_peek 14 = .ok (.imul, 1) := by decide +kernel
theorem dX9_peek_15 : decode cX9_peek 15 = .ok (.aload_n 0, 1) := by decide +kernel
theorem dX9_peek_16 : decode cX9_peek 16 = .ok (.getfield 105, 3) := by decide +kernel
theorem dX9_peek_19 : decode cX9_peek 19 = .ok (.iload_n 2, 1) := by decide +kernel
theorem dX9_peek_20 : decode cX9_peek 20 = .ok (.iaload, 1) := by decide +kernel
theorem dX9_peek_21 : decode cX9_peek 21 = .ok (.iadd, 1) := by decide +kernel
theorem dX9_peek_22 : decode cX9_peek 22 = .ok (.iconst 1, 1) := by decide +kernel
theorem dX9_peek_23 : decode cX9_peek 23 = .ok (.isub, 1) := by decide +kernel
theorem dX9_peek_24 : decode cX9_peek 24 = .ok (.iload_n 1, 1) := by decide +kernel
theorem dX9_peek_25 : decode cX9_peek 25 = .ok (.isub, 1) := by decide +kernel
theorem dX9_peek_26 : decode cX9_peek 26 = .ok (.laload, 1) := by decide +kernel
theorem dX9_peek_27 : decode cX9_peek 27 = .ok (.lreturn, 1) := by decide +kernel
theorem dX9_isSort_0 : decode cX9_isSort 0 = .ok (.iload_n 0, 1) := by decide +kernel
theorem dX9_isSort_1 : decode cX9_isSort 1 = .ok (.bipush 60, 2) := by decide +kernel
theorem dX9_isSort_3 : decode cX9_isSort 3 = .ok (.if_icmp .ge 10, 3) := by decide +kernel
theorem dX9_isSort_6 : decode cX9_isSort 6 = .ok (.iload_n 0, 1) := by decide +kernel
theorem dX9_isSort_7 : decode cX9_isSort 7 = .ok (.bipush 46, 2) := by decide +kernel
theorem dX9_isSort_9 : decode cX9_isSort 9 = .ok (.isub, 1) := by decide +kernel
theorem dX9_isSort_10 : decode cX9_isSort 10 = .ok (.goto 7, 3) := by decide +kernel
theorem dX9_isSort_13 : decode cX9_isSort 13 = .ok (.iload_n 0, 1) := by decide +kernel
theorem dX9_isSort_14 : decode cX9_isSort 14 = .ok (.bipush 79, 2) := by decide +kernel
theorem dX9_isSort_16 : decode cX9_isSort 16 = .ok (.isub, 1) := by decide +kernel
theorem dX9_isSort_17 : decode cX9_isSort 17 = .ok (.istore_n 2, 1) := by decide +kernel
theorem dX9_isSort_18 : decode cX9_isSort 18 = .ok (.iload_n 2, 1) := by decide +kernel
theorem dX9_isSort_19 : decode cX9_isSort 19 = .ok (.ifCond .ne 17, 3) := by decide +kernel
theorem dX9_isSort_22 : decode cX9_isSort 22 = .ok (.iload_n 1, 1) := by decide +kernel
theorem dX9_isSort_23 : decode cX9_isSort 23 = .ok (.bipush 10, 2) := by decide +kernel
theorem dX9_isSort_25 : decode cX9_isSort 25 = .ok (.if_icmp .ne 7, 3) := by decide +kernel
theorem dX9_isSort_28 : decode cX9_isSort 28 = .ok (.iconst 1, 1) := by decide +kernel
theorem dX9_isSort_29 : decode cX9_isSort 29 = .ok (.goto 99, 3) := by decide +kernel
theorem dX9_isSort_32 : decode cX9_isSort 32 = .ok (.iconst 0, 1) := by decide +kernel
theorem dX9_isSort_33 : decode cX9_isSort 33 = .ok (.goto 95, 3) := by decide +kernel
theorem dX9_isSort_36 : decode cX9_isSort 36 = .ok (.iload_n 2, 1) := by decide +kernel
theorem dX9_isSort_37 : decode cX9_isSort 37 = .ok (.iconst 1, 1) := by decide +kernel
theorem dX9_isSort_38 : decode cX9_isSort 38 = .ok (.if_icmp .ne 17, 3) := by decide +kernel
theorem dX9_isSort_41 : decode cX9_isSort 41 = .ok (.iload_n 1, 1) := by decide +kernel
theorem dX9_isSort_42 : decode cX9_isSort 42 = .ok (.bipush 11, 2) := by decide +kernel
theorem dX9_isSort_44 : decode cX9_isSort 44 = .ok (.if_icmp .ne 7, 3) := by decide +kernel
theorem dX9_isSort_47 : decode cX9_isSort 47 = .ok (.iconst 1, 1) := by decide +kernel
theorem dX9_isSort_48 : decode cX9_isSort 48 = .ok (.goto 80, 3) := by decide +kernel
theorem dX9_isSort_51 : decode cX9_isSort 51 = .ok (.iconst 0, 1) := by decide +kernel
theorem dX9_isSort_52 : decode cX9_isSort 52 = .ok (.goto 76, 3) := by decide +kernel
theorem dX9_isSort_55 : decode cX9_isSort 55 = .ok (.iload_n 2, 1) := by decide +kernel
theorem dX9_isSort_56 : decode cX9_isSort 56 = .ok (.iconst 4, 1) := by decide +kernel
theorem dX9_isSort_57 : decode cX9_isSort 57 = .ok (.if_icmp .ne 17, 3) := by decide +kernel
theorem dX9_isSort_60 : decode cX9_isSort 60 = .ok (.iload_n 1, 1) := by decide +kernel
theorem dX9_isSort_61 : decode cX9_isSort 61 = .ok (.bipush 12, 2) := by decide +kernel
theorem dX9_isSort_63 : decode cX9_isSort 63 = .ok (.if_icmp .ne 7, 3) := by decide +kernel
theorem dX9_isSort_66 : decode cX9_isSort 66 = .ok (.iconst 1, 1) := by decide +kernel
theorem dX9_isSort_67 : decode cX9_isSort 67 = .ok (.goto 61, 3) := by decide +kernel
theorem dX9_isSort_70 : decode cX9_isSort 70 = .ok (.iconst 0, 1) := by decide +kernel
theorem dX9_isSort_71 : decode cX9_isSort 71 = .ok (.goto 57, 3) := by decide +kernel
theorem dX9_isSort_74 : decode cX9_isSort 74 = .ok (.iload_n 2, 1) := by decide +kernel
theorem dX9_isSort_75 : decode cX9_isSort 75 = .ok (.iconst 5, 1) := by decide +kernel
theorem dX9_isSort_76 : decode cX9_isSort 76 = .ok (.if_icmp .ne 22, 3) := by decide +kernel
theorem dX9_isSort_79 : decode cX9_isSort 79 = .ok (.iload_n 1, 1) := by decide +kernel
theorem dX9_isSort_80 : decode cX9_isSort 80 = .ok (.iconst 4, 1) := by decide +kernel
theorem dX9_isSort_81 : decode cX9_isSort 81 = .ok (.if_icmp .eq 9, 3) := by decide +kernel
theorem dX9_isSort_84 : decode cX9_isSort 84 = .ok (.iload_n 1, 1) := by decide +kernel
theorem dX9_isSort_85 : decode cX9_isSort 85 = .ok (.bipush 8, 2) := by decide +kernel
theorem dX9_isSort_87 : decode cX9_isSort 87 = .ok (.if_icmp .ne 7, 3) := by decide +kernel
theorem dX9_isSort_90 : decode cX9_isSort 90 = .ok (.iconst 1, 1) := by decide +kernel
theorem dX9_isSort_91 : decode cX9_isSort 91 = .ok (.goto 37, 3) := by decide +kernel
theorem dX9_isSort_94 : decode cX9_isSort 94 = .ok (.iconst 0, 1) := by decide +kernel
theorem dX9_isSort_95 : decode cX9_isSort 95 = .ok (.goto 33, 3) := by decide +kernel
theorem dX9_isSort_98 : decode cX9_isSort 98 = .ok (.iload_n 2, 1) := by decide +kernel
theorem dX9_isSort_99 : decode cX9_isSort 99 = .ok (.bipush 6, 2) := by decide +kernel
theorem dX9_isSort_101 : decode cX9_isSort 101 = .ok (.if_icmp .ne 16, 3) := by decide +kernel
theorem dX9_isSort_104 : decode cX9_isSort 104 = .ok (.iload_n 1, 1) := by decide +kernel
theorem dX9_isSort_105 : decode cX9_isSort 105 = .ok (.iconst 5, 1) := by decide +kernel
theorem dX9_isSort_106 : decode cX9_isSort 106 = .ok (.if_icmp .ne 7, 3) := by decide +kernel
theorem dX9_isSort_109 : decode cX9_isSort 109 = .ok (.iconst 1, 1) := by decide +kernel
theorem dX9_isSort_110 : decode cX9_isSort 110 = .ok (.goto 18, 3) := by decide +kernel
theorem dX9_isSort_113 : decode cX9_isSort 113 = .ok (.iconst 0, 1) := by decide +kernel
theorem dX9_isSort_114 : decode cX9_isSort 114 = .ok (.goto 14, 3) := by decide +kernel
theorem dX9_isSort_117 : decode cX9_isSort 117 = .ok (.iload_n 1, 1) := by decide +kernel
theorem dX9_isSort_118 : decode cX9_isSort 118 = .ok (.bipush 9, 2) := by decide +kernel
theorem dX9_isSort_120 : decode cX9_isSort 120 = .ok (.if_icmp .ne 7, 3) := by decide +kernel
theorem dX9_isSort_123 : decode cX9_isSort 123 = .ok (.iconst 1, 1) := by decide +kernel
theorem dX9_isSort_124 : decode cX9_isSort 124 = .ok (.goto 4, 3) := by decide +kernel
theorem dX9_isSort_127 : decode cX9_isSort 127 = .ok (.iconst 0, 1) := by decide +kernel
theorem dX9_isSort_128 : decode cX9_isSort 128 = .ok (.ireturn, 1) := by decide +kernel
theorem dX9_wrong_0 : decode cX9_wrong 0 = .ok (.lload_n 2, 1) := by decide +kernel
theorem dX9_wrong_1 : decode cX9_wrong 1 = .ok (.lconst 0, 1) := by decide +kernel
theorem dX9_wrong_2 : decode cX9_wrong 2 = .ok (.lcmp, 1) := by decide +kernel
theorem dX9_wrong_3 : decode cX9_wrong 3 = .ok (.ifCond .ne 5, 3) := by decide +kernel
theorem dX9_wrong_6 : decode cX9_wrong 6 = .ok (.iconst 2, 1) := by decide +kernel
theorem dX9_wrong_7 : decode cX9_wrong 7 = .ok (.ireturn, 1) := by decide +kernel
theorem dX9_wrong_8 : decode cX9_wrong 8 = .ok (.lload_n 2, 1) := by decide +kernel
theorem dX9_wrong_9 : decode cX9_wrong 9 = .ok (.l2i, 1) := by decide +kernel
theorem dX9_wrong_10 : decode cX9_wrong 10 = .ok (.iconst 1, 1) := by decide +kernel
theorem dX9_wrong_11 : decode cX9_wrong 11 = .ok (.isub, 1) := by decide +kernel
theorem dX9_wrong_12 : decode cX9_wrong 12 = .ok (.istore 6, 2) := by decide +kernel
theorem dX9_wrong_14 : decode cX9_wrong 14 = .ok (.iload_n 1, 1) := by decide +kernel
theorem dX9_wrong_15 : decode cX9_wrong 15 = .ok (.aload_n 0, 1) := by decide +kernel
theorem dX9_wrong_16 : decode cX9_wrong 16 = .ok (.getfield 80, 3) := by decide +kernel
theorem dX9_wrong_19 : decode cX9_wrong 19 = .ok (.iload 6, 2) := by decide +kernel
theorem dX9_wrong_21 : decode cX9_wrong 21 = .ok (.iaload, 1) := by decide +kernel
theorem dX9_wrong_22 : decode cX9_wrong 22 = .ok (.invokestatic 317, 3) := by decide +kernel
theorem dX9_wrong_25 : decode cX9_wrong 25 = .ok (.ifCond .ne 7, 3) := by decide +kernel
theorem dX9_wrong_28 : decode cX9_wrong 28 = .ok (.iconst 5, 1) := by decide +kernel
theorem dX9_wrong_29 : decode cX9_wrong 29 = .ok (.goto 29, 3) := by decide +kernel
theorem dX9_wrong_32 : decode cX9_wrong 32 = .ok (.lload 4, 2) := by decide +kernel
theorem dX9_wrong_34 : decode cX9_wrong 34 = .ok (.lconst 0, 1) := by decide +kernel
theorem dX9_wrong_35 : decode cX9_wrong 35 = .ok (.lcmp, 1) := by decide +kernel
theorem dX9_wrong_36 : decode cX9_wrong 36 = .ok (.ifCond .lt 17, 3) := by decide +kernel
theorem dX9_wrong_39 : decode cX9_wrong 39 = .ok (.lload 4, 2) := by decide +kernel
theorem dX9_wrong_41 : decode cX9_wrong 41 = .ok (.aload_n 0, 1) := by decide +kernel
theorem dX9_wrong_42 : decode cX9_wrong 42 = .ok (.getfield 83, 3) := by decide +kernel
theorem dX9_wrong_45 : decode cX9_wrong 45 = .ok (.iload 6, 2) := by decide +kernel
theorem dX9_wrong_47 : decode cX9_wrong 47 = .ok (.iaload, 1) := by decide +kernel
theorem dX9_wrong_48 : decode cX9_wrong 48 = .ok (.i2l, 1) := by decide +kernel
theorem dX9_wrong_49 : decode cX9_wrong 49 = .ok (.lcmp, 1) := by decide +kernel
theorem dX9_wrong_50 : decode cX9_wrong 50 = .ok (.ifCond .lt 7, 3) := by decide +kernel
theorem dX9_wrong_53 : decode cX9_wrong 53 = .ok (.iconst 3, 1) := by decide +kernel
theorem dX9_wrong_54 : decode cX9_wrong 54 = .ok (.goto 4, 3) := by decide +kernel
theorem dX9_wrong_57 : decode cX9_wrong 57 = .ok (.iconst 0, 1) := by decide +kernel
theorem dX9_wrong_58 : decode cX9_wrong 58 = .ok (.ireturn, 1) := by decide +kernel
theorem dX9_doFetch_0 : decode cX9_doFetch 0 = .ok (.aload_n 0, 1) := by decide +kernel
theorem dX9_doFetch_1 : decode cX9_doFetch 1 = .ok (.iconst 0, 1) := by decide +kernel
theorem dX9_doFetch_2 : decode cX9_doFetch 2 = .ok (.invokevirtual 320, 3) := by decide +kernel
theorem dX9_doFetch_5 : decode cX9_doFetch 5 = .ok (.lstore_n 2, 1) := by decide +kernel
theorem dX9_doFetch_6 : decode cX9_doFetch 6 = .ok (.aload_n 0, 1) := by decide +kernel
theorem dX9_doFetch_7 : decode cX9_doFetch 7 = .ok (.iconst 1, 1) := by decide +kernel
theorem dX9_doFetch_8 : decode cX9_doFetch 8 = .ok (.invokevirtual 320, 3) := by decide +kernel
theorem dX9_doFetch_11 : decode cX9_doFetch 11 = .ok (.lstore 4, 2) := by decide +kernel
theorem dX9_doFetch_13 : decode cX9_doFetch 13 = .ok (.aload_n 0, 1) := by decide +kernel
theorem dX9_doFetch_14 : decode cX9_doFetch 14 = .ok (.iload_n 1, 1) := by decide +kernel
theorem dX9_doFetch_15 : decode cX9_doFetch 15 = .ok (.lload 4, 2) := by decide +kernel
theorem dX9_doFetch_17 : decode cX9_doFetch 17 = .ok (.lload_n 2, 1) := by decide +kernel
theorem dX9_doFetch_18 : decode cX9_doFetch 18 = .ok (.invokevirtual 324, 3) := by decide +kernel
theorem dX9_doFetch_21 : decode cX9_doFetch 21 = .ok (.istore 6, 2) := by decide +kernel
theorem dX9_doFetch_23 : decode cX9_doFetch 23 = .ok (.iload 6, 2) := by decide +kernel
theorem dX9_doFetch_25 : decode cX9_doFetch 25 = .ok (.ifCond .le 10, 3) := by decide +kernel
theorem dX9_doFetch_28 : decode cX9_doFetch 28 = .ok (.aload_n 0, 1) := by decide +kernel
theorem dX9_doFetch_29 : decode cX9_doFetch 29 = .ok (.iload 6, 2) := by decide +kernel
