theorem dL_law_0 : decode code 0 = .ok (.new 8, 3) := by decide +kernel
theorem dL_law_3 : decode code 3 = .ok (.dup, 1) := by decide +kernel
theorem dL_law_4 : decode code 4 = .ok (.aload_n 0, 1) := by decide +kernel
theorem dL_law_5 : decode code 5 = .ok (.iconst 0, 1) := by decide +kernel
theorem dL_law_6 : decode code 6 = .ok (.invokestatic 38, 3) := by decide +kernel
theorem dL_law_9 : decode code 9 = .ok (.invokespecial 44, 3) := by decide +kernel
theorem dL_law_12 : decode code 12 = .ok (.astore_n 1, 1) := by decide +kernel
theorem dL_law_13 : decode code 13 = .ok (.new 47, 3) := by decide +kernel
theorem dL_law_16 : decode code 16 = .ok (.dup, 1) := by decide +kernel
theorem dL_law_17 : decode code 17 = .ok (.aload_n 0, 1) := by decide +kernel
theorem dL_law_18 : decode code 18 = .ok (.iconst 0, 1) := by decide +kernel
theorem dL_law_19 : decode code 19 = .ok (.invokestatic 38, 3) := by decide +kernel
theorem dL_law_22 : decode code 22 = .ok (.invokespecial 49, 3) := by decide +kernel
theorem dL_law_25 : decode code 25 = .ok (.astore_n 2, 1) := by decide +kernel
theorem dL_law_26 : decode code 26 = .ok (.iconst 1, 1) := by decide +kernel
theorem dL_law_27 : decode code 27 = .ok (.newarray .long, 2) := by decide +kernel
theorem dL_law_29 : decode code 29 = .ok (.astore_n 3, 1) := by decide +kernel
theorem dL_law_30 : decode code 30 = .ok (.iconst 1, 1) := by decide +kernel
theorem dL_law_31 : decode code 31 = .ok (.istore 4, 2) := by decide +kernel
theorem dL_law_33 : decode code 33 = .ok (.iload 4, 2) := by decide +kernel
theorem dL_law_35 : decode code 35 = .ok (.aload_n 0, 1) := by decide +kernel
theorem dL_law_36 : decode code 36 = .ok (.arraylength, 1) := by decide +kernel
theorem dL_law_37 : decode code 37 = .ok (.bipush 7, 2) := by decide +kernel
theorem dL_law_39 : decode code 39 = .ok (.isub, 1) := by decide +kernel
theorem dL_law_40 : decode code 40 = .ok (.if_icmp .gt 685, 3) := by decide +kernel
theorem dL_law_43 : decode code 43 = .ok (.aload_n 0, 1) := by decide +kernel
theorem dL_law_44 : decode code 44 = .ok (.iload 4, 2) := by decide +kernel
theorem dL_law_46 : decode code 46 = .ok (.iaload, 1) := by decide +kernel
theorem dL_law_47 : decode code 47 = .ok (.bipush 7, 2) := by decide +kernel
theorem dL_law_49 : decode code 49 = .ok (.iand, 1) := by decide +kernel
theorem dL_law_50 : decode code 50 = .ok (.tableswitch 669 0 7 #[46, 164, 244, 336, 428, 586, 600, 613], 46) := by decide +kernel
theorem dL_law_96 : decode code 96 = .ok (.aload_n 1, 1) := by decide +kernel
theorem dL_law_97 : decode code 97 = .ok (.aload_n 0, 1) := by decide +kernel
theorem dL_law_98 : decode code 98 = .ok (.iload 4, 2) := by decide +kernel
theorem dL_law_100 : decode code 100 = .ok (.iconst 1, 1) := by decide +kernel
theorem dL_law_101 : decode code 101 = .ok (.iadd, 1) := by decide +kernel
theorem dL_law_102 : decode code 102 = .ok (.iaload, 1) := by decide +kernel
theorem dL_law_103 : decode code 103 = .ok (.aload_n 0, 1) := by decide +kernel
theorem dL_law_104 : decode code 104 = .ok (.iload 4, 2) := by decide +kernel
theorem dL_law_106 : decode code 106 = .ok (.iconst 2, 1) := by decide +kernel
theorem dL_law_107 : decode code 107 = .ok (.iadd, 1) := by decide +kernel
theorem dL_law_108 : decode code 108 = .ok (.iaload, 1) := by decide +kernel
theorem dL_law_109 : decode code 109 = .ok (.aload_n 0, 1) := by decide +kernel
theorem dL_law_110 : decode code 110 = .ok (.iload 4, 2) := by decide +kernel
theorem dL_law_112 : decode code 112 = .ok (.iconst 3, 1) := by decide +kernel
theorem dL_law_113 : decode code 113 = .ok (.iadd, 1) := by decide +kernel
theorem dL_law_114 : decode code 114 = .ok (.iaload, 1) := by decide +kernel
theorem dL_law_115 : decode code 115 = .ok (.aload_n 0, 1) := by decide +kernel
theorem dL_law_116 : decode code 116 = .ok (.iload 4, 2) := by decide +kernel
theorem dL_law_118 : decode code 118 = .ok (.iconst 4, 1) := by decide +kernel
theorem dL_law_119 : decode code 119 = .ok (.iadd, 1) := by decide +kernel
theorem dL_law_120 : decode code 120 = .ok (.iaload, 1) := by decide +kernel
theorem dL_law_121 : decode code 121 = .ok (.aload_n 0, 1) := by decide +kernel
theorem dL_law_122 : decode code 122 = .ok (.iload 4, 2) := by decide +kernel
theorem dL_law_124 : decode code 124 = .ok (.iconst 5, 1) := by decide +kernel
theorem dL_law_125 : decode code 125 = .ok (.iadd, 1) := by decide +kernel
theorem dL_law_126 : decode code 126 = .ok (.iaload, 1) := by decide +kernel
theorem dL_law_127 : decode code 127 = .ok (.aload_n 0, 1) := by decide +kernel
theorem dL_law_128 : decode code 128 = .ok (.iload 4, 2) := by decide +kernel
theorem dL_law_130 : decode code 130 = .ok (.bipush 6, 2) := by decide +kernel
theorem dL_law_132 : decode code 132 = .ok (.iadd, 1) := by decide +kernel
theorem dL_law_133 : decode code 133 = .ok (.iaload, 1) := by decide +kernel
theorem dL_law_134 : decode code 134 = .ok (.aload_n 3, 1) := by decide +kernel
theorem dL_law_135 : decode code 135 = .ok (.invokestatic 50, 3) := by decide +kernel
theorem dL_law_138 : decode code 138 = .ok (.istore 5, 2) := by decide +kernel
theorem dL_law_140 : decode code 140 = .ok (.aload_n 2, 1) := by decide +kernel
theorem dL_law_141 : decode code 141 = .ok (.aload_n 0, 1) := by decide +kernel
theorem dL_law_142 : decode code 142 = .ok (.iload 4, 2) := by decide +kernel
theorem dL_law_144 : decode code 144 = .ok (.iconst 1, 1) := by decide +kernel
theorem dL_law_145 : decode code 145 = .ok (.iadd, 1) := by decide +kernel
theorem dL_law_146 : decode code 146 = .ok (.iaload, 1) := by decide +kernel
theorem dL_law_147 : decode code 147 = .ok (.aload_n 0, 1) := by decide +kernel
theorem dL_law_148 : decode code 148 = .ok (.iload 4, 2) := by decide +kernel
theorem dL_law_150 : decode code 150 = .ok (.iconst 2, 1) := by decide +kernel
theorem dL_law_151 : decode code 151 = .ok (.iadd, 1) := by decide +kernel
theorem dL_law_152 : decode code 152 = .ok (.iaload, 1) := by decide +kernel
theorem dL_law_153 : decode code 153 = .ok (.aload_n 0, 1) := by decide +kernel
theorem dL_law_154 : decode code 154 = .ok (.iload 4, 2) := by decide +kernel
theorem dL_law_156 : decode code 156 = .ok (.iconst 3, 1) := by decide +kernel
theorem dL_law_157 : decode code 157 = .ok (.iadd, 1) := by decide +kernel
theorem dL_law_158 : decode code 158 = .ok (.iaload, 1) := by decide +kernel
theorem dL_law_159 : decode code 159 = .ok (.aload_n 0, 1) := by decide +kernel
theorem dL_law_160 : decode code 160 = .ok (.iload 4, 2) := by decide +kernel
theorem dL_law_162 : decode code 162 = .ok (.iconst 4, 1) := by decide +kernel
theorem dL_law_163 : decode code 163 = .ok (.iadd, 1) := by decide +kernel
theorem dL_law_164 : decode code 164 = .ok (.iaload, 1) := by decide +kernel
theorem dL_law_165 : decode code 165 = .ok (.aload_n 0, 1) := by decide +kernel
theorem dL_law_166 : decode code 166 = .ok (.iload 4, 2) := by decide +kernel
theorem dL_law_168 : decode code 168 = .ok (.iconst 5, 1) := by decide +kernel
theorem dL_law_169 : decode code 169 = .ok (.iadd, 1) := by decide +kernel
theorem dL_law_170 : decode code 170 = .ok (.iaload, 1) := by decide +kernel
theorem dL_law_171 : decode code 171 = .ok (.aload_n 0, 1) := by decide +kernel
theorem dL_law_172 : decode code 172 = .ok (.iload 4, 2) := by decide +kernel
theorem dL_law_174 : decode code 174 = .ok (.bipush 6, 2) := by decide +kernel
theorem dL_law_176 : decode code 176 = .ok (.iadd, 1) := by decide +kernel
theorem dL_law_177 : decode code 177 = .ok (.iaload, 1) := by decide +kernel
theorem dL_law_178 : decode code 178 = .ok (.invokevirtual 53, 3) := by decide +kernel
theorem dL_law_181 : decode code 181 = .ok (.istore 6, 2) := by decide +kernel
theorem dL_law_183 : decode code 183 = .ok (.aload_n 2, 1) := by decide +kernel
theorem dL_law_184 : decode code 184 = .ok (.invokevirtual 54, 3) := by decide +kernel
theorem dL_law_187 : decode code 187 = .ok (.iload 5, 2) := by decide +kernel
theorem dL_law_189 : decode code 189 = .ok (.if_icmp .eq 5, 3) := by decide +kernel
theorem dL_law_192 : decode code 192 = .ok (.iconst 0, 1) := by decide +kernel
theorem dL_law_193 : decode code 193 = .ok (.ireturn, 1) := by decide +kernel
theorem dL_law_194 : decode code 194 = .ok (.iload 5, 2) := by decide +kernel
theorem dL_law_196 : decode code 196 = .ok (.ifCond .ne 15, 3) := by decide +kernel
theorem dL_law_199 : decode code 199 = .ok (.aload_n 3, 1) := by decide +kernel
theorem dL_law_200 : decode code 200 = .ok (.iconst 0, 1) := by decide +kernel
theorem dL_law_201 : decode code 201 = .ok (.laload, 1) := by decide +kernel
theorem dL_law_202 : decode code 202 = .ok (.iload 6, 2) := by decide +kernel
theorem dL_law_204 : decode code 204 = .ok (.i2l, 1) := by decide +kernel
theorem dL_law_205 : decode code 205 = .ok (.lcmp, 1) := by decide +kernel
theorem dL_law_206 : decode code 206 = .ok (.ifCond .eq 5, 3) := by decide +kernel
theorem dL_law_209 : decode code 209 = .ok (.iconst 0, 1) := by decide +kernel
theorem dL_law_210 : decode code 210 = .ok (.ireturn, 1) := by decide +kernel
theorem dL_law_211 : decode code 211 = .ok (.goto 508, 3) := by decide +kernel
theorem dL_law_214 : decode code 214 = .ok (.aload_n 1, 1) := by decide +kernel
theorem dL_law_215 : decode code 215 = .ok (.aload_n 0, 1) := by decide +kernel
theorem dL_law_216 : decode code 216 = .ok (.iload 4, 2) := by decide +kernel
theorem dL_law_218 : decode code 218 = .ok (.iconst 1, 1) := by decide +kernel
theorem dL_law_219 : decode code 219 = .ok (.iadd, 1) := by decide +kernel
theorem dL_law_220 : decode code 220 = .ok (.iaload, 1) := by decide +kernel
theorem dL_law_221 : decode code 221 = .ok (.aload_n 0, 1) := by decide +kernel
theorem dL_law_222 : decode code 222 = .ok (.iload 4, 2) := by decide +kernel
theorem dL_law_224 : decode code 224 = .ok (.iconst 2, 1) := by decide +kernel
theorem dL_law_225 : decode code 225 = .ok (.iadd, 1) := by decide +kernel
theorem dL_law_226 : decode code 226 = .ok (.iaload, 1) := by decide +kernel
theorem dL_law_227 : decode code 227 = .ok (.aload_n 0, 1) := by decide +kernel
theorem dL_law_228 : decode code 228 = .ok (.iload 4, 2) := by decide +kernel
theorem dL_law_230 : decode code 230 = .ok (.iconst 3, 1) := by decide +kernel
theorem dL_law_231 : decode code 231 = .ok (.iadd, 1) := by decide +kernel
theorem dL_law_232 : decode code 232 = .ok (.iaload, 1) := by decide +kernel
theorem dL_law_233 : decode code 233 = .ok (.aload_n 3, 1) := by decide +kernel
theorem dL_law_234 : decode code 234 = .ok (.invokestatic 58, 3) := by decide +kernel
theorem dL_law_237 : decode code 237 = .ok (.istore 5, 2) := by decide +kernel
theorem dL_law_239 : decode code 239 = .ok (.aload_n 2, 1) := by decide +kernel
theorem dL_law_240 : decode code 240 = .ok (.aload_n 0, 1) := by decide +kernel
theorem dL_law_241 : decode code 241 = .ok (.iload 4, 2) := by decide +kernel
theorem dL_law_243 : decode code 243 = .ok (.iconst 1, 1) := by decide +kernel
theorem dL_law_244 : decode code 244 = .ok (.iadd, 1) := by decide +kernel
theorem dL_law_245 : decode code 245 = .ok (.iaload, 1) := by decide +kernel
theorem dL_law_246 : decode code 246 = .ok (.aload_n 0, 1) := by decide +kernel
theorem dL_law_247 : decode code 247 = .ok (.iload 4, 2) := by decide +kernel
theorem dL_law_249 : decode code 249 = .ok (.iconst 2, 1) := by decide +kernel
theorem dL_law_250 : decode code 250 = .ok (.iadd, 1) := by decide +kernel
theorem dL_law_251 : decode code 251 = .ok (.iaload, 1) := by decide +kernel
theorem dL_law_252 : decode code 252 = .ok (.aload_n 0, 1) := by decide +kernel
theorem dL_law_253 : decode code 253 = .ok (.iload 4, 2) := by decide +kernel
theorem dL_law_255 : decode code 255 = .ok (.iconst 3, 1) := by decide +kernel
theorem dL_law_256 : decode code 256 = .ok (.iadd, 1) := by decide +kernel
theorem dL_law_257 : decode code 257 = .ok (.iaload, 1) := by decide +kernel
theorem dL_law_258 : decode code 258 = .ok (.invokevirtual 61, 3) := by decide +kernel
theorem dL_law_261 : decode code 261 = .ok (.istore 6, 2) := by decide +kernel
theorem dL_law_263 : decode code 263 = .ok (.aload_n 2, 1) := by decide +kernel
theorem dL_law_264 : decode code 264 = .ok (.invokevirtual 54, 3) := by decide +kernel
theorem dL_law_267 : decode code 267 = .ok (.iload 5, 2) := by decide +kernel
theorem dL_law_269 : decode code 269 = .ok (.if_icmp .eq 5, 3) := by decide +kernel
theorem dL_law_272 : decode code 272 = .ok (.iconst 0, 1) := by decide +kernel
theorem dL_law_273 : decode code 273 = .ok (.ireturn, 1) := by decide +kernel
theorem dL_law_274 : decode code 274 = .ok (.iload 5, 2) := by decide +kernel
theorem dL_law_276 : decode code 276 = .ok (.ifCond .ne 15, 3) := by decide +kernel
theorem dL_law_279 : decode code 279 = .ok (.aload_n 3, 1) := by decide +kernel
theorem dL_law_280 : decode code 280 = .ok (.iconst 0, 1) := by decide +kernel
theorem dL_law_281 : decode code 281 = .ok (.laload, 1) := by decide +kernel
theorem dL_law_282 : decode code 282 = .ok (.iload 6, 2) := by decide +kernel
theorem dL_law_284 : decode code 284 = .ok (.i2l, 1) := by decide +kernel
theorem dL_law_285 : decode code 285 = .ok (.lcmp, 1) := by decide +kernel
theorem dL_law_286 : decode code 286 = .ok (.ifCond .eq 5, 3) := by decide +kernel
theorem dL_law_289 : decode code 289 = .ok (.iconst 0, 1) := by decide +kernel
theorem dL_law_290 : decode code 290 = .ok (.ireturn, 1) := by decide +kernel
theorem dL_law_291 : decode code 291 = .ok (.goto 428, 3) := by decide +kernel
theorem dL_law_294 : decode code 294 = .ok (.aload_n 1, 1) := by decide +kernel
theorem dL_law_295 : decode code 295 = .ok (.aload_n 0, 1) := by decide +kernel
theorem dL_law_296 : decode code 296 = .ok (.iload 4, 2) := by decide +kernel
theorem dL_law_298 : decode code 298 = .ok (.iconst 1, 1) := by decide +kernel
theorem dL_law_299 : decode code 299 = .ok (.iadd, 1) := by decide +kernel
theorem dL_law_300 : decode code 300 = .ok (.iaload, 1) := by decide +kernel
theorem dL_law_301 : decode code 301 = .ok (.aload_n 0, 1) := by decide +kernel
theorem dL_law_302 : decode code 302 = .ok (.iload 4, 2) := by decide +kernel
theorem dL_law_304 : decode code 304 = .ok (.iconst 2, 1) := by decide +kernel
theorem dL_law_305 : decode code 305 = .ok (.iadd, 1) := by decide +kernel
theorem dL_law_306 : decode code 306 = .ok (.iaload, 1) := by decide +kernel
theorem dL_law_307 : decode code 307 = .ok (.aload_n 0, 1) := by decide +kernel
theorem dL_law_308 : decode code 308 = .ok (.iload 4, 2) := by decide +kernel
theorem dL_law_310 : decode code 310 = .ok (.iconst 3, 1) := by decide +kernel
theorem dL_law_311 : decode code 311 = .ok (.iadd, 1) := by decide +kernel
theorem dL_law_312 : decode code 312 = .ok (.iaload, 1) := by decide +kernel
theorem dL_law_313 : decode code 313 = .ok (.aload_n 0, 1) := by decide +kernel
theorem dL_law_314 : decode code 314 = .ok (.iload 4, 2) := by decide +kernel
theorem dL_law_316 : decode code 316 = .ok (.iconst 4, 1) := by decide +kernel
theorem dL_law_317 : decode code 317 = .ok (.iadd, 1) := by decide +kernel
theorem dL_law_318 : decode code 318 = .ok (.iaload, 1) := by decide +kernel
theorem dL_law_319 : decode code 319 = .ok (.aload_n 3, 1) := by decide +kernel
theorem dL_law_320 : decode code 320 = .ok (.invokestatic 62, 3) := by decide +kernel
theorem dL_law_323 : decode code 323 = .ok (.istore 5, 2) := by decide +kernel
theorem dL_law_325 : decode code 325 = .ok (.aload_n 2, 1) := by decide +kernel
theorem dL_law_326 : decode code 326 = .ok (.aload_n 0, 1) := by decide +kernel
theorem dL_law_327 : decode code 327 = .ok (.iload 4, 2) := by decide +kernel
theorem dL_law_329 : decode code 329 = .ok (.iconst 1, 1) := by decide +kernel
theorem dL_law_330 : decode code 330 = .ok (.iadd, 1) := by decide +kernel
theorem dL_law_331 : decode code 331 = .ok (.iaload, 1) := by decide +kernel
theorem dL_law_332 : decode code 332 = .ok (.aload_n 0, 1) := by decide +kernel
theorem dL_law_333 : decode code 333 = .ok (.iload 4, 2) := by decide +kernel
theorem dL_law_335 : decode code 335 = .ok (.iconst 2, 1) := by decide +kernel
theorem dL_law_336 : decode code 336 = .ok (.iadd, 1) := by decide +kernel
theorem dL_law_337 : decode code 337 = .ok (.iaload, 1) := by decide +kernel
theorem dL_law_338 : decode code 338 = .ok (.aload_n 0, 1) := by decide +kernel
theorem dL_law_339 : decode code 339 = .ok (.iload 4, 2) := by decide +kernel
theorem dL_law_341 : decode code 341 = .ok (.iconst 3, 1) := by decide +kernel
theorem dL_law_342 : decode code 342 = .ok (.iadd, 1) := by decide +kernel
theorem dL_law_343 : decode code 343 = .ok (.iaload, 1) := by decide +kernel
theorem dL_law_344 : decode code 344 = .ok (.aload_n 0, 1) := by decide +kernel
theorem dL_law_345 : decode code 345 = .ok (.iload 4, 2) := by decide +kernel
theorem dL_law_347 : decode code 347 = .ok (.iconst 4, 1) := by decide +kernel
theorem dL_law_348 : decode code 348 = .ok (.iadd, 1) := by decide +kernel
theorem dL_law_349 : decode code 349 = .ok (.iaload, 1) := by decide +kernel
theorem dL_law_350 : decode code 350 = .ok (.invokevirtual 65, 3) := by decide +kernel
theorem dL_law_353 : decode code 353 = .ok (.istore 6, 2) := by decide +kernel
theorem dL_law_355 : decode code 355 = .ok (.aload_n 2, 1) := by decide +kernel
theorem dL_law_356 : decode code 356 = .ok (.invokevirtual 54, 3) := by decide +kernel
theorem dL_law_359 : decode code 359 = .ok (.iload 5, 2) := by decide +kernel
theorem dL_law_361 : decode code 361 = .ok (.if_icmp .eq 5, 3) := by decide +kernel
theorem dL_law_364 : decode code 364 = .ok (.iconst 0, 1) := by decide +kernel
theorem dL_law_365 : decode code 365 = .ok (.ireturn, 1) := by decide +kernel
theorem dL_law_366 : decode code 366 = .ok (.iload 5, 2) := by decide +kernel
theorem dL_law_368 : decode code 368 = .ok (.ifCond .ne 15, 3) := by decide +kernel
theorem dL_law_371 : decode code 371 = .ok (.aload_n 3, 1) := by decide +kernel
theorem dL_law_372 : decode code 372 = .ok (.iconst 0, 1) := by decide +kernel
theorem dL_law_373 : decode code 373 = .ok (.laload, 1) := by decide +kernel
theorem dL_law_374 : decode code 374 = .ok (.iload 6, 2) := by decide +kernel
theorem dL_law_376 : decode code 376 = .ok (.i2l, 1) := by decide +kernel
theorem dL_law_377 : decode code 377 = .ok (.lcmp, 1) := by decide +kernel
theorem dL_law_378 : decode code 378 = .ok (.ifCond .eq 5, 3) := by decide +kernel
theorem dL_law_381 : decode code 381 = .ok (.iconst 0, 1) := by decide +kernel
theorem dL_law_382 : decode code 382 = .ok (.ireturn, 1) := by decide +kernel
theorem dL_law_383 : decode code 383 = .ok (.goto 336, 3) := by decide +kernel
theorem dL_law_386 : decode code 386 = .ok (.aload_n 1, 1) := by decide +kernel
theorem dL_law_387 : decode code 387 = .ok (.aload_n 0, 1) := by decide +kernel
theorem dL_law_388 : decode code 388 = .ok (.iload 4, 2) := by decide +kernel
theorem dL_law_390 : decode code 390 = .ok (.iconst 1, 1) := by decide +kernel
theorem dL_law_391 : decode code 391 = .ok (.iadd, 1) := by decide +kernel
theorem dL_law_392 : decode code 392 = .ok (.iaload, 1) := by decide +kernel
theorem dL_law_393 : decode code 393 = .ok (.aload_n 0, 1) := by decide +kernel
theorem dL_law_394 : decode code 394 = .ok (.iload 4, 2) := by decide +kernel
theorem dL_law_396 : decode code 396 = .ok (.iconst 2, 1) := by decide +kernel
theorem dL_law_397 : decode code 397 = .ok (.iadd, 1) := by decide +kernel
theorem dL_law_398 : decode code 398 = .ok (.iaload, 1) := by decide +kernel
theorem dL_law_399 : decode code 399 = .ok (.aload_n 0, 1) := by decide +kernel
theorem dL_law_400 : decode code 400 = .ok (.iload 4, 2) := by decide +kernel
theorem dL_law_402 : decode code 402 = .ok (.iconst 3, 1) := by decide +kernel
theorem dL_law_403 : decode code 403 = .ok (.iadd, 1) := by decide +kernel
theorem dL_law_404 : decode code 404 = .ok (.iaload, 1) := by decide +kernel
theorem dL_law_405 : decode code 405 = .ok (.aload_n 0, 1) := by decide +kernel
theorem dL_law_406 : decode code 406 = .ok (.iload 4, 2) := by decide +kernel
theorem dL_law_408 : decode code 408 = .ok (.iconst 4, 1) := by decide +kernel
theorem dL_law_409 : decode code 409 = .ok (.iadd, 1) := by decide +kernel
theorem dL_law_410 : decode code 410 = .ok (.iaload, 1) := by decide +kernel
theorem dL_law_411 : decode code 411 = .ok (.aload_n 3, 1) := by decide +kernel
theorem dL_law_412 : decode code 412 = .ok (.invokestatic 66, 3) := by decide +kernel
theorem dL_law_415 : decode code 415 = .ok (.istore 5, 2) := by decide +kernel
theorem dL_law_417 : decode code 417 = .ok (.aload_n 2, 1) := by decide +kernel
theorem dL_law_418 : decode code 418 = .ok (.aload_n 0, 1) := by decide +kernel
theorem dL_law_419 : decode code 419 = .ok (.iload 4, 2) := by decide +kernel
theorem dL_law_421 : decode code 421 = .ok (.iconst 1, 1) := by decide +kernel
theorem dL_law_422 : decode code 422 = .ok (.iadd, 1) := by decide +kernel
theorem dL_law_423 : decode code 423 = .ok (.iaload, 1) := by decide +kernel
theorem dL_law_424 : decode code 424 = .ok (.aload_n 0, 1) := by decide +kernel
theorem dL_law_425 : decode code 425 = .ok (.iload 4, 2) := by decide +kernel
theorem dL_law_427 : decode code 427 = .ok (.iconst 2, 1) := by decide +kernel
theorem dL_law_428 : decode code 428 = .ok (.iadd, 1) := by decide +kernel
theorem dL_law_429 : decode code 429 = .ok (.iaload, 1) := by decide +kernel
theorem dL_law_430 : decode code 430 = .ok (.aload_n 0, 1) := by decide +kernel
theorem dL_law_431 : decode code 431 = .ok (.iload 4, 2) := by decide +kernel
theorem dL_law_433 : decode code 433 = .ok (.iconst 3, 1) := by decide +kernel
theorem dL_law_434 : decode code 434 = .ok (.iadd, 1) := by decide +kernel
theorem dL_law_435 : decode code 435 = .ok (.iaload, 1) := by decide +kernel
theorem dL_law_436 : decode code 436 = .ok (.aload_n 0, 1) := by decide +kernel
theorem dL_law_437 : decode code 437 = .ok (.iload 4, 2) := by decide +kernel
theorem dL_law_439 : decode code 439 = .ok (.iconst 4, 1) := by decide +kernel
theorem dL_law_440 : decode code 440 = .ok (.iadd, 1) := by decide +kernel
theorem dL_law_441 : decode code 441 = .ok (.iaload, 1) := by decide +kernel
theorem dL_law_442 : decode code 442 = .ok (.invokevirtual 68, 3) := by decide +kernel
theorem dL_law_445 : decode code 445 = .ok (.istore 6, 2) := by decide +kernel
theorem dL_law_447 : decode code 447 = .ok (.aload_n 2, 1) := by decide +kernel
theorem dL_law_448 : decode code 448 = .ok (.invokevirtual 54, 3) := by decide +kernel
theorem dL_law_451 : decode code 451 = .ok (.iload 5, 2) := by decide +kernel
theorem dL_law_453 : decode code 453 = .ok (.if_icmp .eq 5, 3) := by decide +kernel
theorem dL_law_456 : decode code 456 = .ok (.iconst 0, 1) := by decide +kernel
theorem dL_law_457 : decode code 457 = .ok (.ireturn, 1) := by decide +kernel
theorem dL_law_458 : decode code 458 = .ok (.iload 5, 2) := by decide +kernel
theorem dL_law_460 : decode code 460 = .ok (.ifCond .ne 15, 3) := by decide +kernel
theorem dL_law_463 : decode code 463 = .ok (.aload_n 3, 1) := by decide +kernel
theorem dL_law_464 : decode code 464 = .ok (.iconst 0, 1) := by decide +kernel
theorem dL_law_465 : decode code 465 = .ok (.laload, 1) := by decide +kernel
theorem dL_law_466 : decode code 466 = .ok (.iload 6, 2) := by decide +kernel
theorem dL_law_468 : decode code 468 = .ok (.i2l, 1) := by decide +kernel
theorem dL_law_469 : decode code 469 = .ok (.lcmp, 1) := by decide +kernel
theorem dL_law_470 : decode code 470 = .ok (.ifCond .eq 5, 3) := by decide +kernel
theorem dL_law_473 : decode code 473 = .ok (.iconst 0, 1) := by decide +kernel
theorem dL_law_474 : decode code 474 = .ok (.ireturn, 1) := by decide +kernel
theorem dL_law_475 : decode code 475 = .ok (.goto 244, 3) := by decide +kernel
theorem dL_law_478 : decode code 478 = .ok (.aload_n 1, 1) := by decide +kernel
theorem dL_law_479 : decode code 479 = .ok (.aload_n 0, 1) := by decide +kernel
theorem dL_law_480 : decode code 480 = .ok (.iload 4, 2) := by decide +kernel
theorem dL_law_482 : decode code 482 = .ok (.iconst 1, 1) := by decide +kernel
theorem dL_law_483 : decode code 483 = .ok (.iadd, 1) := by decide +kernel
theorem dL_law_484 : decode code 484 = .ok (.iaload, 1) := by decide +kernel
theorem dL_law_485 : decode code 485 = .ok (.aload_n 0, 1) := by decide +kernel
theorem dL_law_486 : decode code 486 = .ok (.iload 4, 2) := by decide +kernel
theorem dL_law_488 : decode code 488 = .ok (.iconst 2, 1) := by decide +kernel
theorem dL_law_489 : decode code 489 = .ok (.iadd, 1) := by decide +kernel
theorem dL_law_490 : decode code 490 = .ok (.iaload, 1) := by decide +kernel
theorem dL_law_491 : decode code 491 = .ok (.i2l, 1) := by decide +kernel
theorem dL_law_492 : decode code 492 = .ok (.bipush 32, 2) := by decide +kernel
theorem dL_law_494 : decode code 494 = .ok (.lshl, 1) := by decide +kernel
theorem dL_law_495 : decode code 495 = .ok (.aload_n 0, 1) := by decide +kernel
theorem dL_law_496 : decode code 496 = .ok (.iload 4, 2) := by decide +kernel
theorem dL_law_498 : decode code 498 = .ok (.iconst 3, 1) := by decide +kernel
theorem dL_law_499 : decode code 499 = .ok (.iadd, 1) := by decide +kernel
theorem dL_law_500 : decode code 500 = .ok (.iaload, 1) := by decide +kernel
theorem dL_law_501 : decode code 501 = .ok (.i2l, 1) := by decide +kernel
theorem dL_law_502 : decode code 502 = .ok (.ldc2_w 69, 3) := by decide +kernel
theorem dL_law_505 : decode code 505 = .ok (.land, 1) := by decide +kernel
theorem dL_law_506 : decode code 506 = .ok (.lor, 1) := by decide +kernel
theorem dL_law_507 : decode code 507 = .ok (.aload_n 0, 1) := by decide +kernel
theorem dL_law_508 : decode code 508 = .ok (.iload 4, 2) := by decide +kernel
theorem dL_law_510 : decode code 510 = .ok (.iconst 4, 1) := by decide +kernel
theorem dL_law_511 : decode code 511 = .ok (.iadd, 1) := by decide +kernel
theorem dL_law_512 : decode code 512 = .ok (.iaload, 1) := by decide +kernel
theorem dL_law_513 : decode code 513 = .ok (.i2l, 1) := by decide +kernel
theorem dL_law_514 : decode code 514 = .ok (.bipush 32, 2) := by decide +kernel
theorem dL_law_516 : decode code 516 = .ok (.lshl, 1) := by decide +kernel
theorem dL_law_517 : decode code 517 = .ok (.aload_n 0, 1) := by decide +kernel
theorem dL_law_518 : decode code 518 = .ok (.iload 4, 2) := by decide +kernel
theorem dL_law_520 : decode code 520 = .ok (.iconst 5, 1) := by decide +kernel
theorem dL_law_521 : decode code 521 = .ok (.iadd, 1) := by decide +kernel
theorem dL_law_522 : decode code 522 = .ok (.iaload, 1) := by decide +kernel
theorem dL_law_523 : decode code 523 = .ok (.i2l, 1) := by decide +kernel
theorem dL_law_524 : decode code 524 = .ok (.ldc2_w 69, 3) := by decide +kernel
theorem dL_law_527 : decode code 527 = .ok (.land, 1) := by decide +kernel
theorem dL_law_528 : decode code 528 = .ok (.lor, 1) := by decide +kernel
theorem dL_law_529 : decode code 529 = .ok (.aload_n 0, 1) := by decide +kernel
theorem dL_law_530 : decode code 530 = .ok (.iload 4, 2) := by decide +kernel
theorem dL_law_532 : decode code 532 = .ok (.bipush 6, 2) := by decide +kernel
theorem dL_law_534 : decode code 534 = .ok (.iadd, 1) := by decide +kernel
theorem dL_law_535 : decode code 535 = .ok (.iaload, 1) := by decide +kernel
theorem dL_law_536 : decode code 536 = .ok (.aload_n 3, 1) := by decide +kernel
theorem dL_law_537 : decode code 537 = .ok (.invokestatic 71, 3) := by decide +kernel
theorem dL_law_540 : decode code 540 = .ok (.istore 5, 2) := by decide +kernel
theorem dL_law_542 : decode code 542 = .ok (.aload_n 2, 1) := by decide +kernel
theorem dL_law_543 : decode code 543 = .ok (.aload_n 0, 1) := by decide +kernel
theorem dL_law_544 : decode code 544 = .ok (.iload 4, 2) := by decide +kernel
theorem dL_law_546 : decode code 546 = .ok (.iconst 1, 1) := by decide +kernel
theorem dL_law_547 : decode code 547 = .ok (.iadd, 1) := by decide +kernel
theorem dL_law_548 : decode code 548 = .ok (.iaload, 1) := by decide +kernel
theorem dL_law_549 : decode code 549 = .ok (.aload_n 0, 1) := by decide +kernel
theorem dL_law_550 : decode code 550 = .ok (.iload 4, 2) := by decide +kernel
theorem dL_law_552 : decode code 552 = .ok (.iconst 2, 1) := by decide +kernel
theorem dL_law_553 : decode code 553 = .ok (.iadd, 1) := by decide +kernel
theorem dL_law_554 : decode code 554 = .ok (.iaload, 1) := by decide +kernel
theorem dL_law_555 : decode code 555 = .ok (.i2l, 1) := by decide +kernel
theorem dL_law_556 : decode code 556 = .ok (.bipush 32, 2) := by decide +kernel
theorem dL_law_558 : decode code 558 = .ok (.lshl, 1) := by decide +kernel
theorem dL_law_559 : decode code 559 = .ok (.aload_n 0, 1) := by decide +kernel
theorem dL_law_560 : decode code 560 = .ok (.iload 4, 2) := by decide +kernel
theorem dL_law_562 : decode code 562 = .ok (.iconst 3, 1) := by decide +kernel
theorem dL_law_563 : decode code 563 = .ok (.iadd, 1) := by decide +kernel
theorem dL_law_564 : decode code 564 = .ok (.iaload, 1) := by decide +kernel
theorem dL_law_565 : decode code 565 = .ok (.i2l, 1) := by decide +kernel
theorem dL_law_566 : decode code 566 = .ok (.ldc2_w 69, 3) := by decide +kernel
theorem dL_law_569 : decode code 569 = .ok (.land, 1) := by decide +kernel
theorem dL_law_570 : decode code 570 = .ok (.lor, 1) := by decide +kernel
theorem dL_law_571 : decode code 571 = .ok (.aload_n 0, 1) := by decide +kernel
theorem dL_law_572 : decode code 572 = .ok (.iload 4, 2) := by decide +kernel
theorem dL_law_574 : decode code 574 = .ok (.iconst 4, 1) := by decide +kernel
theorem dL_law_575 : decode code 575 = .ok (.iadd, 1) := by decide +kernel
theorem dL_law_576 : decode code 576 = .ok (.iaload, 1) := by decide +kernel
theorem dL_law_577 : decode code 577 = .ok (.i2l, 1) := by decide +kernel
theorem dL_law_578 : decode code 578 = .ok (.bipush 32, 2) := by decide +kernel
theorem dL_law_580 : decode code 580 = .ok (.lshl, 1) := by decide +kernel
theorem dL_law_581 : decode code 581 = .ok (.aload_n 0, 1) := by decide +kernel
theorem dL_law_582 : decode code 582 = .ok (.iload 4, 2) := by decide +kernel
theorem dL_law_584 : decode code 584 = .ok (.iconst 5, 1) := by decide +kernel
theorem dL_law_585 : decode code 585 = .ok (.iadd, 1) := by decide +kernel
theorem dL_law_586 : decode code 586 = .ok (.iaload, 1) := by decide +kernel
theorem dL_law_587 : decode code 587 = .ok (.i2l, 1) := by decide +kernel
theorem dL_law_588 : decode code 588 = .ok (.ldc2_w 69, 3) := by decide +kernel
theorem dL_law_591 : decode code 591 = .ok (.land, 1) := by decide +kernel
theorem dL_law_592 : decode code 592 = .ok (.lor, 1) := by decide +kernel
theorem dL_law_593 : decode code 593 = .ok (.aload_n 0, 1) := by decide +kernel
theorem dL_law_594 : decode code 594 = .ok (.iload 4, 2) := by decide +kernel
theorem dL_law_596 : decode code 596 = .ok (.bipush 6, 2) := by decide +kernel
theorem dL_law_598 : decode code 598 = .ok (.iadd, 1) := by decide +kernel
theorem dL_law_599 : decode code 599 = .ok (.iaload, 1) := by decide +kernel
theorem dL_law_600 : decode code 600 = .ok (.invokevirtual 74, 3) := by decide +kernel
theorem dL_law_603 : decode code 603 = .ok (.istore 6, 2) := by decide +kernel
theorem dL_law_605 : decode code 605 = .ok (.aload_n 2, 1) := by decide +kernel
theorem dL_law_606 : decode code 606 = .ok (.invokevirtual 54, 3) := by decide +kernel
theorem dL_law_609 : decode code 609 = .ok (.iload 5, 2) := by decide +kernel
theorem dL_law_611 : decode code 611 = .ok (.if_icmp .eq 5, 3) := by decide +kernel
theorem dL_law_614 : decode code 614 = .ok (.iconst 0, 1) := by decide +kernel
theorem dL_law_615 : decode code 615 = .ok (.ireturn, 1) := by decide +kernel
theorem dL_law_616 : decode code 616 = .ok (.iload 5, 2) := by decide +kernel
theorem dL_law_618 : decode code 618 = .ok (.ifCond .ne 15, 3) := by decide +kernel
theorem dL_law_621 : decode code 621 = .ok (.aload_n 3, 1) := by decide +kernel
theorem dL_law_622 : decode code 622 = .ok (.iconst 0, 1) := by decide +kernel
theorem dL_law_623 : decode code 623 = .ok (.laload, 1) := by decide +kernel
theorem dL_law_624 : decode code 624 = .ok (.iload 6, 2) := by decide +kernel
theorem dL_law_626 : decode code 626 = .ok (.i2l, 1) := by decide +kernel
theorem dL_law_627 : decode code 627 = .ok (.lcmp, 1) := by decide +kernel
theorem dL_law_628 : decode code 628 = .ok (.ifCond .eq 5, 3) := by decide +kernel
theorem dL_law_631 : decode code 631 = .ok (.iconst 0, 1) := by decide +kernel
theorem dL_law_632 : decode code 632 = .ok (.ireturn, 1) := by decide +kernel
theorem dL_law_633 : decode code 633 = .ok (.goto 86, 3) := by decide +kernel
theorem dL_law_636 : decode code 636 = .ok (.aload_n 1, 1) := by decide +kernel
theorem dL_law_637 : decode code 637 = .ok (.invokevirtual 75, 3) := by decide +kernel
theorem dL_law_640 : decode code 640 = .ok (.aload_n 2, 1) := by decide +kernel
theorem dL_law_641 : decode code 641 = .ok (.invokevirtual 79, 3) := by decide +kernel
theorem dL_law_644 : decode code 644 = .ok (.lcmp, 1) := by decide +kernel
theorem dL_law_645 : decode code 645 = .ok (.ifCond .eq 74, 3) := by decide +kernel
theorem dL_law_648 : decode code 648 = .ok (.iconst 0, 1) := by decide +kernel
theorem dL_law_649 : decode code 649 = .ok (.ireturn, 1) := by decide +kernel
theorem dL_law_650 : decode code 650 = .ok (.aload_n 1, 1) := by decide +kernel
theorem dL_law_651 : decode code 651 = .ok (.invokevirtual 80, 3) := by decide +kernel
theorem dL_law_654 : decode code 654 = .ok (.aload_n 2, 1) := by decide +kernel
theorem dL_law_655 : decode code 655 = .ok (.invokevirtual 83, 3) := by decide +kernel
theorem dL_law_658 : decode code 658 = .ok (.if_icmp .eq 61, 3) := by decide +kernel
theorem dL_law_661 : decode code 661 = .ok (.iconst 0, 1) := by decide +kernel
theorem dL_law_662 : decode code 662 = .ok (.ireturn, 1) := by decide +kernel
theorem dL_law_663 : decode code 663 = .ok (.aload_n 1, 1) := by decide +kernel
theorem dL_law_664 : decode code 664 = .ok (.aload_n 0, 1) := by decide +kernel
theorem dL_law_665 : decode code 665 = .ok (.iload 4, 2) := by decide +kernel
theorem dL_law_667 : decode code 667 = .ok (.iconst 1, 1) := by decide +kernel
theorem dL_law_668 : decode code 668 = .ok (.iadd, 1) := by decide +kernel
theorem dL_law_669 : decode code 669 = .ok (.iaload, 1) := by decide +kernel
theorem dL_law_670 : decode code 670 = .ok (.aload_n 3, 1) := by decide +kernel
theorem dL_law_671 : decode code 671 = .ok (.invokestatic 84, 3) := by decide +kernel
theorem dL_law_674 : decode code 674 = .ok (.istore 5, 2) := by decide +kernel
theorem dL_law_676 : decode code 676 = .ok (.aload_n 2, 1) := by decide +kernel
theorem dL_law_677 : decode code 677 = .ok (.aload_n 0, 1) := by decide +kernel
theorem dL_law_678 : decode code 678 = .ok (.iload 4, 2) := by decide +kernel
theorem dL_law_680 : decode code 680 = .ok (.iconst 1, 1) := by decide +kernel
theorem dL_law_681 : decode code 681 = .ok (.iadd, 1) := by decide +kernel
theorem dL_law_682 : decode code 682 = .ok (.iaload, 1) := by decide +kernel
theorem dL_law_683 : decode code 683 = .ok (.invokevirtual 87, 3) := by decide +kernel
theorem dL_law_686 : decode code 686 = .ok (.istore 6, 2) := by decide +kernel
theorem dL_law_688 : decode code 688 = .ok (.aload_n 2, 1) := by decide +kernel
theorem dL_law_689 : decode code 689 = .ok (.invokevirtual 54, 3) := by decide +kernel
theorem dL_law_692 : decode code 692 = .ok (.iload 5, 2) := by decide +kernel
theorem dL_law_694 : decode code 694 = .ok (.if_icmp .eq 5, 3) := by decide +kernel
theorem dL_law_697 : decode code 697 = .ok (.iconst 0, 1) := by decide +kernel
theorem dL_law_698 : decode code 698 = .ok (.ireturn, 1) := by decide +kernel
theorem dL_law_699 : decode code 699 = .ok (.iload 5, 2) := by decide +kernel
theorem dL_law_701 : decode code 701 = .ok (.ifCond .ne 15, 3) := by decide +kernel
theorem dL_law_704 : decode code 704 = .ok (.aload_n 3, 1) := by decide +kernel
theorem dL_law_705 : decode code 705 = .ok (.iconst 0, 1) := by decide +kernel
theorem dL_law_706 : decode code 706 = .ok (.laload, 1) := by decide +kernel
theorem dL_law_707 : decode code 707 = .ok (.iload 6, 2) := by decide +kernel
theorem dL_law_709 : decode code 709 = .ok (.i2l, 1) := by decide +kernel
theorem dL_law_710 : decode code 710 = .ok (.lcmp, 1) := by decide +kernel
theorem dL_law_711 : decode code 711 = .ok (.ifCond .eq 5, 3) := by decide +kernel
theorem dL_law_714 : decode code 714 = .ok (.iconst 0, 1) := by decide +kernel
theorem dL_law_715 : decode code 715 = .ok (.ireturn, 1) := by decide +kernel
theorem dL_law_716 : decode code 716 = .ok (.goto 3, 3) := by decide +kernel
theorem dL_law_719 : decode code 719 = .ok (.iinc 4 7, 3) := by decide +kernel
theorem dL_law_722 : decode code 722 = .ok (.goto (-689), 3) := by decide +kernel
theorem dL_law_725 : decode code 725 = .ok (.iconst 1, 1) := by decide +kernel
theorem dL_law_726 : decode code 726 = .ok (.ireturn, 1) := by decide +kernel
theorem wd_90 : Cond.initialized RL ∈ zv_U := zv_in (n := 90) (by decide +kernel) (by decide +kernel)
theorem wd_124 : Cond.classLink RL 8 RX8 ∈ zv_U := zv_in (n := 124) (by decide +kernel) (by decide +kernel)
theorem wd_125 : Cond.instantiable RX8 5 ∈ zv_U := zv_in (n := 125) (by decide +kernel) (by decide +kernel)
theorem wd_126 : Cond.methodLink RL 44 yX8_init ∈ zv_U := zv_in (n := 126) (by decide +kernel) (by decide +kernel)
theorem wd_127 : Cond.instanceMethod yX8_init ∈ zv_U := zv_in (n := 127) (by decide +kernel) (by decide +kernel)
theorem wd_128 : Cond.code yX8_init cX8_init 2 (none) ∈ zv_U := zv_in (n := 128) (by decide +kernel) (by decide +kernel)
theorem wd_423 : Cond.methodLink RL 75 yX8_result ∈ zv_U := zv_in (n := 423) (by decide +kernel) (by decide +kernel)
theorem wd_424 : Cond.instanceMethod yX8_result ∈ zv_U := zv_in (n := 424) (by decide +kernel) (by decide +kernel)
theorem wd_425 : Cond.selects RX8 yX8_result yX8_result ∈ zv_U := zv_in (n := 425) (by decide +kernel) (by decide +kernel)
theorem wd_426 : Cond.code yX8_result cX8_result 1 ((some .long)) ∈ zv_U := zv_in (n := 426) (by decide +kernel) (by decide +kernel)
theorem wd_427 : Cond.methodLink RL 80 yX8_steps ∈ zv_U := zv_in (n := 427) (by decide +kernel) (by decide +kernel)
theorem wd_428 : Cond.instanceMethod yX8_steps ∈ zv_U := zv_in (n := 428) (by decide +kernel) (by decide +kernel)
theorem wd_429 : Cond.selects RX8 yX8_steps yX8_steps ∈ zv_U := zv_in (n := 429) (by decide +kernel) (by decide +kernel)
theorem wd_430 : Cond.code yX8_steps cX8_steps 1 ((some .int)) ∈ zv_U := zv_in (n := 430) (by decide +kernel) (by decide +kernel)
theorem wd_431 : Cond.methodLink RL 38 yL_cell ∈ zv_U := zv_in (n := 431) (by decide +kernel) (by decide +kernel)
theorem wd_432 : Cond.static yL_cell ∈ zv_U := zv_in (n := 432) (by decide +kernel) (by decide +kernel)
theorem wd_433 : Cond.code yL_cell cL_cell 2 ((some .int)) ∈ zv_U := zv_in (n := 433) (by decide +kernel) (by decide +kernel)
theorem wd_434 : Cond.methodLink RL 50 yL_feed ∈ zv_U := zv_in (n := 434) (by decide +kernel) (by decide +kernel)
theorem wd_435 : Cond.static yL_feed ∈ zv_U := zv_in (n := 435) (by decide +kernel) (by decide +kernel)
theorem wd_436 : Cond.codeWith yL_feed cL_feed 9 (some .int) [(0, 18, 21, 13), (0, 18, 25, 15)] ∈ zv_U := zv_in (n := 436) (by decide +kernel) (by decide +kernel)
theorem wd_532 : Cond.methodLink RL 58 yL_type ∈ zv_U := zv_in (n := 532) (by decide +kernel) (by decide +kernel)
theorem wd_533 : Cond.static yL_type ∈ zv_U := zv_in (n := 533) (by decide +kernel) (by decide +kernel)
theorem wd_534 : Cond.codeWith yL_type cL_type 6 (some .int) [(0, 12, 15, 21), (0, 12, 19, 13), (0, 12, 23, 15)] ∈ zv_U := zv_in (n := 534) (by decide +kernel) (by decide +kernel)
theorem wd_566 : Cond.methodLink RL 62 yL_handler ∈ zv_U := zv_in (n := 566) (by decide +kernel) (by decide +kernel)
theorem wd_567 : Cond.static yL_handler ∈ zv_U := zv_in (n := 567) (by decide +kernel) (by decide +kernel)
theorem wd_568 : Cond.codeWith yL_handler cL_handler 7 (some .int) [(0, 14, 17, 13), (0, 14, 21, 15)] ∈ zv_U := zv_in (n := 568) (by decide +kernel) (by decide +kernel)
theorem wd_581 : Cond.methodLink RL 66 yL_method ∈ zv_U := zv_in (n := 581) (by decide +kernel) (by decide +kernel)
theorem wd_582 : Cond.static yL_method ∈ zv_U := zv_in (n := 582) (by decide +kernel) (by decide +kernel)
theorem wd_583 : Cond.codeWith yL_method cL_method 7 (some .int) [(0, 14, 17, 13), (0, 14, 21, 15)] ∈ zv_U := zv_in (n := 583) (by decide +kernel) (by decide +kernel)
theorem wd_830 : Cond.methodLink RL 71 yL_run ∈ zv_U := zv_in (n := 830) (by decide +kernel) (by decide +kernel)
theorem wd_831 : Cond.static yL_run ∈ zv_U := zv_in (n := 831) (by decide +kernel) (by decide +kernel)
theorem wd_832 : Cond.codeWith yL_run cL_run 9 (some .int) [(0, 15, 18, 21), (0, 15, 22, 13)] ∈ zv_U := zv_in (n := 832) (by decide +kernel) (by decide +kernel)
theorem wd_1389 : Cond.methodLink RL 84 yL_count ∈ zv_U := zv_in (n := 1389) (by decide +kernel) (by decide +kernel)
theorem wd_1390 : Cond.static yL_count ∈ zv_U := zv_in (n := 1390) (by decide +kernel) (by decide +kernel)
theorem wd_1391 : Cond.codeWith yL_count cL_count 4 (some .int) [(0, 9, 12, 21)] ∈ zv_U := zv_in (n := 1391) (by decide +kernel) (by decide +kernel)
theorem wd_1397 : Cond.classLink RL 47 RX9 ∈ zv_U := zv_in (n := 1397) (by decide +kernel) (by decide +kernel)
theorem wd_1398 : Cond.instantiable RX9 55 ∈ zv_U := zv_in (n := 1398) (by decide +kernel) (by decide +kernel)
theorem wd_1399 : Cond.methodLink RL 49 yX9_init ∈ zv_U := zv_in (n := 1399) (by decide +kernel) (by decide +kernel)
theorem wd_1400 : Cond.instanceMethod yX9_init ∈ zv_U := zv_in (n := 1400) (by decide +kernel) (by decide +kernel)
theorem wd_1401 : Cond.code yX9_init cX9_init 2 (none) ∈ zv_U := zv_in (n := 1401) (by decide +kernel) (by decide +kernel)
theorem wd_1569 : Cond.methodLink RL 54 yX9_thrown ∈ zv_U := zv_in (n := 1569) (by decide +kernel) (by decide +kernel)
theorem wd_1570 : Cond.instanceMethod yX9_thrown ∈ zv_U := zv_in (n := 1570) (by decide +kernel) (by decide +kernel)
theorem wd_1571 : Cond.selects RX9 yX9_thrown yX9_thrown ∈ zv_U := zv_in (n := 1571) (by decide +kernel) (by decide +kernel)
theorem wd_1572 : Cond.code yX9_thrown cX9_thrown 1 ((some .int)) ∈ zv_U := zv_in (n := 1572) (by decide +kernel) (by decide +kernel)
theorem wd_1573 : Cond.methodLink RL 53 yX9_feed ∈ zv_U := zv_in (n := 1573) (by decide +kernel) (by decide +kernel)
theorem wd_1574 : Cond.instanceMethod yX9_feed ∈ zv_U := zv_in (n := 1574) (by decide +kernel) (by decide +kernel)
theorem wd_1575 : Cond.selects RX9 yX9_feed yX9_feed ∈ zv_U := zv_in (n := 1575) (by decide +kernel) (by decide +kernel)
theorem wd_1576 : Cond.code yX9_feed cX9_feed 9 ((some .int)) ∈ zv_U := zv_in (n := 1576) (by decide +kernel) (by decide +kernel)
theorem wd_1577 : Cond.methodLink RL 61 yX9_type ∈ zv_U := zv_in (n := 1577) (by decide +kernel) (by decide +kernel)
theorem wd_1578 : Cond.instanceMethod yX9_type ∈ zv_U := zv_in (n := 1578) (by decide +kernel) (by decide +kernel)
theorem wd_1579 : Cond.selects RX9 yX9_type yX9_type ∈ zv_U := zv_in (n := 1579) (by decide +kernel) (by decide +kernel)
theorem wd_1580 : Cond.code yX9_type cX9_type 7 ((some .int)) ∈ zv_U := zv_in (n := 1580) (by decide +kernel) (by decide +kernel)
theorem wd_1581 : Cond.methodLink RL 65 yX9_handler ∈ zv_U := zv_in (n := 1581) (by decide +kernel) (by decide +kernel)
theorem wd_1582 : Cond.instanceMethod yX9_handler ∈ zv_U := zv_in (n := 1582) (by decide +kernel) (by decide +kernel)
theorem wd_1583 : Cond.selects RX9 yX9_handler yX9_handler ∈ zv_U := zv_in (n := 1583) (by decide +kernel) (by decide +kernel)
theorem wd_1584 : Cond.code yX9_handler cX9_handler 6 ((some .int)) ∈ zv_U := zv_in (n := 1584) (by decide +kernel) (by decide +kernel)
theorem wd_1585 : Cond.methodLink RL 68 yX9_method ∈ zv_U := zv_in (n := 1585) (by decide +kernel) (by decide +kernel)
theorem wd_1586 : Cond.instanceMethod yX9_method ∈ zv_U := zv_in (n := 1586) (by decide +kernel) (by decide +kernel)
theorem wd_1587 : Cond.selects RX9 yX9_method yX9_method ∈ zv_U := zv_in (n := 1587) (by decide +kernel) (by decide +kernel)
theorem wd_1588 : Cond.code yX9_method cX9_method 10 ((some .int)) ∈ zv_U := zv_in (n := 1588) (by decide +kernel) (by decide +kernel)
theorem wd_1654 : Cond.methodLink RL 74 yX9_run ∈ zv_U := zv_in (n := 1654) (by decide +kernel) (by decide +kernel)
theorem wd_1655 : Cond.instanceMethod yX9_run ∈ zv_U := zv_in (n := 1655) (by decide +kernel) (by decide +kernel)
theorem wd_1656 : Cond.selects RX9 yX9_run yX9_run ∈ zv_U := zv_in (n := 1656) (by decide +kernel) (by decide +kernel)
theorem wd_1657 : Cond.code yX9_run cX9_run 12 ((some .int)) ∈ zv_U := zv_in (n := 1657) (by decide +kernel) (by decide +kernel)
theorem wd_1781 : Cond.methodLink RL 79 yX9_result ∈ zv_U := zv_in (n := 1781) (by decide +kernel) (by decide +kernel)
theorem wd_1782 : Cond.instanceMethod yX9_result ∈ zv_U := zv_in (n := 1782) (by decide +kernel) (by decide +kernel)
theorem wd_1783 : Cond.selects RX9 yX9_result yX9_result ∈ zv_U := zv_in (n := 1783) (by decide +kernel) (by decide +kernel)
theorem wd_1784 : Cond.code yX9_result cX9_result 1 ((some .long)) ∈ zv_U := zv_in (n := 1784) (by decide +kernel) (by decide +kernel)
theorem wd_1785 : Cond.methodLink RL 83 yX9_steps ∈ zv_U := zv_in (n := 1785) (by decide +kernel) (by decide +kernel)
theorem wd_1786 : Cond.instanceMethod yX9_steps ∈ zv_U := zv_in (n := 1786) (by decide +kernel) (by decide +kernel)
theorem wd_1787 : Cond.selects RX9 yX9_steps yX9_steps ∈ zv_U := zv_in (n := 1787) (by decide +kernel) (by decide +kernel)
theorem wd_1788 : Cond.code yX9_steps cX9_steps 1 ((some .int)) ∈ zv_U := zv_in (n := 1788) (by decide +kernel) (by decide +kernel)
theorem wd_1789 : Cond.methodLink RL 87 yX9_count ∈ zv_U := zv_in (n := 1789) (by decide +kernel) (by decide +kernel)
theorem wd_1790 : Cond.instanceMethod yX9_count ∈ zv_U := zv_in (n := 1790) (by decide +kernel) (by decide +kernel)
theorem wd_1791 : Cond.selects RX9 yX9_count yX9_count ∈ zv_U := zv_in (n := 1791) (by decide +kernel) (by decide +kernel)
theorem wd_1792 : Cond.code yX9_count cX9_count 2 ((some .int)) ∈ zv_U := zv_in (n := 1792) (by decide +kernel) (by decide +kernel)
theorem wd_1793 : Cond.constantLong RL 69 (4294967295) ∈ zv_U := zv_in (n := 1793) (by decide +kernel) (by decide +kernel)
theorem mw_X9_feed : zv_mw yX9_feed cX9_feed 9 ((some .int)) 6 := ⟨wd_1576, wd_103, by decide +kernel, by decide⟩
theorem mw_X9_thrown : zv_mw yX9_thrown cX9_thrown 1 ((some .int)) 0 := ⟨wd_1572, wd_103, by decide +kernel, by decide⟩
theorem mw_X9_type : zv_mw yX9_type cX9_type 7 ((some .int)) 3 := ⟨wd_1580, wd_103, by decide +kernel, by decide⟩
theorem mw_X9_handler : zv_mw yX9_handler cX9_handler 6 ((some .int)) 4 := ⟨wd_1584, wd_103, by decide +kernel, by decide⟩
theorem mw_X9_method : zv_mw yX9_method cX9_method 10 ((some .int)) 4 := ⟨wd_1588, wd_103, by decide +kernel, by decide⟩
theorem mw_X9_run : zv_mw yX9_run cX9_run 12 ((some .int)) 4 := ⟨wd_1657, wd_103, by decide +kernel, by decide⟩
theorem mw_X9_count : zv_mw yX9_count cX9_count 2 ((some .int)) 1 := ⟨wd_1792, wd_103, by decide +kernel, by decide⟩
theorem mw_X8_result : zv_mw yX8_result cX8_result 1 ((some .long)) 0 := ⟨wd_426, wd_91, by decide +kernel, by decide⟩
theorem mw_X9_result : zv_mw yX9_result cX9_result 1 ((some .long)) 0 := ⟨wd_1784, wd_103, by decide +kernel, by decide⟩
theorem mw_X8_steps : zv_mw yX8_steps cX8_steps 1 ((some .int)) 0 := ⟨wd_430, wd_91, by decide +kernel, by decide⟩
theorem mw_X9_steps : zv_mw yX9_steps cX9_steps 1 ((some .int)) 0 := ⟨wd_1788, wd_103, by decide +kernel, by decide⟩
theorem mw_X8_init : zv_mw yX8_init cX8_init 2 (none) 1 := ⟨wd_128, wd_91, by decide +kernel, by decide⟩
theorem mw_X9_init : zv_mw yX9_init cX9_init 2 (none) 1 := ⟨wd_1401, wd_103, by decide +kernel, by decide⟩
theorem mw_L_cell : zv_mw yL_cell cL_cell 2 ((some .int)) 2 := ⟨wd_433, wd_90, by decide +kernel, by decide⟩
def zd_8 : List Value := [.null, .null, .null, .null, .null]
theorem df_8 : ∀ j, j < 5 → defaultValue (tyX8 j) = vp_V zd_8 j := by decide +kernel
def zd_9 : List Value := [.int 0, .int 0, .null, .null, .null, .int 0, .null, .int 0, .null, .int 0, .null, .null, .null, .null, .null, .null, .null, .null, .null, .int 0, .null, .null, .null, .null, .null, .int 0, .null, .int 0, .int 0, .null, .null, .null, .null, .null, .null, .null, .int 0, .null, .int 0, .null, .null, .null, .null, .null, .null, .null, .null, .int 0, .int 0, .int 0, .long 0, .int 0, .int 0, .int 0, .int 0]
theorem df_9 : ∀ j, j < 55 → defaultValue (tyX9 j) = vp_V zd_9 j := by decide +kernel
