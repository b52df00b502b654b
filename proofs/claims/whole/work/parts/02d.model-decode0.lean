theorem dX9_thrown_0 : decode cX9_thrown 0 = .ok (.aload_n 0, 1) := by decide +kernel
theorem dX9_thrown_1 : decode cX9_thrown 1 = .ok (.getfield 127, 3) := by decide +kernel
theorem dX9_thrown_4 : decode cX9_thrown 4 = .ok (.ireturn, 1) := by decide +kernel
theorem dX9_init_0 : decode cX9_init 0 = .ok (.aload_n 0, 1) := by decide +kernel
theorem dX9_init_1 : decode cX9_init 1 = .ok (.invokespecial 1, 3) := by decide +kernel
theorem dX9_init_4 : decode cX9_init 4 = .ok (.aload_n 0, 1) := by decide +kernel
theorem dX9_init_5 : decode cX9_init 5 = .ok (.bipush 30, 2) := by decide +kernel
theorem dX9_init_7 : decode cX9_init 7 = .ok (.newarray .int, 2) := by decide +kernel
theorem dX9_init_9 : decode cX9_init 9 = .ok (.putfield 7, 3) := by decide +kernel
theorem dX9_init_12 : decode cX9_init 12 = .ok (.aload_n 0, 1) := by decide +kernel
theorem dX9_init_13 : decode cX9_init 13 = .ok (.bipush 30, 2) := by decide +kernel
theorem dX9_init_15 : decode cX9_init 15 = .ok (.newarray .int, 2) := by decide +kernel
theorem dX9_init_17 : decode cX9_init 17 = .ok (.putfield 13, 3) := by decide +kernel
theorem dX9_init_20 : decode cX9_init 20 = .ok (.aload_n 0, 1) := by decide +kernel
theorem dX9_init_21 : decode cX9_init 21 = .ok (.sipush 240, 3) := by decide +kernel
theorem dX9_init_24 : decode cX9_init 24 = .ok (.newarray .int, 2) := by decide +kernel
theorem dX9_init_26 : decode cX9_init 26 = .ok (.putfield 16, 3) := by decide +kernel
theorem dX9_init_29 : decode cX9_init 29 = .ok (.aload_n 0, 1) := by decide +kernel
theorem dX9_init_30 : decode cX9_init 30 = .ok (.sipush 200, 3) := by decide +kernel
theorem dX9_init_33 : decode cX9_init 33 = .ok (.newarray .int, 2) := by decide +kernel
theorem dX9_init_35 : decode cX9_init 35 = .ok (.putfield 19, 3) := by decide +kernel
theorem dX9_init_38 : decode cX9_init 38 = .ok (.aload_n 0, 1) := by decide +kernel
theorem dX9_init_39 : decode cX9_init 39 = .ok (.bipush 32, 2) := by decide +kernel
theorem dX9_init_41 : decode cX9_init 41 = .ok (.newarray .int, 2) := by decide +kernel
theorem dX9_init_43 : decode cX9_init 43 = .ok (.putfield 22, 3) := by decide +kernel
theorem dX9_init_46 : decode cX9_init 46 = .ok (.aload_n 0, 1) := by decide +kernel
theorem dX9_init_47 : decode cX9_init 47 = .ok (.sipush 640, 3) := by decide +kernel
theorem dX9_init_50 : decode cX9_init 50 = .ok (.newarray .int, 2) := by decide +kernel
theorem dX9_init_52 : decode cX9_init 52 = .ok (.putfield 25, 3) := by decide +kernel
theorem dX9_init_55 : decode cX9_init 55 = .ok (.aload_n 0, 1) := by decide +kernel
theorem dX9_init_56 : decode cX9_init 56 = .ok (.bipush 20, 2) := by decide +kernel
theorem dX9_init_58 : decode cX9_init 58 = .ok (.newarray .int, 2) := by decide +kernel
theorem dX9_init_60 : decode cX9_init 60 = .ok (.putfield 28, 3) := by decide +kernel
theorem dX9_init_63 : decode cX9_init 63 = .ok (.aload_n 0, 1) := by decide +kernel
theorem dX9_init_64 : decode cX9_init 64 = .ok (.bipush 20, 2) := by decide +kernel
theorem dX9_init_66 : decode cX9_init 66 = .ok (.newarray .int, 2) := by decide +kernel
theorem dX9_init_68 : decode cX9_init 68 = .ok (.putfield 31, 3) := by decide +kernel
theorem dX9_init_71 : decode cX9_init 71 = .ok (.aload_n 0, 1) := by decide +kernel
theorem dX9_init_72 : decode cX9_init 72 = .ok (.bipush 80, 2) := by decide +kernel
theorem dX9_init_74 : decode cX9_init 74 = .ok (.newarray .int, 2) := by decide +kernel
theorem dX9_init_76 : decode cX9_init 76 = .ok (.putfield 34, 3) := by decide +kernel
theorem dX9_init_79 : decode cX9_init 79 = .ok (.aload_n 0, 1) := by decide +kernel
theorem dX9_init_80 : decode cX9_init 80 = .ok (.bipush 20, 2) := by decide +kernel
theorem dX9_init_82 : decode cX9_init 82 = .ok (.newarray .int, 2) := by decide +kernel
theorem dX9_init_84 : decode cX9_init 84 = .ok (.putfield 37, 3) := by decide +kernel
theorem dX9_init_87 : decode cX9_init 87 = .ok (.aload_n 0, 1) := by decide +kernel
theorem dX9_init_88 : decode cX9_init 88 = .ok (.bipush 20, 2) := by decide +kernel
theorem dX9_init_90 : decode cX9_init 90 = .ok (.newarray .int, 2) := by decide +kernel
theorem dX9_init_92 : decode cX9_init 92 = .ok (.putfield 40, 3) := by decide +kernel
theorem dX9_init_95 : decode cX9_init 95 = .ok (.aload_n 0, 1) := by decide +kernel
theorem dX9_init_96 : decode cX9_init 96 = .ok (.bipush 20, 2) := by decide +kernel
theorem dX9_init_98 : decode cX9_init 98 = .ok (.newarray .int, 2) := by decide +kernel
theorem dX9_init_100 : decode cX9_init 100 = .ok (.putfield 43, 3) := by decide +kernel
theorem dX9_init_103 : decode cX9_init 103 = .ok (.aload_n 0, 1) := by decide +kernel
theorem dX9_init_104 : decode cX9_init 104 = .ok (.sipush 4000, 3) := by decide +kernel
theorem dX9_init_107 : decode cX9_init 107 = .ok (.newarray .int, 2) := by decide +kernel
theorem dX9_init_109 : decode cX9_init 109 = .ok (.putfield 46, 3) := by decide +kernel
theorem dX9_init_112 : decode cX9_init 112 = .ok (.aload_n 0, 1) := by decide +kernel
theorem dX9_init_113 : decode cX9_init 113 = .ok (.bipush 20, 2) := by decide +kernel
theorem dX9_init_115 : decode cX9_init 115 = .ok (.newarray .int, 2) := by decide +kernel
theorem dX9_init_117 : decode cX9_init 117 = .ok (.putfield 49, 3) := by decide +kernel
theorem dX9_init_120 : decode cX9_init 120 = .ok (.aload_n 0, 1) := by decide +kernel
theorem dX9_init_121 : decode cX9_init 121 = .ok (.sipush 200, 3) := by decide +kernel
theorem dX9_init_124 : decode cX9_init 124 = .ok (.newarray .boolean, 2) := by decide +kernel
theorem dX9_init_126 : decode cX9_init 126 = .ok (.putfield 52, 3) := by decide +kernel
theorem dX9_init_129 : decode cX9_init 129 = .ok (.aload_n 0, 1) := by decide +kernel
theorem dX9_init_130 : decode cX9_init 130 = .ok (.sipush 200, 3) := by decide +kernel
theorem dX9_init_133 : decode cX9_init 133 = .ok (.newarray .int, 2) := by decide +kernel
theorem dX9_init_135 : decode cX9_init 135 = .ok (.putfield 56, 3) := by decide +kernel
theorem dX9_init_138 : decode cX9_init 138 = .ok (.aload_n 0, 1) := by decide +kernel
theorem dX9_init_139 : decode cX9_init 139 = .ok (.sipush 2400, 3) := by decide +kernel
theorem dX9_init_142 : decode cX9_init 142 = .ok (.newarray .int, 2) := by decide +kernel
theorem dX9_init_144 : decode cX9_init 144 = .ok (.putfield 59, 3) := by decide +kernel
theorem dX9_init_147 : decode cX9_init 147 = .ok (.aload_n 0, 1) := by decide +kernel
theorem dX9_init_148 : decode cX9_init 148 = .ok (.sipush 3200, 3) := by decide +kernel
theorem dX9_init_151 : decode cX9_init 151 = .ok (.newarray .int, 2) := by decide +kernel
theorem dX9_init_153 : decode cX9_init 153 = .ok (.putfield 62, 3) := by decide +kernel
theorem dX9_init_156 : decode cX9_init 156 = .ok (.aload_n 0, 1) := by decide +kernel
theorem dX9_init_157 : decode cX9_init 157 = .ok (.bipush 16, 2) := by decide +kernel
theorem dX9_init_159 : decode cX9_init 159 = .ok (.newarray .int, 2) := by decide +kernel
theorem dX9_init_161 : decode cX9_init 161 = .ok (.putfield 65, 3) := by decide +kernel
theorem dX9_init_164 : decode cX9_init 164 = .ok (.aload_n 0, 1) := by decide +kernel
theorem dX9_init_165 : decode cX9_init 165 = .ok (.bipush 16, 2) := by decide +kernel
theorem dX9_init_167 : decode cX9_init 167 = .ok (.newarray .int, 2) := by decide +kernel
theorem dX9_init_169 : decode cX9_init 169 = .ok (.putfield 68, 3) := by decide +kernel
theorem dX9_init_172 : decode cX9_init 172 = .ok (.aload_n 0, 1) := by decide +kernel
theorem dX9_init_173 : decode cX9_init 173 = .ok (.sipush 201, 3) := by decide +kernel
theorem dX9_init_176 : decode cX9_init 176 = .ok (.newarray .boolean, 2) := by decide +kernel
theorem dX9_init_178 : decode cX9_init 178 = .ok (.putfield 71, 3) := by decide +kernel
theorem dX9_init_181 : decode cX9_init 181 = .ok (.aload_n 0, 1) := by decide +kernel
theorem dX9_init_182 : decode cX9_init 182 = .ok (.sipush 201, 3) := by decide +kernel
theorem dX9_init_185 : decode cX9_init 185 = .ok (.newarray .boolean, 2) := by decide +kernel
theorem dX9_init_187 : decode cX9_init 187 = .ok (.putfield 74, 3) := by decide +kernel
theorem dX9_init_190 : decode cX9_init 190 = .ok (.aload_n 0, 1) := by decide +kernel
theorem dX9_init_191 : decode cX9_init 191 = .ok (.sipush 201, 3) := by decide +kernel
theorem dX9_init_194 : decode cX9_init 194 = .ok (.newarray .int, 2) := by decide +kernel
theorem dX9_init_196 : decode cX9_init 196 = .ok (.putfield 77, 3) := by decide +kernel
theorem dX9_init_199 : decode cX9_init 199 = .ok (.aload_n 0, 1) := by decide +kernel
theorem dX9_init_200 : decode cX9_init 200 = .ok (.sipush 201, 3) := by decide +kernel
theorem dX9_init_203 : decode cX9_init 203 = .ok (.newarray .int, 2) := by decide +kernel
theorem dX9_init_205 : decode cX9_init 205 = .ok (.putfield 80, 3) := by decide +kernel
theorem dX9_init_208 : decode cX9_init 208 = .ok (.aload_n 0, 1) := by decide +kernel
theorem dX9_init_209 : decode cX9_init 209 = .ok (.sipush 201, 3) := by decide +kernel
theorem dX9_init_212 : decode cX9_init 212 = .ok (.newarray .int, 2) := by decide +kernel
theorem dX9_init_214 : decode cX9_init 214 = .ok (.putfield 83, 3) := by decide +kernel
theorem dX9_init_217 : decode cX9_init 217 = .ok (.aload_n 0, 1) := by decide +kernel
theorem dX9_init_218 : decode cX9_init 218 = .ok (.sipush 201, 3) := by decide +kernel
theorem dX9_init_221 : decode cX9_init 221 = .ok (.newarray .int, 2) := by decide +kernel
theorem dX9_init_223 : decode cX9_init 223 = .ok (.putfield 86, 3) := by decide +kernel
theorem dX9_init_226 : decode cX9_init 226 = .ok (.aload_n 0, 1) := by decide +kernel
theorem dX9_init_227 : decode cX9_init 227 = .ok (.sipush 201, 3) := by decide +kernel
theorem dX9_init_230 : decode cX9_init 230 = .ok (.newarray .int, 2) := by decide +kernel
theorem dX9_init_232 : decode cX9_init 232 = .ok (.putfield 89, 3) := by decide +kernel
theorem dX9_init_235 : decode cX9_init 235 = .ok (.aload_n 0, 1) := by decide +kernel
theorem dX9_init_236 : decode cX9_init 236 = .ok (.sipush 1700, 3) := by decide +kernel
theorem dX9_init_239 : decode cX9_init 239 = .ok (.newarray .long, 2) := by decide +kernel
theorem dX9_init_241 : decode cX9_init 241 = .ok (.putfield 92, 3) := by decide +kernel
theorem dX9_init_244 : decode cX9_init 244 = .ok (.aload_n 0, 1) := by decide +kernel
theorem dX9_init_245 : decode cX9_init 245 = .ok (.sipush 202, 3) := by decide +kernel
theorem dX9_init_248 : decode cX9_init 248 = .ok (.newarray .int, 2) := by decide +kernel
theorem dX9_init_250 : decode cX9_init 250 = .ok (.putfield 96, 3) := by decide +kernel
theorem dX9_init_253 : decode cX9_init 253 = .ok (.aload_n 0, 1) := by decide +kernel
theorem dX9_init_254 : decode cX9_init 254 = .ok (.bipush 16, 2) := by decide +kernel
theorem dX9_init_256 : decode cX9_init 256 = .ok (.newarray .int, 2) := by decide +kernel
theorem dX9_init_258 : decode cX9_init 258 = .ok (.putfield 99, 3) := by decide +kernel
theorem dX9_init_261 : decode cX9_init 261 = .ok (.aload_n 0, 1) := by decide +kernel
theorem dX9_init_262 : decode cX9_init 262 = .ok (.bipush 16, 2) := by decide +kernel
theorem dX9_init_264 : decode cX9_init 264 = .ok (.newarray .int, 2) := by decide +kernel
theorem dX9_init_266 : decode cX9_init 266 = .ok (.putfield 102, 3) := by decide +kernel
theorem dX9_init_269 : decode cX9_init 269 = .ok (.aload_n 0, 1) := by decide +kernel
theorem dX9_init_270 : decode cX9_init 270 = .ok (.bipush 16, 2) := by decide +kernel
theorem dX9_init_272 : decode cX9_init 272 = .ok (.newarray .int, 2) := by decide +kernel
theorem dX9_init_274 : decode cX9_init 274 = .ok (.putfield 105, 3) := by decide +kernel
theorem dX9_init_277 : decode cX9_init 277 = .ok (.aload_n 0, 1) := by decide +kernel
theorem dX9_init_278 : decode cX9_init 278 = .ok (.sipush 256, 3) := by decide +kernel
theorem dX9_init_281 : decode cX9_init 281 = .ok (.newarray .long, 2) := by decide +kernel
theorem dX9_init_283 : decode cX9_init 283 = .ok (.putfield 108, 3) := by decide +kernel
theorem dX9_init_286 : decode cX9_init 286 = .ok (.aload_n 0, 1) := by decide +kernel
theorem dX9_init_287 : decode cX9_init 287 = .ok (.sipush 256, 3) := by decide +kernel
theorem dX9_init_290 : decode cX9_init 290 = .ok (.newarray .int, 2) := by decide +kernel
theorem dX9_init_292 : decode cX9_init 292 = .ok (.putfield 111, 3) := by decide +kernel
theorem dX9_init_295 : decode cX9_init 295 = .ok (.aload_n 0, 1) := by decide +kernel
theorem dX9_init_296 : decode cX9_init 296 = .ok (.sipush 192, 3) := by decide +kernel
theorem dX9_init_299 : decode cX9_init 299 = .ok (.newarray .long, 2) := by decide +kernel
theorem dX9_init_301 : decode cX9_init 301 = .ok (.putfield 114, 3) := by decide +kernel
theorem dX9_init_304 : decode cX9_init 304 = .ok (.aload_n 0, 1) := by decide +kernel
theorem dX9_init_305 : decode cX9_init 305 = .ok (.sipush 192, 3) := by decide +kernel
theorem dX9_init_308 : decode cX9_init 308 = .ok (.newarray .int, 2) := by decide +kernel
theorem dX9_init_310 : decode cX9_init 310 = .ok (.putfield 117, 3) := by decide +kernel
theorem dX9_init_313 : decode cX9_init 313 = .ok (.aload_n 0, 1) := by decide +kernel
theorem dX9_init_314 : decode cX9_init 314 = .ok (.iload_n 1, 1) := by decide +kernel
theorem dX9_init_315 : decode cX9_init 315 = .ok (.bipush 16, 2) := by decide +kernel
theorem dX9_init_317 : decode cX9_init 317 = .ok (.if_icmp .ge 8, 3) := by decide +kernel
theorem dX9_init_320 : decode cX9_init 320 = .ok (.bipush 16, 2) := by decide +kernel
theorem dX9_init_322 : decode cX9_init 322 = .ok (.goto 17, 3) := by decide +kernel
theorem dX9_init_325 : decode cX9_init 325 = .ok (.iload_n 1, 1) := by decide +kernel
theorem dX9_init_326 : decode cX9_init 326 = .ok (.sipush 400, 3) := by decide +kernel
theorem dX9_init_329 : decode cX9_init 329 = .ok (.if_icmp .le 9, 3) := by decide +kernel
theorem dX9_init_332 : decode cX9_init 332 = .ok (.sipush 400, 3) := by decide +kernel
theorem dX9_init_335 : decode cX9_init 335 = .ok (.goto 4, 3) := by decide +kernel
theorem dX9_init_338 : decode cX9_init 338 = .ok (.iload_n 1, 1) := by decide +kernel
theorem dX9_init_339 : decode cX9_init 339 = .ok (.putfield 120, 3) := by decide +kernel
theorem dX9_init_342 : decode cX9_init 342 = .ok (.aload_n 0, 1) := by decide +kernel
theorem dX9_init_343 : decode cX9_init 343 = .ok (.bipush 7, 2) := by decide +kernel
theorem dX9_init_345 : decode cX9_init 345 = .ok (.putfield 124, 3) := by decide +kernel
theorem dX9_init_348 : decode cX9_init 348 = .ok (.aload_n 0, 1) := by decide +kernel
theorem dX9_init_349 : decode cX9_init 349 = .ok (.getfield 7, 3) := by decide +kernel
theorem dX9_init_352 : decode cX9_init 352 = .ok (.iconst 0, 1) := by decide +kernel
theorem dX9_init_353 : decode cX9_init 353 = .ok (.iconst (-1), 1) := by decide +kernel
theorem dX9_init_354 : decode cX9_init 354 = .ok (.iastore, 1) := by decide +kernel
theorem dX9_init_355 : decode cX9_init 355 = .ok (.return_, 1) := by decide +kernel
theorem dX9_feed_0 : decode cX9_feed 0 = .ok (.aload_n 0, 1) := by decide +kernel
theorem dX9_feed_1 : decode cX9_feed 1 = .ok (.iload 6, 2) := by decide +kernel
theorem dX9_feed_3 : decode cX9_feed 3 = .ok (.iconst 1, 1) := by decide +kernel
theorem dX9_feed_4 : decode cX9_feed 4 = .ok (.if_icmp .lt 10, 3) := by decide +kernel
theorem dX9_feed_7 : decode cX9_feed 7 = .ok (.iload 6, 2) := by decide +kernel
theorem dX9_feed_9 : decode cX9_feed 9 = .ok (.bipush 20, 2) := by decide +kernel
theorem dX9_feed_11 : decode cX9_feed 11 = .ok (.if_icmp .le 7, 3) := by decide +kernel
theorem dX9_feed_14 : decode cX9_feed 14 = .ok (.iconst 1, 1) := by decide +kernel
theorem dX9_feed_15 : decode cX9_feed 15 = .ok (.goto 21, 3) := by decide +kernel
theorem dX9_feed_18 : decode cX9_feed 18 = .ok (.aload_n 0, 1) := by decide +kernel
theorem dX9_feed_19 : decode cX9_feed 19 = .ok (.getfield 130, 3) := by decide +kernel
theorem dX9_feed_22 : decode cX9_feed 22 = .ok (.iload 6, 2) := by decide +kernel
theorem dX9_feed_24 : decode cX9_feed 24 = .ok (.iadd, 1) := by decide +kernel
theorem dX9_feed_25 : decode cX9_feed 25 = .ok (.sipush 200, 3) := by decide +kernel
theorem dX9_feed_28 : decode cX9_feed 28 = .ok (.if_icmp .le 7, 3) := by decide +kernel
theorem dX9_feed_31 : decode cX9_feed 31 = .ok (.iconst 2, 1) := by decide +kernel
theorem dX9_feed_32 : decode cX9_feed 32 = .ok (.goto 4, 3) := by decide +kernel
theorem dX9_feed_35 : decode cX9_feed 35 = .ok (.iconst 0, 1) := by decide +kernel
theorem dX9_feed_36 : decode cX9_feed 36 = .ok (.putfield 127, 3) := by decide +kernel
theorem dX9_feed_39 : decode cX9_feed 39 = .ok (.aload_n 0, 1) := by decide +kernel
theorem dX9_feed_40 : decode cX9_feed 40 = .ok (.getfield 127, 3) := by decide +kernel
theorem dX9_feed_43 : decode cX9_feed 43 = .ok (.ifCond .le 5, 3) := by decide +kernel
theorem dX9_feed_46 : decode cX9_feed 46 = .ok (.iconst 0, 1) := by decide +kernel
theorem dX9_feed_47 : decode cX9_feed 47 = .ok (.ireturn, 1) := by decide +kernel
theorem dX9_feed_48 : decode cX9_feed 48 = .ok (.iconst 0, 1) := by decide +kernel
theorem dX9_feed_49 : decode cX9_feed 49 = .ok (.istore 7, 2) := by decide +kernel
theorem dX9_feed_51 : decode cX9_feed 51 = .ok (.iload 7, 2) := by decide +kernel
theorem dX9_feed_53 : decode cX9_feed 53 = .ok (.iload 6, 2) := by decide +kernel
theorem dX9_feed_55 : decode cX9_feed 55 = .ok (.if_icmp .ge 93, 3) := by decide +kernel
theorem dX9_feed_58 : decode cX9_feed 58 = .ok (.iload 7, 2) := by decide +kernel
theorem dX9_feed_60 : decode cX9_feed 60 = .ok (.iconst 4, 1) := by decide +kernel
theorem dX9_feed_61 : decode cX9_feed 61 = .ok (.if_icmp .ge 7, 3) := by decide +kernel
theorem dX9_feed_64 : decode cX9_feed 64 = .ok (.iload_n 1, 1) := by decide +kernel
theorem dX9_feed_65 : decode cX9_feed 65 = .ok (.goto 39, 3) := by decide +kernel
theorem dX9_feed_68 : decode cX9_feed 68 = .ok (.iload 7, 2) := by decide +kernel
theorem dX9_feed_70 : decode cX9_feed 70 = .ok (.bipush 8, 2) := by decide +kernel
theorem dX9_feed_72 : decode cX9_feed 72 = .ok (.if_icmp .ge 7, 3) := by decide +kernel
theorem dX9_feed_75 : decode cX9_feed 75 = .ok (.iload_n 2, 1) := by decide +kernel
theorem dX9_feed_76 : decode cX9_feed 76 = .ok (.goto 28, 3) := by decide +kernel
theorem dX9_feed_79 : decode cX9_feed 79 = .ok (.iload 7, 2) := by decide +kernel
theorem dX9_feed_81 : decode cX9_feed 81 = .ok (.bipush 12, 2) := by decide +kernel
theorem dX9_feed_83 : decode cX9_feed 83 = .ok (.if_icmp .ge 7, 3) := by decide +kernel
theorem dX9_feed_86 : decode cX9_feed 86 = .ok (.iload_n 3, 1) := by decide +kernel
theorem dX9_feed_87 : decode cX9_feed 87 = .ok (.goto 17, 3) := by decide +kernel
theorem dX9_feed_90 : decode cX9_feed 90 = .ok (.iload 7, 2) := by decide +kernel
theorem dX9_feed_92 : decode cX9_feed 92 = .ok (.bipush 16, 2) := by decide +kernel
theorem dX9_feed_94 : decode cX9_feed 94 = .ok (.if_icmp .ge 8, 3) := by decide +kernel
theorem dX9_feed_97 : decode cX9_feed 97 = .ok (.iload 4, 2) := by decide +kernel
theorem dX9_feed_99 : decode cX9_feed 99 = .ok (.goto 5, 3) := by decide +kernel
theorem dX9_feed_102 : decode cX9_feed 102 = .ok (.iload 5, 2) := by decide +kernel
theorem dX9_feed_104 : decode cX9_feed 104 = .ok (.istore 8, 2) := by decide +kernel
theorem dX9_feed_106 : decode cX9_feed 106 = .ok (.aload_n 0, 1) := by decide +kernel
theorem dX9_feed_107 : decode cX9_feed 107 = .ok (.getfield 19, 3) := by decide +kernel
theorem dX9_feed_110 : decode cX9_feed 110 = .ok (.aload_n 0, 1) := by decide +kernel
theorem dX9_feed_111 : decode cX9_feed 111 = .ok (.getfield 130, 3) := by decide +kernel
theorem dX9_feed_114 : decode cX9_feed 114 = .ok (.iload 8, 2) := by decide +kernel
theorem dX9_feed_116 : decode cX9_feed 116 = .ok (.bipush 24, 2) := by decide +kernel
theorem dX9_feed_118 : decode cX9_feed 118 = .ok (.bipush 8, 2) := by decide +kernel
theorem dX9_feed_120 : decode cX9_feed 120 = .ok (.iload 7, 2) := by decide +kernel
theorem dX9_feed_122 : decode cX9_feed 122 = .ok (.iconst 4, 1) := by decide +kernel
theorem dX9_feed_123 : decode cX9_feed 123 = .ok (.irem, 1) := by decide +kernel
theorem dX9_feed_124 : decode cX9_feed 124 = .ok (.imul, 1) := by decide +kernel
theorem dX9_feed_125 : decode cX9_feed 125 = .ok (.isub, 1) := by decide +kernel
theorem dX9_feed_126 : decode cX9_feed 126 = .ok (.ishr, 1) := by decide +kernel
theorem dX9_feed_127 : decode cX9_feed 127 = .ok (.sipush 255, 3) := by decide +kernel
theorem dX9_feed_130 : decode cX9_feed 130 = .ok (.iand, 1) := by decide +kernel
theorem dX9_feed_131 : decode cX9_feed 131 = .ok (.iastore, 1) := by decide +kernel
theorem dX9_feed_132 : decode cX9_feed 132 = .ok (.aload_n 0, 1) := by decide +kernel
theorem dX9_feed_133 : decode cX9_feed 133 = .ok (.dup, 1) := by decide +kernel
theorem dX9_feed_134 : decode cX9_feed 134 = .ok (.getfield 130, 3) := by decide +kernel
theorem dX9_feed_137 : decode cX9_feed 137 = .ok (.iconst 1, 1) := by decide +kernel
theorem dX9_feed_138 : decode cX9_feed 138 = .ok (.iadd, 1) := by decide +kernel
theorem dX9_feed_139 : decode cX9_feed 139 = .ok (.putfield 130, 3) := by decide +kernel
theorem dX9_feed_142 : decode cX9_feed 142 = .ok (.iinc 7 1, 3) := by decide +kernel
theorem dX9_feed_145 : decode cX9_feed 145 = .ok (.goto (-94), 3) := by decide +kernel
theorem dX9_feed_148 : decode cX9_feed 148 = .ok (.aload_n 0, 1) := by decide +kernel
theorem dX9_feed_149 : decode cX9_feed 149 = .ok (.getfield 130, 3) := by decide +kernel
theorem dX9_feed_152 : decode cX9_feed 152 = .ok (.ireturn, 1) := by decide +kernel
theorem dX9_type_0 : decode cX9_type 0 = .ok (.iload_n 1, 1) := by decide +kernel
theorem dX9_type_1 : decode cX9_type 1 = .ok (.ifCond .lt 15, 3) := by decide +kernel
theorem dX9_type_4 : decode cX9_type 4 = .ok (.iload_n 1, 1) := by decide +kernel
theorem dX9_type_5 : decode cX9_type 5 = .ok (.aload_n 0, 1) := by decide +kernel
theorem dX9_type_6 : decode cX9_type 6 = .ok (.getfield 124, 3) := by decide +kernel
theorem dX9_type_9 : decode cX9_type 9 = .ok (.if_icmp .ge 7, 3) := by decide +kernel
theorem dX9_type_12 : decode cX9_type 12 = .ok (.iconst 1, 1) := by decide +kernel
theorem dX9_type_13 : decode cX9_type 13 = .ok (.goto 4, 3) := by decide +kernel
theorem dX9_type_16 : decode cX9_type 16 = .ok (.iconst 0, 1) := by decide +kernel
theorem dX9_type_17 : decode cX9_type 17 = .ok (.istore 4, 2) := by decide +kernel
theorem dX9_type_19 : decode cX9_type 19 = .ok (.aload_n 0, 1) := by decide +kernel
theorem dX9_type_20 : decode cX9_type 20 = .ok (.iload 4, 2) := by decide +kernel
theorem dX9_type_22 : decode cX9_type 22 = .ok (.ifCond .ne 7, 3) := by decide +kernel
theorem dX9_type_25 : decode cX9_type 25 = .ok (.iconst 1, 1) := by decide +kernel
theorem dX9_type_26 : decode cX9_type 26 = .ok (.goto 38, 3) := by decide +kernel
theorem dX9_type_29 : decode cX9_type 29 = .ok (.iload_n 2, 1) := by decide +kernel
theorem dX9_type_30 : decode cX9_type 30 = .ok (.ifCond .lt 16, 3) := by decide +kernel
theorem dX9_type_33 : decode cX9_type 33 = .ok (.iload_n 2, 1) := by decide +kernel
theorem dX9_type_34 : decode cX9_type 34 = .ok (.bipush 8, 2) := by decide +kernel
theorem dX9_type_36 : decode cX9_type 36 = .ok (.aload_n 0, 1) := by decide +kernel
theorem dX9_type_37 : decode cX9_type 37 = .ok (.getfield 13, 3) := by decide +kernel
theorem dX9_type_40 : decode cX9_type 40 = .ok (.iload_n 1, 1) := by decide +kernel
theorem dX9_type_41 : decode cX9_type 41 = .ok (.iaload, 1) := by decide +kernel
theorem dX9_type_42 : decode cX9_type 42 = .ok (.isub, 1) := by decide +kernel
theorem dX9_type_43 : decode cX9_type 43 = .ok (.if_icmp .le 7, 3) := by decide +kernel
theorem dX9_type_46 : decode cX9_type 46 = .ok (.iconst 2, 1) := by decide +kernel
theorem dX9_type_47 : decode cX9_type 47 = .ok (.goto 17, 3) := by decide +kernel
theorem dX9_type_50 : decode cX9_type 50 = .ok (.aload_n 0, 1) := by decide +kernel
theorem dX9_type_51 : decode cX9_type 51 = .ok (.getfield 124, 3) := by decide +kernel
theorem dX9_type_54 : decode cX9_type 54 = .ok (.bipush 30, 2) := by decide +kernel
theorem dX9_type_56 : decode cX9_type 56 = .ok (.if_icmp .ne 7, 3) := by decide +kernel
theorem dX9_type_59 : decode cX9_type 59 = .ok (.iconst 3, 1) := by decide +kernel
theorem dX9_type_60 : decode cX9_type 60 = .ok (.goto 4, 3) := by decide +kernel
theorem dX9_type_63 : decode cX9_type 63 = .ok (.iconst 0, 1) := by decide +kernel
theorem dX9_type_64 : decode cX9_type 64 = .ok (.putfield 127, 3) := by decide +kernel
theorem dX9_type_67 : decode cX9_type 67 = .ok (.aload_n 0, 1) := by decide +kernel
theorem dX9_type_68 : decode cX9_type 68 = .ok (.getfield 127, 3) := by decide +kernel
theorem dX9_type_71 : decode cX9_type 71 = .ok (.ifCond .le 5, 3) := by decide +kernel
theorem dX9_type_74 : decode cX9_type 74 = .ok (.iconst 0, 1) := by decide +kernel
theorem dX9_type_75 : decode cX9_type 75 = .ok (.ireturn, 1) := by decide +kernel
theorem dX9_type_76 : decode cX9_type 76 = .ok (.aload_n 0, 1) := by decide +kernel
theorem dX9_type_77 : decode cX9_type 77 = .ok (.getfield 7, 3) := by decide +kernel
theorem dX9_type_80 : decode cX9_type 80 = .ok (.aload_n 0, 1) := by decide +kernel
theorem dX9_type_81 : decode cX9_type 81 = .ok (.getfield 124, 3) := by decide +kernel
theorem dX9_type_84 : decode cX9_type 84 = .ok (.iload_n 1, 1) := by decide +kernel
theorem dX9_type_85 : decode cX9_type 85 = .ok (.iastore, 1) := by decide +kernel
theorem dX9_type_86 : decode cX9_type 86 = .ok (.aload_n 0, 1) := by decide +kernel
theorem dX9_type_87 : decode cX9_type 87 = .ok (.getfield 13, 3) := by decide +kernel
theorem dX9_type_90 : decode cX9_type 90 = .ok (.iload_n 1, 1) := by decide +kernel
theorem dX9_type_91 : decode cX9_type 91 = .ok (.iaload, 1) := by decide +kernel
theorem dX9_type_92 : decode cX9_type 92 = .ok (.istore 5, 2) := by decide +kernel
theorem dX9_type_94 : decode cX9_type 94 = .ok (.iconst 0, 1) := by decide +kernel
theorem dX9_type_95 : decode cX9_type 95 = .ok (.istore 6, 2) := by decide +kernel
theorem dX9_type_97 : decode cX9_type 97 = .ok (.iload 6, 2) := by decide +kernel
theorem dX9_type_99 : decode cX9_type 99 = .ok (.iload 5, 2) := by decide +kernel
theorem dX9_type_101 : decode cX9_type 101 = .ok (.if_icmp .ge 36, 3) := by decide +kernel
theorem dX9_type_104 : decode cX9_type 104 = .ok (.aload_n 0, 1) := by decide +kernel
theorem dX9_type_105 : decode cX9_type 105 = .ok (.getfield 16, 3) := by decide +kernel
theorem dX9_type_108 : decode cX9_type 108 = .ok (.bipush 8, 2) := by decide +kernel
theorem dX9_type_110 : decode cX9_type 110 = .ok (.aload_n 0, 1) := by decide +kernel
theorem dX9_type_111 : decode cX9_type 111 = .ok (.getfield 124, 3) := by decide +kernel
theorem dX9_type_114 : decode cX9_type 114 = .ok (.imul, 1) := by decide +kernel
theorem dX9_type_115 : decode cX9_type 115 = .ok (.iload 6, 2) := by decide +kernel
theorem dX9_type_117 : decode cX9_type 117 = .ok (.iadd, 1) := by decide +kernel
theorem dX9_type_118 : decode cX9_type 118 = .ok (.aload_n 0, 1) := by decide +kernel
theorem dX9_type_119 : decode cX9_type 119 = .ok (.getfield 16, 3) := by decide +kernel
theorem dX9_type_122 : decode cX9_type 122 = .ok (.bipush 8, 2) := by decide +kernel
theorem dX9_type_124 : decode cX9_type 124 = .ok (.iload_n 1, 1) := by decide +kernel
theorem dX9_type_125 : decode cX9_type 125 = .ok (.imul, 1) := by decide +kernel
theorem dX9_type_126 : decode cX9_type 126 = .ok (.iload 6, 2) := by decide +kernel
theorem dX9_type_128 : decode cX9_type 128 = .ok (.iadd, 1) := by decide +kernel
theorem dX9_type_129 : decode cX9_type 129 = .ok (.iaload, 1) := by decide +kernel
theorem dX9_type_130 : decode cX9_type 130 = .ok (.iastore, 1) := by decide +kernel
theorem dX9_type_131 : decode cX9_type 131 = .ok (.iinc 6 1, 3) := by decide +kernel
theorem dX9_type_134 : decode cX9_type 134 = .ok (.goto (-37), 3) := by decide +kernel
theorem dX9_type_137 : decode cX9_type 137 = .ok (.iconst 0, 1) := by decide +kernel
theorem dX9_type_138 : decode cX9_type 138 = .ok (.istore 6, 2) := by decide +kernel
theorem dX9_type_140 : decode cX9_type 140 = .ok (.iload 6, 2) := by decide +kernel
theorem dX9_type_142 : decode cX9_type 142 = .ok (.iload_n 2, 1) := by decide +kernel
theorem dX9_type_143 : decode cX9_type 143 = .ok (.if_icmp .ge 42, 3) := by decide +kernel
theorem dX9_type_146 : decode cX9_type 146 = .ok (.aload_n 0, 1) := by decide +kernel
theorem dX9_type_147 : decode cX9_type 147 = .ok (.getfield 16, 3) := by decide +kernel
theorem dX9_type_150 : decode cX9_type 150 = .ok (.bipush 8, 2) := by decide +kernel
theorem dX9_type_152 : decode cX9_type 152 = .ok (.aload_n 0, 1) := by decide +kernel
theorem dX9_type_153 : decode cX9_type 153 = .ok (.getfield 124, 3) := by decide +kernel
theorem dX9_type_156 : decode cX9_type 156 = .ok (.imul, 1) := by decide +kernel
theorem dX9_type_157 : decode cX9_type 157 = .ok (.iload 5, 2) := by decide +kernel
theorem dX9_type_159 : decode cX9_type 159 = .ok (.iadd, 1) := by decide +kernel
theorem dX9_type_160 : decode cX9_type 160 = .ok (.iload 6, 2) := by decide +kernel
theorem dX9_type_162 : decode cX9_type 162 = .ok (.iadd, 1) := by decide +kernel
theorem dX9_type_163 : decode cX9_type 163 = .ok (.iload_n 3, 1) := by decide +kernel
theorem dX9_type_164 : decode cX9_type 164 = .ok (.iload 6, 2) := by decide +kernel
theorem dX9_type_166 : decode cX9_type 166 = .ok (.ishr, 1) := by decide +kernel
theorem dX9_type_167 : decode cX9_type 167 = .ok (.iconst 1, 1) := by decide +kernel
theorem dX9_type_168 : decode cX9_type 168 = .ok (.iand, 1) := by decide +kernel
theorem dX9_type_169 : decode cX9_type 169 = .ok (.iconst 1, 1) := by decide +kernel
theorem dX9_type_170 : decode cX9_type 170 = .ok (.if_icmp .ne 7, 3) := by decide +kernel
theorem dX9_type_173 : decode cX9_type 173 = .ok (.iconst 3, 1) := by decide +kernel
theorem dX9_type_174 : decode cX9_type 174 = .ok (.goto 4, 3) := by decide +kernel
theorem dX9_type_177 : decode cX9_type 177 = .ok (.iconst 1, 1) := by decide +kernel
theorem dX9_type_178 : decode cX9_type 178 = .ok (.iastore, 1) := by decide +kernel
theorem dX9_type_179 : decode cX9_type 179 = .ok (.iinc 6 1, 3) := by decide +kernel
theorem dX9_type_182 : decode cX9_type 182 = .ok (.goto (-42), 3) := by decide +kernel
theorem dX9_type_185 : decode cX9_type 185 = .ok (.aload_n 0, 1) := by decide +kernel
theorem dX9_type_186 : decode cX9_type 186 = .ok (.getfield 13, 3) := by decide +kernel
theorem dX9_type_189 : decode cX9_type 189 = .ok (.aload_n 0, 1) := by decide +kernel
theorem dX9_type_190 : decode cX9_type 190 = .ok (.getfield 124, 3) := by decide +kernel
theorem dX9_type_193 : decode cX9_type 193 = .ok (.iload 5, 2) := by decide +kernel
theorem dX9_type_195 : decode cX9_type 195 = .ok (.iload_n 2, 1) := by decide +kernel
theorem dX9_type_196 : decode cX9_type 196 = .ok (.iadd, 1) := by decide +kernel
theorem dX9_type_197 : decode cX9_type 197 = .ok (.iastore, 1) := by decide +kernel
theorem dX9_type_198 : decode cX9_type 198 = .ok (.aload_n 0, 1) := by decide +kernel
theorem dX9_type_199 : decode cX9_type 199 = .ok (.dup, 1) := by decide +kernel
theorem dX9_type_200 : decode cX9_type 200 = .ok (.getfield 124, 3) := by decide +kernel
theorem dX9_type_203 : decode cX9_type 203 = .ok (.iconst 1, 1) := by decide +kernel
theorem dX9_type_204 : decode cX9_type 204 = .ok (.iadd, 1) := by decide +kernel
theorem dX9_type_205 : decode cX9_type 205 = .ok (.putfield 124, 3) := by decide +kernel
theorem dX9_type_208 : decode cX9_type 208 = .ok (.aload_n 0, 1) := by decide +kernel
theorem dX9_type_209 : decode cX9_type 209 = .ok (.getfield 124, 3) := by decide +kernel
theorem dX9_type_212 : decode cX9_type 212 = .ok (.iconst 1, 1) := by decide +kernel
theorem dX9_type_213 : decode cX9_type 213 = .ok (.isub, 1) := by decide +kernel
theorem dX9_type_214 : decode cX9_type 214 = .ok (.ireturn, 1) := by decide +kernel
theorem dX9_handler_0 : decode cX9_handler 0 = .ok (.iload_n 1, 1) := by decide +kernel
theorem dX9_handler_1 : decode cX9_handler 1 = .ok (.ifCond .lt 51, 3) := by decide +kernel
theorem dX9_handler_4 : decode cX9_handler 4 = .ok (.iload_n 1, 1) := by decide +kernel
theorem dX9_handler_5 : decode cX9_handler 5 = .ok (.sipush 200, 3) := by decide +kernel
theorem dX9_handler_8 : decode cX9_handler 8 = .ok (.if_icmp .gt 44, 3) := by decide +kernel
theorem dX9_handler_11 : decode cX9_handler 11 = .ok (.iload_n 2, 1) := by decide +kernel
theorem dX9_handler_12 : decode cX9_handler 12 = .ok (.iload_n 1, 1) := by decide +kernel
theorem dX9_handler_13 : decode cX9_handler 13 = .ok (.if_icmp .le 39, 3) := by decide +kernel
theorem dX9_handler_16 : decode cX9_handler 16 = .ok (.iload_n 2, 1) := by decide +kernel
theorem dX9_handler_17 : decode cX9_handler 17 = .ok (.sipush 200, 3) := by decide +kernel
theorem dX9_handler_20 : decode cX9_handler 20 = .ok (.if_icmp .gt 32, 3) := by decide +kernel
theorem dX9_handler_23 : decode cX9_handler 23 = .ok (.iload_n 3, 1) := by decide +kernel
theorem dX9_handler_24 : decode cX9_handler 24 = .ok (.ifCond .lt 28, 3) := by decide +kernel
theorem dX9_handler_27 : decode cX9_handler 27 = .ok (.iload_n 3, 1) := by decide +kernel
theorem dX9_handler_28 : decode cX9_handler 28 = .ok (.sipush 200, 3) := by decide +kernel
theorem dX9_handler_31 : decode cX9_handler 31 = .ok (.if_icmp .gt 21, 3) := by decide +kernel
theorem dX9_handler_34 : decode cX9_handler 34 = .ok (.iload 4, 2) := by decide +kernel
theorem dX9_handler_36 : decode cX9_handler 36 = .ok (.ifCond .lt 16, 3) := by decide +kernel
theorem dX9_handler_39 : decode cX9_handler 39 = .ok (.iload 4, 2) := by decide +kernel
theorem dX9_handler_41 : decode cX9_handler 41 = .ok (.aload_n 0, 1) := by decide +kernel
theorem dX9_handler_42 : decode cX9_handler 42 = .ok (.getfield 124, 3) := by decide +kernel
theorem dX9_handler_45 : decode cX9_handler 45 = .ok (.if_icmp .ge 7, 3) := by decide +kernel
theorem dX9_handler_48 : decode cX9_handler 48 = .ok (.iconst 1, 1) := by decide +kernel
theorem dX9_handler_49 : decode cX9_handler 49 = .ok (.goto 4, 3) := by decide +kernel
theorem dX9_handler_52 : decode cX9_handler 52 = .ok (.iconst 0, 1) := by decide +kernel
theorem dX9_handler_53 : decode cX9_handler 53 = .ok (.istore 5, 2) := by decide +kernel
theorem dX9_handler_55 : decode cX9_handler 55 = .ok (.aload_n 0, 1) := by decide +kernel
theorem dX9_handler_56 : decode cX9_handler 56 = .ok (.iload 5, 2) := by decide +kernel
theorem dX9_handler_58 : decode cX9_handler 58 = .ok (.ifCond .ne 7, 3) := by decide +kernel
theorem dX9_handler_61 : decode cX9_handler 61 = .ok (.iconst 1, 1) := by decide +kernel
theorem dX9_handler_62 : decode cX9_handler 62 = .ok (.goto 17, 3) := by decide +kernel
theorem dX9_handler_65 : decode cX9_handler 65 = .ok (.aload_n 0, 1) := by decide +kernel
theorem dX9_handler_66 : decode cX9_handler 66 = .ok (.getfield 133, 3) := by decide +kernel
theorem dX9_handler_69 : decode cX9_handler 69 = .ok (.bipush 8, 2) := by decide +kernel
theorem dX9_handler_71 : decode cX9_handler 71 = .ok (.if_icmp .ne 7, 3) := by decide +kernel
theorem dX9_handler_74 : decode cX9_handler 74 = .ok (.iconst 2, 1) := by decide +kernel
theorem dX9_handler_75 : decode cX9_handler 75 = .ok (.goto 4, 3) := by decide +kernel
theorem dX9_handler_78 : decode cX9_handler 78 = .ok (.iconst 0, 1) := by decide +kernel
theorem dX9_handler_79 : decode cX9_handler 79 = .ok (.putfield 127, 3) := by decide +kernel
theorem dX9_handler_82 : decode cX9_handler 82 = .ok (.aload_n 0, 1) := by decide +kernel
theorem dX9_handler_83 : decode cX9_handler 83 = .ok (.getfield 127, 3) := by decide +kernel
theorem dX9_handler_86 : decode cX9_handler 86 = .ok (.ifCond .le 5, 3) := by decide +kernel
theorem dX9_handler_89 : decode cX9_handler 89 = .ok (.iconst 0, 1) := by decide +kernel
theorem dX9_handler_90 : decode cX9_handler 90 = .ok (.ireturn, 1) := by decide +kernel
theorem dX9_handler_91 : decode cX9_handler 91 = .ok (.aload_n 0, 1) := by decide +kernel
theorem dX9_handler_92 : decode cX9_handler 92 = .ok (.getfield 22, 3) := by decide +kernel
theorem dX9_handler_95 : decode cX9_handler 95 = .ok (.iconst 4, 1) := by decide +kernel
theorem dX9_handler_96 : decode cX9_handler 96 = .ok (.aload_n 0, 1) := by decide +kernel
theorem dX9_handler_97 : decode cX9_handler 97 = .ok (.getfield 133, 3) := by decide +kernel
theorem dX9_handler_100 : decode cX9_handler 100 = .ok (.imul, 1) := by decide +kernel
theorem dX9_handler_101 : decode cX9_handler 101 = .ok (.iload_n 1, 1) := by decide +kernel
theorem dX9_handler_102 : decode cX9_handler 102 = .ok (.iastore, 1) := by decide +kernel
theorem dX9_handler_103 : decode cX9_handler 103 = .ok (.aload_n 0, 1) := by decide +kernel
theorem dX9_handler_104 : decode cX9_handler 104 = .ok (.getfield 22, 3) := by decide +kernel
theorem dX9_handler_107 : decode cX9_handler 107 = .ok (.iconst 4, 1) := by decide +kernel
theorem dX9_handler_108 : decode cX9_handler 108 = .ok (.aload_n 0, 1) := by decide +kernel
theorem dX9_handler_109 : decode cX9_handler 109 = .ok (.getfield 133, 3) := by decide +kernel
theorem dX9_handler_112 : decode cX9_handler 112 = .ok (.imul, 1) := by decide +kernel
theorem dX9_handler_113 : decode cX9_handler 113 = .ok (.iconst 1, 1) := by decide +kernel
theorem dX9_handler_114 : decode cX9_handler 114 = .ok (.iadd, 1) := by decide +kernel
theorem dX9_handler_115 : decode cX9_handler 115 = .ok (.iload_n 2, 1) := by decide +kernel
theorem dX9_handler_116 : decode cX9_handler 116 = .ok (.iastore, 1) := by decide +kernel
theorem dX9_handler_117 : decode cX9_handler 117 = .ok (.aload_n 0, 1) := by decide +kernel
theorem dX9_handler_118 : decode cX9_handler 118 = .ok (.getfield 22, 3) := by decide +kernel
theorem dX9_handler_121 : decode cX9_handler 121 = .ok (.iconst 4, 1) := by decide +kernel
theorem dX9_handler_122 : decode cX9_handler 122 = .ok (.aload_n 0, 1) := by decide +kernel
theorem dX9_handler_123 : decode cX9_handler 123 = .ok (.getfield 133, 3) := by decide +kernel
theorem dX9_handler_126 : decode cX9_handler 126 = .ok (.imul, 1) := by decide +kernel
theorem dX9_handler_127 : decode cX9_handler 127 = .ok (.iconst 2, 1) := by decide +kernel
theorem dX9_handler_128 : decode cX9_handler 128 = .ok (.iadd, 1) := by decide +kernel
theorem dX9_handler_129 : decode cX9_handler 129 = .ok (.iload_n 3, 1) := by decide +kernel
theorem dX9_handler_130 : decode cX9_handler 130 = .ok (.iastore, 1) := by decide +kernel
theorem dX9_handler_131 : decode cX9_handler 131 = .ok (.aload_n 0, 1) := by decide +kernel
theorem dX9_handler_132 : decode cX9_handler 132 = .ok (.getfield 22, 3) := by decide +kernel
theorem dX9_handler_135 : decode cX9_handler 135 = .ok (.iconst 4, 1) := by decide +kernel
theorem dX9_handler_136 : decode cX9_handler 136 = .ok (.aload_n 0, 1) := by decide +kernel
theorem dX9_handler_137 : decode cX9_handler 137 = .ok (.getfield 133, 3) := by decide +kernel
theorem dX9_handler_140 : decode cX9_handler 140 = .ok (.imul, 1) := by decide +kernel
theorem dX9_handler_141 : decode cX9_handler 141 = .ok (.iconst 3, 1) := by decide +kernel
theorem dX9_handler_142 : decode cX9_handler 142 = .ok (.iadd, 1) := by decide +kernel
theorem dX9_handler_143 : decode cX9_handler 143 = .ok (.iload 4, 2) := by decide +kernel
theorem dX9_handler_145 : decode cX9_handler 145 = .ok (.iastore, 1) := by decide +kernel
theorem dX9_handler_146 : decode cX9_handler 146 = .ok (.aload_n 0, 1) := by decide +kernel
theorem dX9_handler_147 : decode cX9_handler 147 = .ok (.dup, 1) := by decide +kernel
theorem dX9_handler_148 : decode cX9_handler 148 = .ok (.getfield 133, 3) := by decide +kernel
theorem dX9_handler_151 : decode cX9_handler 151 = .ok (.iconst 1, 1) := by decide +kernel
theorem dX9_handler_152 : decode cX9_handler 152 = .ok (.iadd, 1) := by decide +kernel
theorem dX9_handler_153 : decode cX9_handler 153 = .ok (.putfield 133, 3) := by decide +kernel
theorem dX9_handler_156 : decode cX9_handler 156 = .ok (.aload_n 0, 1) := by decide +kernel
theorem dX9_handler_157 : decode cX9_handler 157 = .ok (.getfield 133, 3) := by decide +kernel
theorem dX9_handler_160 : decode cX9_handler 160 = .ok (.ireturn, 1) := by decide +kernel
theorem dX9_arrayKind_0 : decode cX9_arrayKind 0 = .ok (.iload_n 0, 1) := by decide +kernel
theorem dX9_arrayKind_1 : decode cX9_arrayKind 1 = .ok (.bipush 60, 2) := by decide +kernel
theorem dX9_arrayKind_3 : decode cX9_arrayKind 3 = .ok (.if_icmp .ge 10, 3) := by decide +kernel
theorem dX9_arrayKind_6 : decode cX9_arrayKind 6 = .ok (.iload_n 0, 1) := by decide +kernel
theorem dX9_arrayKind_7 : decode cX9_arrayKind 7 = .ok (.bipush 46, 2) := by decide +kernel
theorem dX9_arrayKind_9 : decode cX9_arrayKind 9 = .ok (.isub, 1) := by decide +kernel
theorem dX9_arrayKind_10 : decode cX9_arrayKind 10 = .ok (.goto 7, 3) := by decide +kernel
theorem dX9_arrayKind_13 : decode cX9_arrayKind 13 = .ok (.iload_n 0, 1) := by decide +kernel
theorem dX9_arrayKind_14 : decode cX9_arrayKind 14 = .ok (.bipush 79, 2) := by decide +kernel
theorem dX9_arrayKind_16 : decode cX9_arrayKind 16 = .ok (.isub, 1) := by decide +kernel
theorem dX9_arrayKind_17 : decode cX9_arrayKind 17 = .ok (.istore_n 1, 1) := by decide +kernel
theorem dX9_arrayKind_18 : decode cX9_arrayKind 18 = .ok (.iload_n 1, 1) := by decide +kernel
theorem dX9_arrayKind_19 : decode cX9_arrayKind 19 = .ok (.iconst 1, 1) := by decide +kernel
theorem dX9_arrayKind_20 : decode cX9_arrayKind 20 = .ok (.if_icmp .ne 7, 3) := by decide +kernel
theorem dX9_arrayKind_23 : decode cX9_arrayKind 23 = .ok (.iconst 2, 1) := by decide +kernel
theorem dX9_arrayKind_24 : decode cX9_arrayKind 24 = .ok (.goto 13, 3) := by decide +kernel
theorem dX9_arrayKind_27 : decode cX9_arrayKind 27 = .ok (.iload_n 1, 1) := by decide +kernel
theorem dX9_arrayKind_28 : decode cX9_arrayKind 28 = .ok (.iconst 4, 1) := by decide +kernel
theorem dX9_arrayKind_29 : decode cX9_arrayKind 29 = .ok (.if_icmp .ne 7, 3) := by decide +kernel
theorem dX9_arrayKind_32 : decode cX9_arrayKind 32 = .ok (.iconst 3, 1) := by decide +kernel
theorem dX9_arrayKind_33 : decode cX9_arrayKind 33 = .ok (.goto 4, 3) := by decide +kernel
theorem dX9_arrayKind_36 : decode cX9_arrayKind 36 = .ok (.iconst 1, 1) := by decide +kernel
theorem dX9_arrayKind_37 : decode cX9_arrayKind 37 = .ok (.ireturn, 1) := by decide +kernel
theorem dX9_code_0 : decode cX9_code 0 = .ok (.aload_n 0, 1) := by decide +kernel
theorem dX9_code_1 : decode cX9_code 1 = .ok (.getfield 46, 3) := by decide +kernel
theorem dX9_code_4 : decode cX9_code 4 = .ok (.sipush 200, 3) := by decide +kernel
theorem dX9_code_7 : decode cX9_code 7 = .ok (.iload_n 1, 1) := by decide +kernel
theorem dX9_code_8 : decode cX9_code 8 = .ok (.imul, 1) := by decide +kernel
theorem dX9_code_9 : decode cX9_code 9 = .ok (.iload_n 2, 1) := by decide +kernel
theorem dX9_code_10 : decode cX9_code 10 = .ok (.iadd, 1) := by decide +kernel
theorem dX9_code_11 : decode cX9_code 11 = .ok (.iaload, 1) := by decide +kernel
theorem dX9_code_12 : decode cX9_code 12 = .ok (.ireturn, 1) := by decide +kernel
theorem dX9_pop_0 : decode cX9_pop 0 = .ok (.aload_n 0, 1) := by decide +kernel
theorem dX9_pop_1 : decode cX9_pop 1 = .ok (.dup, 1) := by decide +kernel
theorem dX9_pop_2 : decode cX9_pop 2 = .ok (.getfield 147, 3) := by decide +kernel
theorem dX9_pop_5 : decode cX9_pop 5 = .ok (.iconst 1, 1) := by decide +kernel
theorem dX9_pop_6 : decode cX9_pop 6 = .ok (.isub, 1) := by decide +kernel
theorem dX9_pop_7 : decode cX9_pop 7 = .ok (.putfield 147, 3) := by decide +kernel
theorem dX9_pop_10 : decode cX9_pop 10 = .ok (.aload_n 0, 1) := by decide +kernel
theorem dX9_pop_11 : decode cX9_pop 11 = .ok (.aload_n 0, 1) := by decide +kernel
theorem dX9_pop_12 : decode cX9_pop 12 = .ok (.getfield 143, 3) := by decide +kernel
theorem dX9_pop_15 : decode cX9_pop 15 = .ok (.ifCond .eq 27, 3) := by decide +kernel
theorem dX9_pop_18 : decode cX9_pop 18 = .ok (.aload_n 0, 1) := by decide +kernel
theorem dX9_pop_19 : decode cX9_pop 19 = .ok (.getfield 147, 3) := by decide +kernel
theorem dX9_pop_22 : decode cX9_pop 22 = .ok (.ifCond .lt 20, 3) := by decide +kernel
theorem dX9_pop_25 : decode cX9_pop 25 = .ok (.aload_n 0, 1) := by decide +kernel
theorem dX9_pop_26 : decode cX9_pop 26 = .ok (.getfield 65, 3) := by decide +kernel
theorem dX9_pop_29 : decode cX9_pop 29 = .ok (.aload_n 0, 1) := by decide +kernel
theorem dX9_pop_30 : decode cX9_pop 30 = .ok (.getfield 147, 3) := by decide +kernel
theorem dX9_pop_33 : decode cX9_pop 33 = .ok (.iaload, 1) := by decide +kernel
theorem dX9_pop_34 : decode cX9_pop 34 = .ok (.iload_n 1, 1) := by decide +kernel
theorem dX9_pop_35 : decode cX9_pop 35 = .ok (.if_icmp .ne 7, 3) := by decide +kernel
theorem dX9_pop_38 : decode cX9_pop 38 = .ok (.iconst 1, 1) := by decide +kernel
theorem dX9_pop_39 : decode cX9_pop 39 = .ok (.goto 4, 3) := by decide +kernel
theorem dX9_pop_42 : decode cX9_pop 42 = .ok (.iconst 0, 1) := by decide +kernel
theorem dX9_pop_43 : decode cX9_pop 43 = .ok (.putfield 143, 3) := by decide +kernel
theorem dX9_pop_46 : decode cX9_pop 46 = .ok (.aload_n 0, 1) := by decide +kernel
theorem dX9_pop_47 : decode cX9_pop 47 = .ok (.aload_n 0, 1) := by decide +kernel
theorem dX9_pop_48 : decode cX9_pop 48 = .ok (.getfield 147, 3) := by decide +kernel
theorem dX9_pop_51 : decode cX9_pop 51 = .ok (.ifCond .ge 7, 3) := by decide +kernel
theorem dX9_pop_54 : decode cX9_pop 54 = .ok (.iconst 0, 1) := by decide +kernel
theorem dX9_pop_55 : decode cX9_pop 55 = .ok (.goto 7, 3) := by decide +kernel
theorem dX9_pop_58 : decode cX9_pop 58 = .ok (.aload_n 0, 1) := by decide +kernel
theorem dX9_pop_59 : decode cX9_pop 59 = .ok (.getfield 147, 3) := by decide +kernel
theorem dX9_pop_62 : decode cX9_pop 62 = .ok (.putfield 147, 3) := by decide +kernel
theorem dX9_pop_65 : decode cX9_pop 65 = .ok (.return_, 1) := by decide +kernel
theorem dX9_judgeBranch_0 : decode cX9_judgeBranch 0 = .ok (.iload_n 1, 1) := by decide +kernel
theorem dX9_judgeBranch_1 : decode cX9_judgeBranch 1 = .ok (.sipush 153, 3) := by decide +kernel
theorem dX9_judgeBranch_4 : decode cX9_judgeBranch 4 = .ok (.if_icmp .lt 15, 3) := by decide +kernel
theorem dX9_judgeBranch_7 : decode cX9_judgeBranch 7 = .ok (.iload_n 1, 1) := by decide +kernel
theorem dX9_judgeBranch_8 : decode cX9_judgeBranch 8 = .ok (.sipush 164, 3) := by decide +kernel
theorem dX9_judgeBranch_11 : decode cX9_judgeBranch 11 = .ok (.if_icmp .gt 8, 3) := by decide +kernel
theorem dX9_judgeBranch_14 : decode cX9_judgeBranch 14 = .ok (.aload_n 0, 1) := by decide +kernel
theorem dX9_judgeBranch_15 : decode cX9_judgeBranch 15 = .ok (.iconst 1, 1) := by decide +kernel
theorem dX9_judgeBranch_16 : decode cX9_judgeBranch 16 = .ok (.invokevirtual 182, 3) := by decide +kernel
theorem dX9_judgeBranch_19 : decode cX9_judgeBranch 19 = .ok (.iload_n 1, 1) := by decide +kernel
theorem dX9_judgeBranch_20 : decode cX9_judgeBranch 20 = .ok (.sipush 159, 3) := by decide +kernel
theorem dX9_judgeBranch_23 : decode cX9_judgeBranch 23 = .ok (.if_icmp .lt 15, 3) := by decide +kernel
theorem dX9_judgeBranch_26 : decode cX9_judgeBranch 26 = .ok (.iload_n 1, 1) := by decide +kernel
theorem dX9_judgeBranch_27 : decode cX9_judgeBranch 27 = .ok (.sipush 164, 3) := by decide +kernel
theorem dX9_judgeBranch_30 : decode cX9_judgeBranch 30 = .ok (.if_icmp .gt 8, 3) := by decide +kernel
theorem dX9_judgeBranch_33 : decode cX9_judgeBranch 33 = .ok (.aload_n 0, 1) := by decide +kernel
theorem dX9_judgeBranch_34 : decode cX9_judgeBranch 34 = .ok (.iconst 1, 1) := by decide +kernel
theorem dX9_judgeBranch_35 : decode cX9_judgeBranch 35 = .ok (.invokevirtual 182, 3) := by decide +kernel
theorem dX9_judgeBranch_38 : decode cX9_judgeBranch 38 = .ok (.iload_n 1, 1) := by decide +kernel
theorem dX9_judgeBranch_39 : decode cX9_judgeBranch 39 = .ok (.sipush 165, 3) := by decide +kernel
theorem dX9_judgeBranch_42 : decode cX9_judgeBranch 42 = .ok (.if_icmp .eq 17, 3) := by decide +kernel
theorem dX9_judgeBranch_45 : decode cX9_judgeBranch 45 = .ok (.iload_n 1, 1) := by decide +kernel
theorem dX9_judgeBranch_46 : decode cX9_judgeBranch 46 = .ok (.sipush 166, 3) := by decide +kernel
theorem dX9_judgeBranch_49 : decode cX9_judgeBranch 49 = .ok (.if_icmp .eq 10, 3) := by decide +kernel
theorem dX9_judgeBranch_52 : decode cX9_judgeBranch 52 = .ok (.iload_n 1, 1) := by decide +kernel
theorem dX9_judgeBranch_53 : decode cX9_judgeBranch 53 = .ok (.sipush 197, 3) := by decide +kernel
theorem dX9_judgeBranch_56 : decode cX9_judgeBranch 56 = .ok (.if_icmp .le 8, 3) := by decide +kernel
theorem dX9_judgeBranch_59 : decode cX9_judgeBranch 59 = .ok (.aload_n 0, 1) := by decide +kernel
theorem dX9_judgeBranch_60 : decode cX9_judgeBranch 60 = .ok (.iconst 3, 1) := by decide +kernel
theorem dX9_judgeBranch_61 : decode cX9_judgeBranch 61 = .ok (.invokevirtual 182, 3) := by decide +kernel
theorem dX9_judgeBranch_64 : decode cX9_judgeBranch 64 = .ok (.iload_n 1, 1) := by decide +kernel
theorem dX9_judgeBranch_65 : decode cX9_judgeBranch 65 = .ok (.sipush 165, 3) := by decide +kernel
theorem dX9_judgeBranch_68 : decode cX9_judgeBranch 68 = .ok (.if_icmp .eq 10, 3) := by decide +kernel
theorem dX9_judgeBranch_71 : decode cX9_judgeBranch 71 = .ok (.iload_n 1, 1) := by decide +kernel
theorem dX9_judgeBranch_72 : decode cX9_judgeBranch 72 = .ok (.sipush 166, 3) := by decide +kernel
theorem dX9_judgeBranch_75 : decode cX9_judgeBranch 75 = .ok (.if_icmp .ne 8, 3) := by decide +kernel
theorem dX9_judgeBranch_78 : decode cX9_judgeBranch 78 = .ok (.aload_n 0, 1) := by decide +kernel
theorem dX9_judgeBranch_79 : decode cX9_judgeBranch 79 = .ok (.iconst 3, 1) := by decide +kernel
theorem dX9_judgeBranch_80 : decode cX9_judgeBranch 80 = .ok (.invokevirtual 182, 3) := by decide +kernel
theorem dX9_judgeBranch_83 : decode cX9_judgeBranch 83 = .ok (.return_, 1) := by decide +kernel
theorem dX9_push_0 : decode cX9_push 0 = .ok (.aload_n 0, 1) := by decide +kernel
theorem dX9_push_1 : decode cX9_push 1 = .ok (.aload_n 0, 1) := by decide +kernel
theorem dX9_push_2 : decode cX9_push 2 = .ok (.getfield 143, 3) := by decide +kernel
theorem dX9_push_5 : decode cX9_push 5 = .ok (.ifCond .eq 20, 3) := by decide +kernel
theorem dX9_push_8 : decode cX9_push 8 = .ok (.aload_n 0, 1) := by decide +kernel
theorem dX9_push_9 : decode cX9_push 9 = .ok (.getfield 147, 3) := by decide +kernel
theorem dX9_push_12 : decode cX9_push 12 = .ok (.aload_n 0, 1) := by decide +kernel
theorem dX9_push_13 : decode cX9_push 13 = .ok (.getfield 40, 3) := by decide +kernel
theorem dX9_push_16 : decode cX9_push 16 = .ok (.iload_n 1, 1) := by decide +kernel
theorem dX9_push_17 : decode cX9_push 17 = .ok (.iaload, 1) := by decide +kernel
theorem dX9_push_18 : decode cX9_push 18 = .ok (.if_icmp .ge 7, 3) := by decide +kernel
theorem dX9_push_21 : decode cX9_push 21 = .ok (.iconst 1, 1) := by decide +kernel
theorem dX9_push_22 : decode cX9_push 22 = .ok (.goto 4, 3) := by decide +kernel
theorem dX9_push_25 : decode cX9_push 25 = .ok (.iconst 0, 1) := by decide +kernel
theorem dX9_push_26 : decode cX9_push 26 = .ok (.putfield 143, 3) := by decide +kernel
theorem dX9_push_29 : decode cX9_push 29 = .ok (.aload_n 0, 1) := by decide +kernel
theorem dX9_push_30 : decode cX9_push 30 = .ok (.getfield 143, 3) := by decide +kernel
theorem dX9_push_33 : decode cX9_push 33 = .ok (.ifCond .eq 23, 3) := by decide +kernel
theorem dX9_push_36 : decode cX9_push 36 = .ok (.aload_n 0, 1) := by decide +kernel
theorem dX9_push_37 : decode cX9_push 37 = .ok (.getfield 65, 3) := by decide +kernel
theorem dX9_push_40 : decode cX9_push 40 = .ok (.aload_n 0, 1) := by decide +kernel
theorem dX9_push_41 : decode cX9_push 41 = .ok (.getfield 147, 3) := by decide +kernel
theorem dX9_push_44 : decode cX9_push 44 = .ok (.iload_n 2, 1) := by decide +kernel
theorem dX9_push_45 : decode cX9_push 45 = .ok (.iastore, 1) := by decide +kernel
theorem dX9_push_46 : decode cX9_push 46 = .ok (.aload_n 0, 1) := by decide +kernel
theorem dX9_push_47 : decode cX9_push 47 = .ok (.dup, 1) := by decide +kernel
theorem dX9_push_48 : decode cX9_push 48 = .ok (.getfield 147, 3) := by decide +kernel
theorem dX9_push_51 : decode cX9_push 51 = .ok (.iconst 1, 1) := by decide +kernel
theorem dX9_push_52 : decode cX9_push 52 = .ok (.iadd, 1) := by decide +kernel
theorem dX9_push_53 : decode cX9_push 53 = .ok (.putfield 147, 3) := by decide +kernel
theorem dX9_push_56 : decode cX9_push 56 = .ok (.return_, 1) := by decide +kernel
theorem dX9_judgeLoad_0 : decode cX9_judgeLoad 0 = .ok (.iload_n 2, 1) := by decide +kernel
theorem dX9_judgeLoad_1 : decode cX9_judgeLoad 1 = .ok (.bipush 21, 2) := by decide +kernel
theorem dX9_judgeLoad_3 : decode cX9_judgeLoad 3 = .ok (.if_icmp .ge 35, 3) := by decide +kernel
theorem dX9_judgeLoad_6 : decode cX9_judgeLoad 6 = .ok (.aload_n 0, 1) := by decide +kernel
theorem dX9_judgeLoad_7 : decode cX9_judgeLoad 7 = .ok (.iload_n 1, 1) := by decide +kernel
theorem dX9_judgeLoad_8 : decode cX9_judgeLoad 8 = .ok (.iload_n 2, 1) := by decide +kernel
theorem dX9_judgeLoad_9 : decode cX9_judgeLoad 9 = .ok (.iconst 1, 1) := by decide +kernel
theorem dX9_judgeLoad_10 : decode cX9_judgeLoad 10 = .ok (.if_icmp .ne 7, 3) := by decide +kernel
theorem dX9_judgeLoad_13 : decode cX9_judgeLoad 13 = .ok (.iconst 3, 1) := by decide +kernel
theorem dX9_judgeLoad_14 : decode cX9_judgeLoad 14 = .ok (.goto 20, 3) := by decide +kernel
theorem dX9_judgeLoad_17 : decode cX9_judgeLoad 17 = .ok (.iload_n 2, 1) := by decide +kernel
theorem dX9_judgeLoad_18 : decode cX9_judgeLoad 18 = .ok (.bipush 9, 2) := by decide +kernel
theorem dX9_judgeLoad_20 : decode cX9_judgeLoad 20 = .ok (.if_icmp .eq 9, 3) := by decide +kernel
theorem dX9_judgeLoad_23 : decode cX9_judgeLoad 23 = .ok (.iload_n 2, 1) := by decide +kernel
theorem dX9_judgeLoad_24 : decode cX9_judgeLoad 24 = .ok (.bipush 10, 2) := by decide +kernel
theorem dX9_judgeLoad_26 : decode cX9_judgeLoad 26 = .ok (.if_icmp .ne 7, 3) := by decide +kernel
theorem dX9_judgeLoad_29 : decode cX9_judgeLoad 29 = .ok (.iconst 2, 1) := by decide +kernel
theorem dX9_judgeLoad_30 : decode cX9_judgeLoad 30 = .ok (.goto 4, 3) := by decide +kernel
theorem dX9_judgeLoad_33 : decode cX9_judgeLoad 33 = .ok (.iconst 1, 1) := by decide +kernel
theorem dX9_judgeLoad_34 : decode cX9_judgeLoad 34 = .ok (.invokevirtual 172, 3) := by decide +kernel
theorem dX9_judgeLoad_37 : decode cX9_judgeLoad 37 = .ok (.return_, 1) := by decide +kernel
theorem dX9_judgeLoad_38 : decode cX9_judgeLoad 38 = .ok (.iload_n 2, 1) := by decide +kernel
theorem dX9_judgeLoad_39 : decode cX9_judgeLoad 39 = .ok (.bipush 21, 2) := by decide +kernel
theorem dX9_judgeLoad_41 : decode cX9_judgeLoad 41 = .ok (.if_icmp .ne 7, 3) := by decide +kernel
theorem dX9_judgeLoad_44 : decode cX9_judgeLoad 44 = .ok (.iconst 1, 1) := by decide +kernel
theorem dX9_judgeLoad_45 : decode cX9_judgeLoad 45 = .ok (.goto 14, 3) := by decide +kernel
theorem dX9_judgeLoad_48 : decode cX9_judgeLoad 48 = .ok (.iload_n 2, 1) := by decide +kernel
theorem dX9_judgeLoad_49 : decode cX9_judgeLoad 49 = .ok (.bipush 22, 2) := by decide +kernel
theorem dX9_judgeLoad_51 : decode cX9_judgeLoad 51 = .ok (.if_icmp .ne 7, 3) := by decide +kernel
theorem dX9_judgeLoad_54 : decode cX9_judgeLoad 54 = .ok (.iconst 2, 1) := by decide +kernel
theorem dX9_judgeLoad_55 : decode cX9_judgeLoad 55 = .ok (.goto 4, 3) := by decide +kernel
theorem dX9_judgeLoad_58 : decode cX9_judgeLoad 58 = .ok (.iconst 3, 1) := by decide +kernel
theorem dX9_judgeLoad_59 : decode cX9_judgeLoad 59 = .ok (.istore 4, 2) := by decide +kernel
theorem dX9_judgeLoad_61 : decode cX9_judgeLoad 61 = .ok (.aload_n 0, 1) := by decide +kernel
theorem dX9_judgeLoad_62 : decode cX9_judgeLoad 62 = .ok (.aload_n 0, 1) := by decide +kernel
theorem dX9_judgeLoad_63 : decode cX9_judgeLoad 63 = .ok (.getfield 143, 3) := by decide +kernel
theorem dX9_judgeLoad_66 : decode cX9_judgeLoad 66 = .ok (.ifCond .eq 28, 3) := by decide +kernel
theorem dX9_judgeLoad_69 : decode cX9_judgeLoad 69 = .ok (.iload_n 3, 1) := by decide +kernel
theorem dX9_judgeLoad_70 : decode cX9_judgeLoad 70 = .ok (.aload_n 0, 1) := by decide +kernel
theorem dX9_judgeLoad_71 : decode cX9_judgeLoad 71 = .ok (.getfield 37, 3) := by decide +kernel
theorem dX9_judgeLoad_74 : decode cX9_judgeLoad 74 = .ok (.iload_n 1, 1) := by decide +kernel
theorem dX9_judgeLoad_75 : decode cX9_judgeLoad 75 = .ok (.iaload, 1) := by decide +kernel
theorem dX9_judgeLoad_76 : decode cX9_judgeLoad 76 = .ok (.if_icmp .ge 18, 3) := by decide +kernel
theorem dX9_judgeLoad_79 : decode cX9_judgeLoad 79 = .ok (.aload_n 0, 1) := by decide +kernel
theorem dX9_judgeLoad_80 : decode cX9_judgeLoad 80 = .ok (.getfield 68, 3) := by decide +kernel
theorem dX9_judgeLoad_83 : decode cX9_judgeLoad 83 = .ok (.iload_n 3, 1) := by decide +kernel
theorem dX9_judgeLoad_84 : decode cX9_judgeLoad 84 = .ok (.iaload, 1) := by decide +kernel
theorem dX9_judgeLoad_85 : decode cX9_judgeLoad 85 = .ok (.iload 4, 2) := by decide +kernel
theorem dX9_judgeLoad_87 : decode cX9_judgeLoad 87 = .ok (.if_icmp .ne 7, 3) := by decide +kernel
theorem dX9_judgeLoad_90 : decode cX9_judgeLoad 90 = .ok (.iconst 1, 1) := by decide +kernel
theorem dX9_judgeLoad_91 : decode cX9_judgeLoad 91 = .ok (.goto 4, 3) := by decide +kernel
theorem dX9_judgeLoad_94 : decode cX9_judgeLoad 94 = .ok (.iconst 0, 1) := by decide +kernel
theorem dX9_judgeLoad_95 : decode cX9_judgeLoad 95 = .ok (.putfield 143, 3) := by decide +kernel
theorem dX9_judgeLoad_98 : decode cX9_judgeLoad 98 = .ok (.aload_n 0, 1) := by decide +kernel
theorem dX9_judgeLoad_99 : decode cX9_judgeLoad 99 = .ok (.iload_n 1, 1) := by decide +kernel
theorem dX9_judgeLoad_100 : decode cX9_judgeLoad 100 = .ok (.iload 4, 2) := by decide +kernel
theorem dX9_judgeLoad_102 : decode cX9_judgeLoad 102 = .ok (.invokevirtual 172, 3) := by decide +kernel
theorem dX9_judgeLoad_105 : decode cX9_judgeLoad 105 = .ok (.return_, 1) := by decide +kernel
theorem dX9_judgeReckoning_0 : decode cX9_judgeReckoning 0 = .ok (.iload_n 2, 1) := by decide +kernel
theorem dX9_judgeReckoning_1 : decode cX9_judgeReckoning 1 = .ok (.sipush 132, 3) := by decide +kernel
theorem dX9_judgeReckoning_4 : decode cX9_judgeReckoning 4 = .ok (.if_icmp .ne 42, 3) := by decide +kernel
theorem dX9_judgeReckoning_7 : decode cX9_judgeReckoning 7 = .ok (.aload_n 0, 1) := by decide +kernel
theorem dX9_judgeReckoning_8 : decode cX9_judgeReckoning 8 = .ok (.aload_n 0, 1) := by decide +kernel
theorem dX9_judgeReckoning_9 : decode cX9_judgeReckoning 9 = .ok (.getfield 143, 3) := by decide +kernel
theorem dX9_judgeReckoning_12 : decode cX9_judgeReckoning 12 = .ok (.ifCond .eq 27, 3) := by decide +kernel
theorem dX9_judgeReckoning_15 : decode cX9_judgeReckoning 15 = .ok (.iload_n 3, 1) := by decide +kernel
theorem dX9_judgeReckoning_16 : decode cX9_judgeReckoning 16 = .ok (.aload_n 0, 1) := by decide +kernel
theorem dX9_judgeReckoning_17 : decode cX9_judgeReckoning 17 = .ok (.getfield 37, 3) := by decide +kernel
theorem dX9_judgeReckoning_20 : decode cX9_judgeReckoning 20 = .ok (.iload_n 1, 1) := by decide +kernel
theorem dX9_judgeReckoning_21 : decode cX9_judgeReckoning 21 = .ok (.iaload, 1) := by decide +kernel
theorem dX9_judgeReckoning_22 : decode cX9_judgeReckoning 22 = .ok (.if_icmp .ge 17, 3) := by decide +kernel
theorem dX9_judgeReckoning_25 : decode cX9_judgeReckoning 25 = .ok (.aload_n 0, 1) := by decide +kernel
theorem dX9_judgeReckoning_26 : decode cX9_judgeReckoning 26 = .ok (.getfield 68, 3) := by decide +kernel
theorem dX9_judgeReckoning_29 : decode cX9_judgeReckoning 29 = .ok (.iload_n 3, 1) := by decide +kernel
theorem dX9_judgeReckoning_30 : decode cX9_judgeReckoning 30 = .ok (.iaload, 1) := by decide +kernel
theorem dX9_judgeReckoning_31 : decode cX9_judgeReckoning 31 = .ok (.iconst 1, 1) := by decide +kernel
theorem dX9_judgeReckoning_32 : decode cX9_judgeReckoning 32 = .ok (.if_icmp .ne 7, 3) := by decide +kernel
theorem dX9_judgeReckoning_35 : decode cX9_judgeReckoning 35 = .ok (.iconst 1, 1) := by decide +kernel
theorem dX9_judgeReckoning_36 : decode cX9_judgeReckoning 36 = .ok (.goto 4, 3) := by decide +kernel
theorem dX9_judgeReckoning_39 : decode cX9_judgeReckoning 39 = .ok (.iconst 0, 1) := by decide +kernel
theorem dX9_judgeReckoning_40 : decode cX9_judgeReckoning 40 = .ok (.putfield 143, 3) := by decide +kernel
theorem dX9_judgeReckoning_43 : decode cX9_judgeReckoning 43 = .ok (.goto 164, 3) := by decide +kernel
theorem dX9_judgeReckoning_46 : decode cX9_judgeReckoning 46 = .ok (.iload_n 2, 1) := by decide +kernel
theorem dX9_judgeReckoning_47 : decode cX9_judgeReckoning 47 = .ok (.sipush 133, 3) := by decide +kernel
theorem dX9_judgeReckoning_50 : decode cX9_judgeReckoning 50 = .ok (.if_icmp .ne 17, 3) := by decide +kernel
theorem dX9_judgeReckoning_53 : decode cX9_judgeReckoning 53 = .ok (.aload_n 0, 1) := by decide +kernel
theorem dX9_judgeReckoning_54 : decode cX9_judgeReckoning 54 = .ok (.iconst 1, 1) := by decide +kernel
theorem dX9_judgeReckoning_55 : decode cX9_judgeReckoning 55 = .ok (.invokevirtual 182, 3) := by decide +kernel
theorem dX9_judgeReckoning_58 : decode cX9_judgeReckoning 58 = .ok (.aload_n 0, 1) := by decide +kernel
theorem dX9_judgeReckoning_59 : decode cX9_judgeReckoning 59 = .ok (.iload_n 1, 1) := by decide +kernel
theorem dX9_judgeReckoning_60 : decode cX9_judgeReckoning 60 = .ok (.iconst 2, 1) := by decide +kernel
theorem dX9_judgeReckoning_61 : decode cX9_judgeReckoning 61 = .ok (.invokevirtual 172, 3) := by decide +kernel
theorem dX9_judgeReckoning_64 : decode cX9_judgeReckoning 64 = .ok (.goto 143, 3) := by decide +kernel
theorem dX9_judgeReckoning_67 : decode cX9_judgeReckoning 67 = .ok (.iload_n 2, 1) := by decide +kernel
theorem dX9_judgeReckoning_68 : decode cX9_judgeReckoning 68 = .ok (.sipush 136, 3) := by decide +kernel
theorem dX9_judgeReckoning_71 : decode cX9_judgeReckoning 71 = .ok (.if_icmp .ne 17, 3) := by decide +kernel
theorem dX9_judgeReckoning_74 : decode cX9_judgeReckoning 74 = .ok (.aload_n 0, 1) := by decide +kernel
theorem dX9_judgeReckoning_75 : decode cX9_judgeReckoning 75 = .ok (.iconst 2, 1) := by decide +kernel
theorem dX9_judgeReckoning_76 : decode cX9_judgeReckoning 76 = .ok (.invokevirtual 182, 3) := by decide +kernel
theorem dX9_judgeReckoning_79 : decode cX9_judgeReckoning 79 = .ok (.aload_n 0, 1) := by decide +kernel
theorem dX9_judgeReckoning_80 : decode cX9_judgeReckoning 80 = .ok (.iload_n 1, 1) := by decide +kernel
theorem dX9_judgeReckoning_81 : decode cX9_judgeReckoning 81 = .ok (.iconst 1, 1) := by decide +kernel
theorem dX9_judgeReckoning_82 : decode cX9_judgeReckoning 82 = .ok (.invokevirtual 172, 3) := by decide +kernel
theorem dX9_judgeReckoning_85 : decode cX9_judgeReckoning 85 = .ok (.goto 122, 3) := by decide +kernel
theorem dX9_judgeReckoning_88 : decode cX9_judgeReckoning 88 = .ok (.iload_n 2, 1) := by decide +kernel
theorem dX9_judgeReckoning_89 : decode cX9_judgeReckoning 89 = .ok (.sipush 148, 3) := by decide +kernel
theorem dX9_judgeReckoning_92 : decode cX9_judgeReckoning 92 = .ok (.if_icmp .ne 22, 3) := by decide +kernel
theorem dX9_judgeReckoning_95 : decode cX9_judgeReckoning 95 = .ok (.aload_n 0, 1) := by decide +kernel
theorem dX9_judgeReckoning_96 : decode cX9_judgeReckoning 96 = .ok (.iconst 2, 1) := by decide +kernel
theorem dX9_judgeReckoning_97 : decode cX9_judgeReckoning 97 = .ok (.invokevirtual 182, 3) := by decide +kernel
theorem dX9_judgeReckoning_100 : decode cX9_judgeReckoning 100 = .ok (.aload_n 0, 1) := by decide +kernel
theorem dX9_judgeReckoning_101 : decode cX9_judgeReckoning 101 = .ok (.iconst 2, 1) := by decide +kernel
theorem dX9_judgeReckoning_102 : decode cX9_judgeReckoning 102 = .ok (.invokevirtual 182, 3) := by decide +kernel
theorem dX9_judgeReckoning_105 : decode cX9_judgeReckoning 105 = .ok (.aload_n 0, 1) := by decide +kernel
theorem dX9_judgeReckoning_106 : decode cX9_judgeReckoning 106 = .ok (.iload_n 1, 1) := by decide +kernel
theorem dX9_judgeReckoning_107 : decode cX9_judgeReckoning 107 = .ok (.iconst 1, 1) := by decide +kernel
theorem dX9_judgeReckoning_108 : decode cX9_judgeReckoning 108 = .ok (.invokevirtual 172, 3) := by decide +kernel
theorem dX9_judgeReckoning_111 : decode cX9_judgeReckoning 111 = .ok (.goto 96, 3) := by decide +kernel
theorem dX9_judgeReckoning_114 : decode cX9_judgeReckoning 114 = .ok (.iload_n 2, 1) := by decide +kernel
theorem dX9_judgeReckoning_115 : decode cX9_judgeReckoning 115 = .ok (.sipush 144, 3) := by decide +kernel
theorem dX9_judgeReckoning_118 : decode cX9_judgeReckoning 118 = .ok (.if_icmp .le 17, 3) := by decide +kernel
theorem dX9_judgeReckoning_121 : decode cX9_judgeReckoning 121 = .ok (.aload_n 0, 1) := by decide +kernel
theorem dX9_judgeReckoning_122 : decode cX9_judgeReckoning 122 = .ok (.iconst 1, 1) := by decide +kernel
theorem dX9_judgeReckoning_123 : decode cX9_judgeReckoning 123 = .ok (.invokevirtual 182, 3) := by decide +kernel
theorem dX9_judgeReckoning_126 : decode cX9_judgeReckoning 126 = .ok (.aload_n 0, 1) := by decide +kernel
theorem dX9_judgeReckoning_127 : decode cX9_judgeReckoning 127 = .ok (.iload_n 1, 1) := by decide +kernel
theorem dX9_judgeReckoning_128 : decode cX9_judgeReckoning 128 = .ok (.iconst 1, 1) := by decide +kernel
theorem dX9_judgeReckoning_129 : decode cX9_judgeReckoning 129 = .ok (.invokevirtual 172, 3) := by decide +kernel
theorem dX9_judgeReckoning_132 : decode cX9_judgeReckoning 132 = .ok (.goto 75, 3) := by decide +kernel
theorem dX9_judgeReckoning_135 : decode cX9_judgeReckoning 135 = .ok (.iload_n 2, 1) := by decide +kernel
theorem dX9_judgeReckoning_136 : decode cX9_judgeReckoning 136 = .ok (.iconst 2, 1) := by decide +kernel
theorem dX9_judgeReckoning_137 : decode cX9_judgeReckoning 137 = .ok (.irem, 1) := by decide +kernel
theorem dX9_judgeReckoning_138 : decode cX9_judgeReckoning 138 = .ok (.ifCond .ne 7, 3) := by decide +kernel
theorem dX9_judgeReckoning_141 : decode cX9_judgeReckoning 141 = .ok (.iconst 1, 1) := by decide +kernel
theorem dX9_judgeReckoning_142 : decode cX9_judgeReckoning 142 = .ok (.goto 4, 3) := by decide +kernel
theorem dX9_judgeReckoning_145 : decode cX9_judgeReckoning 145 = .ok (.iconst 2, 1) := by decide +kernel
theorem dX9_judgeReckoning_146 : decode cX9_judgeReckoning 146 = .ok (.istore 4, 2) := by decide +kernel
theorem dX9_judgeReckoning_148 : decode cX9_judgeReckoning 148 = .ok (.iload_n 2, 1) := by decide +kernel
theorem dX9_judgeReckoning_149 : decode cX9_judgeReckoning 149 = .ok (.bipush 120, 2) := by decide +kernel
theorem dX9_judgeReckoning_151 : decode cX9_judgeReckoning 151 = .ok (.if_icmp .lt 13, 3) := by decide +kernel
theorem dX9_judgeReckoning_154 : decode cX9_judgeReckoning 154 = .ok (.iload_n 2, 1) := by decide +kernel
theorem dX9_judgeReckoning_155 : decode cX9_judgeReckoning 155 = .ok (.bipush 125, 2) := by decide +kernel
theorem dX9_judgeReckoning_157 : decode cX9_judgeReckoning 157 = .ok (.if_icmp .gt 7, 3) := by decide +kernel
theorem dX9_judgeReckoning_160 : decode cX9_judgeReckoning 160 = .ok (.iconst 1, 1) := by decide +kernel
theorem dX9_judgeReckoning_161 : decode cX9_judgeReckoning 161 = .ok (.goto 4, 3) := by decide +kernel
theorem dX9_judgeReckoning_164 : decode cX9_judgeReckoning 164 = .ok (.iconst 0, 1) := by decide +kernel
theorem dX9_judgeReckoning_165 : decode cX9_judgeReckoning 165 = .ok (.istore 5, 2) := by decide +kernel
theorem dX9_judgeReckoning_167 : decode cX9_judgeReckoning 167 = .ok (.iload_n 2, 1) := by decide +kernel
theorem dX9_judgeReckoning_168 : decode cX9_judgeReckoning 168 = .ok (.bipush 116, 2) := by decide +kernel
theorem dX9_judgeReckoning_170 : decode cX9_judgeReckoning 170 = .ok (.if_icmp .lt 9, 3) := by decide +kernel
theorem dX9_judgeReckoning_173 : decode cX9_judgeReckoning 173 = .ok (.iload_n 2, 1) := by decide +kernel
theorem dX9_judgeReckoning_174 : decode cX9_judgeReckoning 174 = .ok (.bipush 117, 2) := by decide +kernel
theorem dX9_judgeReckoning_176 : decode cX9_judgeReckoning 176 = .ok (.if_icmp .le 18, 3) := by decide +kernel
theorem dX9_judgeReckoning_179 : decode cX9_judgeReckoning 179 = .ok (.aload_n 0, 1) := by decide +kernel
theorem dX9_judgeReckoning_180 : decode cX9_judgeReckoning 180 = .ok (.iload 5, 2) := by decide +kernel
theorem dX9_judgeReckoning_182 : decode cX9_judgeReckoning 182 = .ok (.ifCond .eq 7, 3) := by decide +kernel
theorem dX9_judgeReckoning_185 : decode cX9_judgeReckoning 185 = .ok (.iconst 1, 1) := by decide +kernel
theorem dX9_judgeReckoning_186 : decode cX9_judgeReckoning 186 = .ok (.goto 5, 3) := by decide +kernel
theorem dX9_judgeReckoning_189 : decode cX9_judgeReckoning 189 = .ok (.iload 4, 2) := by decide +kernel
theorem dX9_judgeReckoning_191 : decode cX9_judgeReckoning 191 = .ok (.invokevirtual 182, 3) := by decide +kernel
theorem dX9_judgeReckoning_194 : decode cX9_judgeReckoning 194 = .ok (.aload_n 0, 1) := by decide +kernel
theorem dX9_judgeReckoning_195 : decode cX9_judgeReckoning 195 = .ok (.iload 4, 2) := by decide +kernel
theorem dX9_judgeReckoning_197 : decode cX9_judgeReckoning 197 = .ok (.invokevirtual 182, 3) := by decide +kernel
theorem dX9_judgeReckoning_200 : decode cX9_judgeReckoning 200 = .ok (.aload_n 0, 1) := by decide +kernel
theorem dX9_judgeReckoning_201 : decode cX9_judgeReckoning 201 = .ok (.iload_n 1, 1) := by decide +kernel
theorem dX9_judgeReckoning_202 : decode cX9_judgeReckoning 202 = .ok (.iload 4, 2) := by decide +kernel
theorem dX9_judgeReckoning_204 : decode cX9_judgeReckoning 204 = .ok (.invokevirtual 172, 3) := by decide +kernel
theorem dX9_judgeReckoning_207 : decode cX9_judgeReckoning 207 = .ok (.return_, 1) := by decide +kernel
theorem dX9_popEither_0 : decode cX9_popEither 0 = .ok (.aload_n 0, 1) := by decide +kernel
theorem dX9_popEither_1 : decode cX9_popEither 1 = .ok (.aload_n 0, 1) := by decide +kernel
theorem dX9_popEither_2 : decode cX9_popEither 2 = .ok (.getfield 143, 3) := by decide +kernel
theorem dX9_popEither_5 : decode cX9_popEither 5 = .ok (.ifCond .eq 29, 3) := by decide +kernel
theorem dX9_popEither_8 : decode cX9_popEither 8 = .ok (.aload_n 0, 1) := by decide +kernel
theorem dX9_popEither_9 : decode cX9_popEither 9 = .ok (.getfield 147, 3) := by decide +kernel
theorem dX9_popEither_12 : decode cX9_popEither 12 = .ok (.ifCond .le 22, 3) := by decide +kernel
theorem dX9_popEither_15 : decode cX9_popEither 15 = .ok (.aload_n 0, 1) := by decide +kernel
theorem dX9_popEither_16 : decode cX9_popEither 16 = .ok (.getfield 65, 3) := by decide +kernel
theorem dX9_popEither_19 : decode cX9_popEither 19 = .ok (.aload_n 0, 1) := by decide +kernel
theorem dX9_popEither_20 : decode cX9_popEither 20 = .ok (.getfield 147, 3) := by decide +kernel
theorem dX9_popEither_23 : decode cX9_popEither 23 = .ok (.iconst 1, 1) := by decide +kernel
theorem dX9_popEither_24 : decode cX9_popEither 24 = .ok (.isub, 1) := by decide +kernel
theorem dX9_popEither_25 : decode cX9_popEither 25 = .ok (.iaload, 1) := by decide +kernel
theorem dX9_popEither_26 : decode cX9_popEither 26 = .ok (.iconst 2, 1) := by decide +kernel
theorem dX9_popEither_27 : decode cX9_popEither 27 = .ok (.if_icmp .eq 7, 3) := by decide +kernel
theorem dX9_popEither_30 : decode cX9_popEither 30 = .ok (.iconst 1, 1) := by decide +kernel
theorem dX9_popEither_31 : decode cX9_popEither 31 = .ok (.goto 4, 3) := by decide +kernel
theorem dX9_popEither_34 : decode cX9_popEither 34 = .ok (.iconst 0, 1) := by decide +kernel
theorem dX9_popEither_35 : decode cX9_popEither 35 = .ok (.putfield 143, 3) := by decide +kernel
theorem dX9_popEither_38 : decode cX9_popEither 38 = .ok (.aload_n 0, 1) := by decide +kernel
theorem dX9_popEither_39 : decode cX9_popEither 39 = .ok (.getfield 143, 3) := by decide +kernel
theorem dX9_popEither_42 : decode cX9_popEither 42 = .ok (.ifCond .ne 5, 3) := by decide +kernel
theorem dX9_popEither_45 : decode cX9_popEither 45 = .ok (.iconst 1, 1) := by decide +kernel
theorem dX9_popEither_46 : decode cX9_popEither 46 = .ok (.ireturn, 1) := by decide +kernel
theorem dX9_popEither_47 : decode cX9_popEither 47 = .ok (.aload_n 0, 1) := by decide +kernel
theorem dX9_popEither_48 : decode cX9_popEither 48 = .ok (.dup, 1) := by decide +kernel
theorem dX9_popEither_49 : decode cX9_popEither 49 = .ok (.getfield 147, 3) := by decide +kernel
theorem dX9_popEither_52 : decode cX9_popEither 52 = .ok (.iconst 1, 1) := by decide +kernel
theorem dX9_popEither_53 : decode cX9_popEither 53 = .ok (.isub, 1) := by decide +kernel
theorem dX9_popEither_54 : decode cX9_popEither 54 = .ok (.putfield 147, 3) := by decide +kernel
theorem dX9_popEither_57 : decode cX9_popEither 57 = .ok (.aload_n 0, 1) := by decide +kernel
theorem dX9_popEither_58 : decode cX9_popEither 58 = .ok (.getfield 65, 3) := by decide +kernel
theorem dX9_popEither_61 : decode cX9_popEither 61 = .ok (.aload_n 0, 1) := by decide +kernel
theorem dX9_popEither_62 : decode cX9_popEither 62 = .ok (.getfield 147, 3) := by decide +kernel
theorem dX9_popEither_65 : decode cX9_popEither 65 = .ok (.iaload, 1) := by decide +kernel
theorem dX9_popEither_66 : decode cX9_popEither 66 = .ok (.ireturn, 1) := by decide +kernel
theorem dX9_judgeStack_0 : decode cX9_judgeStack 0 = .ok (.iload_n 2, 1) := by decide +kernel
theorem dX9_judgeStack_1 : decode cX9_judgeStack 1 = .ok (.bipush 88, 2) := by decide +kernel
theorem dX9_judgeStack_3 : decode cX9_judgeStack 3 = .ok (.if_icmp .ne 9, 3) := by decide +kernel
theorem dX9_judgeStack_6 : decode cX9_judgeStack 6 = .ok (.aload_n 0, 1) := by decide +kernel
theorem dX9_judgeStack_7 : decode cX9_judgeStack 7 = .ok (.iconst 2, 1) := by decide +kernel
theorem dX9_judgeStack_8 : decode cX9_judgeStack 8 = .ok (.invokevirtual 182, 3) := by decide +kernel
theorem dX9_judgeStack_11 : decode cX9_judgeStack 11 = .ok (.return_, 1) := by decide +kernel
theorem dX9_judgeStack_12 : decode cX9_judgeStack 12 = .ok (.aload_n 0, 1) := by decide +kernel
theorem dX9_judgeStack_13 : decode cX9_judgeStack 13 = .ok (.invokevirtual 204, 3) := by decide +kernel
theorem dX9_judgeStack_16 : decode cX9_judgeStack 16 = .ok (.istore_n 3, 1) := by decide +kernel
theorem dX9_judgeStack_17 : decode cX9_judgeStack 17 = .ok (.iload_n 2, 1) := by decide +kernel
theorem dX9_judgeStack_18 : decode cX9_judgeStack 18 = .ok (.bipush 89, 2) := by decide +kernel
theorem dX9_judgeStack_20 : decode cX9_judgeStack 20 = .ok (.if_icmp .ne 18, 3) := by decide +kernel
theorem dX9_judgeStack_23 : decode cX9_judgeStack 23 = .ok (.aload_n 0, 1) := by decide +kernel
theorem dX9_judgeStack_24 : decode cX9_judgeStack 24 = .ok (.iload_n 1, 1) := by decide +kernel
theorem dX9_judgeStack_25 : decode cX9_judgeStack 25 = .ok (.iload_n 3, 1) := by decide +kernel
theorem dX9_judgeStack_26 : decode cX9_judgeStack 26 = .ok (.invokevirtual 172, 3) := by decide +kernel
theorem dX9_judgeStack_29 : decode cX9_judgeStack 29 = .ok (.aload_n 0, 1) := by decide +kernel
theorem dX9_judgeStack_30 : decode cX9_judgeStack 30 = .ok (.iload_n 1, 1) := by decide +kernel
theorem dX9_judgeStack_31 : decode cX9_judgeStack 31 = .ok (.iload_n 3, 1) := by decide +kernel
theorem dX9_judgeStack_32 : decode cX9_judgeStack 32 = .ok (.invokevirtual 172, 3) := by decide +kernel
theorem dX9_judgeStack_35 : decode cX9_judgeStack 35 = .ok (.goto 28, 3) := by decide +kernel
theorem dX9_judgeStack_38 : decode cX9_judgeStack 38 = .ok (.iload_n 2, 1) := by decide +kernel
theorem dX9_judgeStack_39 : decode cX9_judgeStack 39 = .ok (.bipush 95, 2) := by decide +kernel
theorem dX9_judgeStack_41 : decode cX9_judgeStack 41 = .ok (.if_icmp .ne 22, 3) := by decide +kernel
theorem dX9_judgeStack_44 : decode cX9_judgeStack 44 = .ok (.aload_n 0, 1) := by decide +kernel
theorem dX9_judgeStack_45 : decode cX9_judgeStack 45 = .ok (.invokevirtual 204, 3) := by decide +kernel
theorem dX9_judgeStack_48 : decode cX9_judgeStack 48 = .ok (.istore 4, 2) := by decide +kernel
theorem dX9_judgeStack_50 : decode cX9_judgeStack 50 = .ok (.aload_n 0, 1) := by decide +kernel
theorem dX9_judgeStack_51 : decode cX9_judgeStack 51 = .ok (.iload_n 1, 1) := by decide +kernel
theorem dX9_judgeStack_52 : decode cX9_judgeStack 52 = .ok (.iload_n 3, 1) := by decide +kernel
theorem dX9_judgeStack_53 : decode cX9_judgeStack 53 = .ok (.invokevirtual 172, 3) := by decide +kernel
theorem dX9_judgeStack_56 : decode cX9_judgeStack 56 = .ok (.aload_n 0, 1) := by decide +kernel
theorem dX9_judgeStack_57 : decode cX9_judgeStack 57 = .ok (.iload_n 1, 1) := by decide +kernel
theorem dX9_judgeStack_58 : decode cX9_judgeStack 58 = .ok (.iload 4, 2) := by decide +kernel
theorem dX9_judgeStack_60 : decode cX9_judgeStack 60 = .ok (.invokevirtual 172, 3) := by decide +kernel
theorem dX9_judgeStack_63 : decode cX9_judgeStack 63 = .ok (.return_, 1) := by decide +kernel
theorem dX9_judgeThing_0 : decode cX9_judgeThing 0 = .ok (.iload_n 2, 1) := by decide +kernel
theorem dX9_judgeThing_1 : decode cX9_judgeThing 1 = .ok (.sipush 180, 3) := by decide +kernel
theorem dX9_judgeThing_4 : decode cX9_judgeThing 4 = .ok (.if_icmp .eq 10, 3) := by decide +kernel
theorem dX9_judgeThing_7 : decode cX9_judgeThing 7 = .ok (.iload_n 2, 1) := by decide +kernel
theorem dX9_judgeThing_8 : decode cX9_judgeThing 8 = .ok (.sipush 181, 3) := by decide +kernel
theorem dX9_judgeThing_11 : decode cX9_judgeThing 11 = .ok (.if_icmp .ne 94, 3) := by decide +kernel
theorem dX9_judgeThing_14 : decode cX9_judgeThing 14 = .ok (.aload_n 0, 1) := by decide +kernel
theorem dX9_judgeThing_15 : decode cX9_judgeThing 15 = .ok (.aload_n 0, 1) := by decide +kernel
theorem dX9_judgeThing_16 : decode cX9_judgeThing 16 = .ok (.getfield 143, 3) := by decide +kernel
theorem dX9_judgeThing_19 : decode cX9_judgeThing 19 = .ok (.ifCond .eq 26, 3) := by decide +kernel
theorem dX9_judgeThing_22 : decode cX9_judgeThing 22 = .ok (.iload_n 3, 1) := by decide +kernel
theorem dX9_judgeThing_23 : decode cX9_judgeThing 23 = .ok (.aload_n 0, 1) := by decide +kernel
theorem dX9_judgeThing_24 : decode cX9_judgeThing 24 = .ok (.getfield 124, 3) := by decide +kernel
theorem dX9_judgeThing_27 : decode cX9_judgeThing 27 = .ok (.if_icmp .ge 18, 3) := by decide +kernel
theorem dX9_judgeThing_30 : decode cX9_judgeThing 30 = .ok (.iload 4, 2) := by decide +kernel
theorem dX9_judgeThing_32 : decode cX9_judgeThing 32 = .ok (.aload_n 0, 1) := by decide +kernel
theorem dX9_judgeThing_33 : decode cX9_judgeThing 33 = .ok (.getfield 13, 3) := by decide +kernel
theorem dX9_judgeThing_36 : decode cX9_judgeThing 36 = .ok (.iload_n 3, 1) := by decide +kernel
theorem dX9_judgeThing_37 : decode cX9_judgeThing 37 = .ok (.iaload, 1) := by decide +kernel
theorem dX9_judgeThing_38 : decode cX9_judgeThing 38 = .ok (.if_icmp .ge 7, 3) := by decide +kernel
theorem dX9_judgeThing_41 : decode cX9_judgeThing 41 = .ok (.iconst 1, 1) := by decide +kernel
theorem dX9_judgeThing_42 : decode cX9_judgeThing 42 = .ok (.goto 4, 3) := by decide +kernel
theorem dX9_judgeThing_45 : decode cX9_judgeThing 45 = .ok (.iconst 0, 1) := by decide +kernel
theorem dX9_judgeThing_46 : decode cX9_judgeThing 46 = .ok (.putfield 143, 3) := by decide +kernel
theorem dX9_judgeThing_49 : decode cX9_judgeThing 49 = .ok (.aload_n 0, 1) := by decide +kernel
theorem dX9_judgeThing_50 : decode cX9_judgeThing 50 = .ok (.getfield 143, 3) := by decide +kernel
theorem dX9_judgeThing_53 : decode cX9_judgeThing 53 = .ok (.ifCond .eq 362, 3) := by decide +kernel
theorem dX9_judgeThing_56 : decode cX9_judgeThing 56 = .ok (.aload_n 0, 1) := by decide +kernel
theorem dX9_judgeThing_57 : decode cX9_judgeThing 57 = .ok (.getfield 16, 3) := by decide +kernel
theorem dX9_judgeThing_60 : decode cX9_judgeThing 60 = .ok (.bipush 8, 2) := by decide +kernel
theorem dX9_judgeThing_62 : decode cX9_judgeThing 62 = .ok (.iload_n 3, 1) := by decide +kernel
theorem dX9_judgeThing_63 : decode cX9_judgeThing 63 = .ok (.imul, 1) := by decide +kernel
theorem dX9_judgeThing_64 : decode cX9_judgeThing 64 = .ok (.iload 4, 2) := by decide +kernel
theorem dX9_judgeThing_66 : decode cX9_judgeThing 66 = .ok (.iadd, 1) := by decide +kernel
theorem dX9_judgeThing_67 : decode cX9_judgeThing 67 = .ok (.iaload, 1) := by decide +kernel
theorem dX9_judgeThing_68 : decode cX9_judgeThing 68 = .ok (.istore 5, 2) := by decide +kernel
theorem dX9_judgeThing_70 : decode cX9_judgeThing 70 = .ok (.iload_n 2, 1) := by decide +kernel
theorem dX9_judgeThing_71 : decode cX9_judgeThing 71 = .ok (.sipush 181, 3) := by decide +kernel
theorem dX9_judgeThing_74 : decode cX9_judgeThing 74 = .ok (.if_icmp .ne 9, 3) := by decide +kernel
theorem dX9_judgeThing_77 : decode cX9_judgeThing 77 = .ok (.aload_n 0, 1) := by decide +kernel
theorem dX9_judgeThing_78 : decode cX9_judgeThing 78 = .ok (.iload 5, 2) := by decide +kernel
theorem dX9_judgeThing_80 : decode cX9_judgeThing 80 = .ok (.invokevirtual 182, 3) := by decide +kernel
theorem dX9_judgeThing_83 : decode cX9_judgeThing 83 = .ok (.aload_n 0, 1) := by decide +kernel
theorem dX9_judgeThing_84 : decode cX9_judgeThing 84 = .ok (.iconst 3, 1) := by decide +kernel
theorem dX9_judgeThing_85 : decode cX9_judgeThing 85 = .ok (.invokevirtual 182, 3) := by decide +kernel
theorem dX9_judgeThing_88 : decode cX9_judgeThing 88 = .ok (.iload_n 2, 1) := by decide +kernel
theorem dX9_judgeThing_89 : decode cX9_judgeThing 89 = .ok (.sipush 180, 3) := by decide +kernel
theorem dX9_judgeThing_92 : decode cX9_judgeThing 92 = .ok (.if_icmp .ne 10, 3) := by decide +kernel
theorem dX9_judgeThing_95 : decode cX9_judgeThing 95 = .ok (.aload_n 0, 1) := by decide +kernel
theorem dX9_judgeThing_96 : decode cX9_judgeThing 96 = .ok (.iload_n 1, 1) := by decide +kernel
theorem dX9_judgeThing_97 : decode cX9_judgeThing 97 = .ok (.iload 5, 2) := by decide +kernel
theorem dX9_judgeThing_99 : decode cX9_judgeThing 99 = .ok (.invokevirtual 172, 3) := by decide +kernel
theorem dX9_judgeThing_102 : decode cX9_judgeThing 102 = .ok (.goto 313, 3) := by decide +kernel
theorem dX9_judgeThing_105 : decode cX9_judgeThing 105 = .ok (.iload_n 2, 1) := by decide +kernel
theorem dX9_judgeThing_106 : decode cX9_judgeThing 106 = .ok (.sipush 184, 3) := by decide +kernel
theorem dX9_judgeThing_109 : decode cX9_judgeThing 109 = .ok (.if_icmp .ne 110, 3) := by decide +kernel
theorem dX9_judgeThing_112 : decode cX9_judgeThing 112 = .ok (.aload_n 0, 1) := by decide +kernel
theorem dX9_judgeThing_113 : decode cX9_judgeThing 113 = .ok (.aload_n 0, 1) := by decide +kernel
theorem dX9_judgeThing_114 : decode cX9_judgeThing 114 = .ok (.getfield 143, 3) := by decide +kernel
theorem dX9_judgeThing_117 : decode cX9_judgeThing 117 = .ok (.ifCond .eq 21, 3) := by decide +kernel
theorem dX9_judgeThing_120 : decode cX9_judgeThing 120 = .ok (.iload_n 3, 1) := by decide +kernel
theorem dX9_judgeThing_121 : decode cX9_judgeThing 121 = .ok (.aload_n 0, 1) := by decide +kernel
theorem dX9_judgeThing_122 : decode cX9_judgeThing 122 = .ok (.getfield 136, 3) := by decide +kernel
theorem dX9_judgeThing_125 : decode cX9_judgeThing 125 = .ok (.if_icmp .gt 13, 3) := by decide +kernel
theorem dX9_judgeThing_128 : decode cX9_judgeThing 128 = .ok (.iload_n 3, 1) := by decide +kernel
theorem dX9_judgeThing_129 : decode cX9_judgeThing 129 = .ok (.bipush 20, 2) := by decide +kernel
theorem dX9_judgeThing_131 : decode cX9_judgeThing 131 = .ok (.if_icmp .ge 7, 3) := by decide +kernel
theorem dX9_judgeThing_134 : decode cX9_judgeThing 134 = .ok (.iconst 1, 1) := by decide +kernel
theorem dX9_judgeThing_135 : decode cX9_judgeThing 135 = .ok (.goto 4, 3) := by decide +kernel
theorem dX9_judgeThing_138 : decode cX9_judgeThing 138 = .ok (.iconst 0, 1) := by decide +kernel
theorem dX9_judgeThing_139 : decode cX9_judgeThing 139 = .ok (.putfield 143, 3) := by decide +kernel
theorem dX9_judgeThing_142 : decode cX9_judgeThing 142 = .ok (.aload_n 0, 1) := by decide +kernel
theorem dX9_judgeThing_143 : decode cX9_judgeThing 143 = .ok (.getfield 143, 3) := by decide +kernel
theorem dX9_judgeThing_146 : decode cX9_judgeThing 146 = .ok (.ifCond .eq 14, 3) := by decide +kernel
theorem dX9_judgeThing_149 : decode cX9_judgeThing 149 = .ok (.aload_n 0, 1) := by decide +kernel
theorem dX9_judgeThing_150 : decode cX9_judgeThing 150 = .ok (.getfield 31, 3) := by decide +kernel
theorem dX9_judgeThing_153 : decode cX9_judgeThing 153 = .ok (.iload_n 3, 1) := by decide +kernel
theorem dX9_judgeThing_154 : decode cX9_judgeThing 154 = .ok (.iaload, 1) := by decide +kernel
theorem dX9_judgeThing_155 : decode cX9_judgeThing 155 = .ok (.iconst 1, 1) := by decide +kernel
theorem dX9_judgeThing_156 : decode cX9_judgeThing 156 = .ok (.isub, 1) := by decide +kernel
theorem dX9_judgeThing_157 : decode cX9_judgeThing 157 = .ok (.goto 4, 3) := by decide +kernel
theorem dX9_judgeThing_160 : decode cX9_judgeThing 160 = .ok (.iconst (-1), 1) := by decide +kernel
theorem dX9_judgeThing_161 : decode cX9_judgeThing 161 = .ok (.istore 5, 2) := by decide +kernel
theorem dX9_judgeThing_163 : decode cX9_judgeThing 163 = .ok (.iload 5, 2) := by decide +kernel
theorem dX9_judgeThing_165 : decode cX9_judgeThing 165 = .ok (.ifCond .lt 24, 3) := by decide +kernel
theorem dX9_judgeThing_168 : decode cX9_judgeThing 168 = .ok (.aload_n 0, 1) := by decide +kernel
theorem dX9_judgeThing_169 : decode cX9_judgeThing 169 = .ok (.aload_n 0, 1) := by decide +kernel
theorem dX9_judgeThing_170 : decode cX9_judgeThing 170 = .ok (.getfield 34, 3) := by decide +kernel
theorem dX9_judgeThing_173 : decode cX9_judgeThing 173 = .ok (.iconst 4, 1) := by decide +kernel
theorem dX9_judgeThing_174 : decode cX9_judgeThing 174 = .ok (.iload_n 3, 1) := by decide +kernel
theorem dX9_judgeThing_175 : decode cX9_judgeThing 175 = .ok (.imul, 1) := by decide +kernel
theorem dX9_judgeThing_176 : decode cX9_judgeThing 176 = .ok (.iload 5, 2) := by decide +kernel
theorem dX9_judgeThing_178 : decode cX9_judgeThing 178 = .ok (.iadd, 1) := by decide +kernel
theorem dX9_judgeThing_179 : decode cX9_judgeThing 179 = .ok (.iaload, 1) := by decide +kernel
theorem dX9_judgeThing_180 : decode cX9_judgeThing 180 = .ok (.invokevirtual 182, 3) := by decide +kernel
theorem dX9_judgeThing_183 : decode cX9_judgeThing 183 = .ok (.iinc 5 (-1), 3) := by decide +kernel
theorem dX9_judgeThing_186 : decode cX9_judgeThing 186 = .ok (.goto (-23), 3) := by decide +kernel
theorem dX9_judgeThing_189 : decode cX9_judgeThing 189 = .ok (.aload_n 0, 1) := by decide +kernel
theorem dX9_judgeThing_190 : decode cX9_judgeThing 190 = .ok (.getfield 143, 3) := by decide +kernel
theorem dX9_judgeThing_193 : decode cX9_judgeThing 193 = .ok (.ifCond .eq 222, 3) := by decide +kernel
theorem dX9_judgeThing_196 : decode cX9_judgeThing 196 = .ok (.aload_n 0, 1) := by decide +kernel
theorem dX9_judgeThing_197 : decode cX9_judgeThing 197 = .ok (.getfield 43, 3) := by decide +kernel
theorem dX9_judgeThing_200 : decode cX9_judgeThing 200 = .ok (.iload_n 3, 1) := by decide +kernel
theorem dX9_judgeThing_201 : decode cX9_judgeThing 201 = .ok (.iaload, 1) := by decide +kernel
theorem dX9_judgeThing_202 : decode cX9_judgeThing 202 = .ok (.ifCond .le 213, 3) := by decide +kernel
theorem dX9_judgeThing_205 : decode cX9_judgeThing 205 = .ok (.aload_n 0, 1) := by decide +kernel
theorem dX9_judgeThing_206 : decode cX9_judgeThing 206 = .ok (.iload_n 1, 1) := by decide +kernel
theorem dX9_judgeThing_207 : decode cX9_judgeThing 207 = .ok (.aload_n 0, 1) := by decide +kernel
theorem dX9_judgeThing_208 : decode cX9_judgeThing 208 = .ok (.getfield 43, 3) := by decide +kernel
theorem dX9_judgeThing_211 : decode cX9_judgeThing 211 = .ok (.iload_n 3, 1) := by decide +kernel
theorem dX9_judgeThing_212 : decode cX9_judgeThing 212 = .ok (.iaload, 1) := by decide +kernel
theorem dX9_judgeThing_213 : decode cX9_judgeThing 213 = .ok (.invokevirtual 172, 3) := by decide +kernel
theorem dX9_judgeThing_216 : decode cX9_judgeThing 216 = .ok (.goto 199, 3) := by decide +kernel
theorem dX9_judgeThing_219 : decode cX9_judgeThing 219 = .ok (.iload_n 2, 1) := by decide +kernel
theorem dX9_judgeThing_220 : decode cX9_judgeThing 220 = .ok (.sipush 187, 3) := by decide +kernel
theorem dX9_judgeThing_223 : decode cX9_judgeThing 223 = .ok (.if_icmp .ne 36, 3) := by decide +kernel
theorem dX9_judgeThing_226 : decode cX9_judgeThing 226 = .ok (.aload_n 0, 1) := by decide +kernel
theorem dX9_judgeThing_227 : decode cX9_judgeThing 227 = .ok (.aload_n 0, 1) := by decide +kernel
theorem dX9_judgeThing_228 : decode cX9_judgeThing 228 = .ok (.getfield 143, 3) := by decide +kernel
theorem dX9_judgeThing_231 : decode cX9_judgeThing 231 = .ok (.ifCond .eq 15, 3) := by decide +kernel
theorem dX9_judgeThing_234 : decode cX9_judgeThing 234 = .ok (.iload_n 3, 1) := by decide +kernel
theorem dX9_judgeThing_235 : decode cX9_judgeThing 235 = .ok (.aload_n 0, 1) := by decide +kernel
theorem dX9_judgeThing_236 : decode cX9_judgeThing 236 = .ok (.getfield 124, 3) := by decide +kernel
theorem dX9_judgeThing_239 : decode cX9_judgeThing 239 = .ok (.if_icmp .ge 7, 3) := by decide +kernel
theorem dX9_judgeThing_242 : decode cX9_judgeThing 242 = .ok (.iconst 1, 1) := by decide +kernel
theorem dX9_judgeThing_243 : decode cX9_judgeThing 243 = .ok (.goto 4, 3) := by decide +kernel
theorem dX9_judgeThing_246 : decode cX9_judgeThing 246 = .ok (.iconst 0, 1) := by decide +kernel
theorem dX9_judgeThing_247 : decode cX9_judgeThing 247 = .ok (.putfield 143, 3) := by decide +kernel
theorem dX9_judgeThing_250 : decode cX9_judgeThing 250 = .ok (.aload_n 0, 1) := by decide +kernel
theorem dX9_judgeThing_251 : decode cX9_judgeThing 251 = .ok (.iload_n 1, 1) := by decide +kernel
theorem dX9_judgeThing_252 : decode cX9_judgeThing 252 = .ok (.iconst 3, 1) := by decide +kernel
theorem dX9_judgeThing_253 : decode cX9_judgeThing 253 = .ok (.invokevirtual 172, 3) := by decide +kernel
theorem dX9_judgeThing_256 : decode cX9_judgeThing 256 = .ok (.goto 159, 3) := by decide +kernel
theorem dX9_judgeThing_259 : decode cX9_judgeThing 259 = .ok (.iload_n 2, 1) := by decide +kernel
theorem dX9_judgeThing_260 : decode cX9_judgeThing 260 = .ok (.sipush 188, 3) := by decide +kernel
theorem dX9_judgeThing_263 : decode cX9_judgeThing 263 = .ok (.if_icmp .eq 10, 3) := by decide +kernel
theorem dX9_judgeThing_266 : decode cX9_judgeThing 266 = .ok (.iload_n 2, 1) := by decide +kernel
theorem dX9_judgeThing_267 : decode cX9_judgeThing 267 = .ok (.sipush 189, 3) := by decide +kernel
theorem dX9_judgeThing_270 : decode cX9_judgeThing 270 = .ok (.if_icmp .ne 63, 3) := by decide +kernel
theorem dX9_judgeThing_273 : decode cX9_judgeThing 273 = .ok (.aload_n 0, 1) := by decide +kernel
theorem dX9_judgeThing_274 : decode cX9_judgeThing 274 = .ok (.aload_n 0, 1) := by decide +kernel
theorem dX9_judgeThing_275 : decode cX9_judgeThing 275 = .ok (.getfield 143, 3) := by decide +kernel
theorem dX9_judgeThing_278 : decode cX9_judgeThing 278 = .ok (.ifCond .eq 37, 3) := by decide +kernel
theorem dX9_judgeThing_281 : decode cX9_judgeThing 281 = .ok (.iload_n 2, 1) := by decide +kernel
theorem dX9_judgeThing_282 : decode cX9_judgeThing 282 = .ok (.sipush 189, 3) := by decide +kernel
theorem dX9_judgeThing_285 : decode cX9_judgeThing 285 = .ok (.if_icmp .eq 26, 3) := by decide +kernel
theorem dX9_judgeThing_288 : decode cX9_judgeThing 288 = .ok (.iload_n 3, 1) := by decide +kernel
theorem dX9_judgeThing_289 : decode cX9_judgeThing 289 = .ok (.iconst 4, 1) := by decide +kernel
theorem dX9_judgeThing_290 : decode cX9_judgeThing 290 = .ok (.if_icmp .lt 25, 3) := by decide +kernel
theorem dX9_judgeThing_293 : decode cX9_judgeThing 293 = .ok (.iload_n 3, 1) := by decide +kernel
theorem dX9_judgeThing_294 : decode cX9_judgeThing 294 = .ok (.bipush 11, 2) := by decide +kernel
theorem dX9_judgeThing_296 : decode cX9_judgeThing 296 = .ok (.if_icmp .gt 19, 3) := by decide +kernel
theorem dX9_judgeThing_299 : decode cX9_judgeThing 299 = .ok (.iload_n 3, 1) := by decide +kernel
theorem dX9_judgeThing_300 : decode cX9_judgeThing 300 = .ok (.bipush 6, 2) := by decide +kernel
theorem dX9_judgeThing_302 : decode cX9_judgeThing 302 = .ok (.if_icmp .eq 13, 3) := by decide +kernel
theorem dX9_judgeThing_305 : decode cX9_judgeThing 305 = .ok (.iload_n 3, 1) := by decide +kernel
theorem dX9_judgeThing_306 : decode cX9_judgeThing 306 = .ok (.bipush 7, 2) := by decide +kernel
theorem dX9_judgeThing_308 : decode cX9_judgeThing 308 = .ok (.if_icmp .eq 7, 3) := by decide +kernel
theorem dX9_judgeThing_311 : decode cX9_judgeThing 311 = .ok (.iconst 1, 1) := by decide +kernel
theorem dX9_judgeThing_312 : decode cX9_judgeThing 312 = .ok (.goto 4, 3) := by decide +kernel
theorem dX9_judgeThing_315 : decode cX9_judgeThing 315 = .ok (.iconst 0, 1) := by decide +kernel
theorem dX9_judgeThing_316 : decode cX9_judgeThing 316 = .ok (.putfield 143, 3) := by decide +kernel
theorem dX9_judgeThing_319 : decode cX9_judgeThing 319 = .ok (.aload_n 0, 1) := by decide +kernel
theorem dX9_judgeThing_320 : decode cX9_judgeThing 320 = .ok (.iconst 1, 1) := by decide +kernel
theorem dX9_judgeThing_321 : decode cX9_judgeThing 321 = .ok (.invokevirtual 182, 3) := by decide +kernel
theorem dX9_judgeThing_324 : decode cX9_judgeThing 324 = .ok (.aload_n 0, 1) := by decide +kernel
theorem dX9_judgeThing_325 : decode cX9_judgeThing 325 = .ok (.iload_n 1, 1) := by decide +kernel
theorem dX9_judgeThing_326 : decode cX9_judgeThing 326 = .ok (.iconst 3, 1) := by decide +kernel
theorem dX9_judgeThing_327 : decode cX9_judgeThing 327 = .ok (.invokevirtual 172, 3) := by decide +kernel
theorem dX9_judgeThing_330 : decode cX9_judgeThing 330 = .ok (.goto 85, 3) := by decide +kernel
theorem dX9_judgeThing_333 : decode cX9_judgeThing 333 = .ok (.iload_n 2, 1) := by decide +kernel
theorem dX9_judgeThing_334 : decode cX9_judgeThing 334 = .ok (.sipush 190, 3) := by decide +kernel
theorem dX9_judgeThing_337 : decode cX9_judgeThing 337 = .ok (.if_icmp .ne 17, 3) := by decide +kernel
theorem dX9_judgeThing_340 : decode cX9_judgeThing 340 = .ok (.aload_n 0, 1) := by decide +kernel
theorem dX9_judgeThing_341 : decode cX9_judgeThing 341 = .ok (.iconst 3, 1) := by decide +kernel
theorem dX9_judgeThing_342 : decode cX9_judgeThing 342 = .ok (.invokevirtual 182, 3) := by decide +kernel
theorem dX9_judgeThing_345 : decode cX9_judgeThing 345 = .ok (.aload_n 0, 1) := by decide +kernel
theorem dX9_judgeThing_346 : decode cX9_judgeThing 346 = .ok (.iload_n 1, 1) := by decide +kernel
theorem dX9_judgeThing_347 : decode cX9_judgeThing 347 = .ok (.iconst 1, 1) := by decide +kernel
theorem dX9_judgeThing_348 : decode cX9_judgeThing 348 = .ok (.invokevirtual 172, 3) := by decide +kernel
theorem dX9_judgeThing_351 : decode cX9_judgeThing 351 = .ok (.goto 64, 3) := by decide +kernel
theorem dX9_judgeThing_354 : decode cX9_judgeThing 354 = .ok (.iload_n 2, 1) := by decide +kernel
theorem dX9_judgeThing_355 : decode cX9_judgeThing 355 = .ok (.sipush 191, 3) := by decide +kernel
theorem dX9_judgeThing_358 : decode cX9_judgeThing 358 = .ok (.if_icmp .ne 11, 3) := by decide +kernel
theorem dX9_judgeThing_361 : decode cX9_judgeThing 361 = .ok (.aload_n 0, 1) := by decide +kernel
theorem dX9_judgeThing_362 : decode cX9_judgeThing 362 = .ok (.iconst 3, 1) := by decide +kernel
theorem dX9_judgeThing_363 : decode cX9_judgeThing 363 = .ok (.invokevirtual 182, 3) := by decide +kernel
theorem dX9_judgeThing_366 : decode cX9_judgeThing 366 = .ok (.goto 49, 3) := by decide +kernel
theorem dX9_judgeThing_369 : decode cX9_judgeThing 369 = .ok (.aload_n 0, 1) := by decide +kernel
theorem dX9_judgeThing_370 : decode cX9_judgeThing 370 = .ok (.aload_n 0, 1) := by decide +kernel
theorem dX9_judgeThing_371 : decode cX9_judgeThing 371 = .ok (.getfield 143, 3) := by decide +kernel
theorem dX9_judgeThing_374 : decode cX9_judgeThing 374 = .ok (.ifCond .eq 15, 3) := by decide +kernel
theorem dX9_judgeThing_377 : decode cX9_judgeThing 377 = .ok (.iload_n 3, 1) := by decide +kernel
theorem dX9_judgeThing_378 : decode cX9_judgeThing 378 = .ok (.aload_n 0, 1) := by decide +kernel
theorem dX9_judgeThing_379 : decode cX9_judgeThing 379 = .ok (.getfield 124, 3) := by decide +kernel
theorem dX9_judgeThing_382 : decode cX9_judgeThing 382 = .ok (.if_icmp .ge 7, 3) := by decide +kernel
theorem dX9_judgeThing_385 : decode cX9_judgeThing 385 = .ok (.iconst 1, 1) := by decide +kernel
theorem dX9_judgeThing_386 : decode cX9_judgeThing 386 = .ok (.goto 4, 3) := by decide +kernel
theorem dX9_judgeThing_389 : decode cX9_judgeThing 389 = .ok (.iconst 0, 1) := by decide +kernel
theorem dX9_judgeThing_390 : decode cX9_judgeThing 390 = .ok (.putfield 143, 3) := by decide +kernel
theorem dX9_judgeThing_393 : decode cX9_judgeThing 393 = .ok (.aload_n 0, 1) := by decide +kernel
theorem dX9_judgeThing_394 : decode cX9_judgeThing 394 = .ok (.iconst 3, 1) := by decide +kernel
theorem dX9_judgeThing_395 : decode cX9_judgeThing 395 = .ok (.invokevirtual 182, 3) := by decide +kernel
theorem dX9_judgeThing_398 : decode cX9_judgeThing 398 = .ok (.aload_n 0, 1) := by decide +kernel
theorem dX9_judgeThing_399 : decode cX9_judgeThing 399 = .ok (.iload_n 1, 1) := by decide +kernel
theorem dX9_judgeThing_400 : decode cX9_judgeThing 400 = .ok (.iload_n 2, 1) := by decide +kernel
theorem dX9_judgeThing_401 : decode cX9_judgeThing 401 = .ok (.sipush 192, 3) := by decide +kernel
theorem dX9_judgeThing_404 : decode cX9_judgeThing 404 = .ok (.if_icmp .ne 7, 3) := by decide +kernel
theorem dX9_judgeThing_407 : decode cX9_judgeThing 407 = .ok (.iconst 3, 1) := by decide +kernel
theorem dX9_judgeThing_408 : decode cX9_judgeThing 408 = .ok (.goto 4, 3) := by decide +kernel
theorem dX9_judgeThing_411 : decode cX9_judgeThing 411 = .ok (.iconst 1, 1) := by decide +kernel
theorem dX9_judgeThing_412 : decode cX9_judgeThing 412 = .ok (.invokevirtual 172, 3) := by decide +kernel
theorem dX9_judgeThing_415 : decode cX9_judgeThing 415 = .ok (.return_, 1) := by decide +kernel
theorem dX9_lead_0 : decode cX9_lead 0 = .ok (.iload_n 2, 1) := by decide +kernel
theorem dX9_lead_1 : decode cX9_lead 1 = .ok (.ifCond .lt 13, 3) := by decide +kernel
theorem dX9_lead_4 : decode cX9_lead 4 = .ok (.iload_n 2, 1) := by decide +kernel
theorem dX9_lead_5 : decode cX9_lead 5 = .ok (.aload_n 0, 1) := by decide +kernel
theorem dX9_lead_6 : decode cX9_lead 6 = .ok (.getfield 49, 3) := by decide +kernel
theorem dX9_lead_9 : decode cX9_lead 9 = .ok (.iload_n 1, 1) := by decide +kernel
theorem dX9_lead_10 : decode cX9_lead 10 = .ok (.iaload, 1) := by decide +kernel
theorem dX9_lead_11 : decode cX9_lead 11 = .ok (.if_icmp .lt 9, 3) := by decide +kernel
theorem dX9_lead_14 : decode cX9_lead 14 = .ok (.aload_n 0, 1) := by decide +kernel
theorem dX9_lead_15 : decode cX9_lead 15 = .ok (.iconst 0, 1) := by decide +kernel
theorem dX9_lead_16 : decode cX9_lead 16 = .ok (.putfield 143, 3) := by decide +kernel
theorem dX9_lead_19 : decode cX9_lead 19 = .ok (.return_, 1) := by decide +kernel
theorem dX9_lead_20 : decode cX9_lead 20 = .ok (.aload_n 0, 1) := by decide +kernel
theorem dX9_lead_21 : decode cX9_lead 21 = .ok (.getfield 52, 3) := by decide +kernel
theorem dX9_lead_24 : decode cX9_lead 24 = .ok (.iload_n 2, 1) := by decide +kernel
theorem dX9_lead_25 : decode cX9_lead 25 = .ok (.baload, 1) := by decide +kernel
theorem dX9_lead_26 : decode cX9_lead 26 = .ok (.ifCond .ne 90, 3) := by decide +kernel
theorem dX9_lead_29 : decode cX9_lead 29 = .ok (.aload_n 0, 1) := by decide +kernel
theorem dX9_lead_30 : decode cX9_lead 30 = .ok (.getfield 52, 3) := by decide +kernel
theorem dX9_lead_33 : decode cX9_lead 33 = .ok (.iload_n 2, 1) := by decide +kernel
theorem dX9_lead_34 : decode cX9_lead 34 = .ok (.iconst 1, 1) := by decide +kernel
theorem dX9_lead_35 : decode cX9_lead 35 = .ok (.bastore, 1) := by decide +kernel
theorem dX9_lead_36 : decode cX9_lead 36 = .ok (.aload_n 0, 1) := by decide +kernel
theorem dX9_lead_37 : decode cX9_lead 37 = .ok (.iconst 1, 1) := by decide +kernel
theorem dX9_lead_38 : decode cX9_lead 38 = .ok (.putfield 154, 3) := by decide +kernel
theorem dX9_lead_41 : decode cX9_lead 41 = .ok (.aload_n 0, 1) := by decide +kernel
theorem dX9_lead_42 : decode cX9_lead 42 = .ok (.getfield 56, 3) := by decide +kernel
theorem dX9_lead_45 : decode cX9_lead 45 = .ok (.iload_n 2, 1) := by decide +kernel
theorem dX9_lead_46 : decode cX9_lead 46 = .ok (.aload_n 0, 1) := by decide +kernel
theorem dX9_lead_47 : decode cX9_lead 47 = .ok (.getfield 147, 3) := by decide +kernel
theorem dX9_lead_50 : decode cX9_lead 50 = .ok (.iastore, 1) := by decide +kernel
theorem dX9_lead_51 : decode cX9_lead 51 = .ok (.iconst 0, 1) := by decide +kernel
theorem dX9_lead_52 : decode cX9_lead 52 = .ok (.istore_n 3, 1) := by decide +kernel
theorem dX9_lead_53 : decode cX9_lead 53 = .ok (.iload_n 3, 1) := by decide +kernel
theorem dX9_lead_54 : decode cX9_lead 54 = .ok (.aload_n 0, 1) := by decide +kernel
theorem dX9_lead_55 : decode cX9_lead 55 = .ok (.getfield 147, 3) := by decide +kernel
theorem dX9_lead_58 : decode cX9_lead 58 = .ok (.if_icmp .ge 26, 3) := by decide +kernel
theorem dX9_lead_61 : decode cX9_lead 61 = .ok (.aload_n 0, 1) := by decide +kernel
theorem dX9_lead_62 : decode cX9_lead 62 = .ok (.getfield 59, 3) := by decide +kernel
theorem dX9_lead_65 : decode cX9_lead 65 = .ok (.bipush 12, 2) := by decide +kernel
theorem dX9_lead_67 : decode cX9_lead 67 = .ok (.iload_n 2, 1) := by decide +kernel
theorem dX9_lead_68 : decode cX9_lead 68 = .ok (.imul, 1) := by decide +kernel
theorem dX9_lead_69 : decode cX9_lead 69 = .ok (.iload_n 3, 1) := by decide +kernel
theorem dX9_lead_70 : decode cX9_lead 70 = .ok (.iadd, 1) := by decide +kernel
theorem dX9_lead_71 : decode cX9_lead 71 = .ok (.aload_n 0, 1) := by decide +kernel
theorem dX9_lead_72 : decode cX9_lead 72 = .ok (.getfield 65, 3) := by decide +kernel
theorem dX9_lead_75 : decode cX9_lead 75 = .ok (.iload_n 3, 1) := by decide +kernel
theorem dX9_lead_76 : decode cX9_lead 76 = .ok (.iaload, 1) := by decide +kernel
theorem dX9_lead_77 : decode cX9_lead 77 = .ok (.iastore, 1) := by decide +kernel
theorem dX9_lead_78 : decode cX9_lead 78 = .ok (.iinc 3 1, 3) := by decide +kernel
theorem dX9_lead_81 : decode cX9_lead 81 = .ok (.goto (-28), 3) := by decide +kernel
theorem dX9_lead_84 : decode cX9_lead 84 = .ok (.iconst 0, 1) := by decide +kernel
theorem dX9_lead_85 : decode cX9_lead 85 = .ok (.istore_n 3, 1) := by decide +kernel
theorem dX9_lead_86 : decode cX9_lead 86 = .ok (.iload_n 3, 1) := by decide +kernel
theorem dX9_lead_87 : decode cX9_lead 87 = .ok (.bipush 16, 2) := by decide +kernel
theorem dX9_lead_89 : decode cX9_lead 89 = .ok (.if_icmp .ge 26, 3) := by decide +kernel
theorem dX9_lead_92 : decode cX9_lead 92 = .ok (.aload_n 0, 1) := by decide +kernel
theorem dX9_lead_93 : decode cX9_lead 93 = .ok (.getfield 62, 3) := by decide +kernel
theorem dX9_lead_96 : decode cX9_lead 96 = .ok (.bipush 16, 2) := by decide +kernel
theorem dX9_lead_98 : decode cX9_lead 98 = .ok (.iload_n 2, 1) := by decide +kernel
theorem dX9_lead_99 : decode cX9_lead 99 = .ok (.imul, 1) := by decide +kernel
theorem dX9_lead_100 : decode cX9_lead 100 = .ok (.iload_n 3, 1) := by decide +kernel
theorem dX9_lead_101 : decode cX9_lead 101 = .ok (.iadd, 1) := by decide +kernel
theorem dX9_lead_102 : decode cX9_lead 102 = .ok (.aload_n 0, 1) := by decide +kernel
theorem dX9_lead_103 : decode cX9_lead 103 = .ok (.getfield 68, 3) := by decide +kernel
theorem dX9_lead_106 : decode cX9_lead 106 = .ok (.iload_n 3, 1) := by decide +kernel
theorem dX9_lead_107 : decode cX9_lead 107 = .ok (.iaload, 1) := by decide +kernel
theorem dX9_lead_108 : decode cX9_lead 108 = .ok (.iastore, 1) := by decide +kernel
theorem dX9_lead_109 : decode cX9_lead 109 = .ok (.iinc 3 1, 3) := by decide +kernel
theorem dX9_lead_112 : decode cX9_lead 112 = .ok (.goto (-26), 3) := by decide +kernel
theorem dX9_lead_115 : decode cX9_lead 115 = .ok (.return_, 1) := by decide +kernel
theorem dX9_lead_116 : decode cX9_lead 116 = .ok (.aload_n 0, 1) := by decide +kernel
theorem dX9_lead_117 : decode cX9_lead 117 = .ok (.aload_n 0, 1) := by decide +kernel
theorem dX9_lead_118 : decode cX9_lead 118 = .ok (.getfield 143, 3) := by decide +kernel
theorem dX9_lead_121 : decode cX9_lead 121 = .ok (.ifCond .eq 20, 3) := by decide +kernel
theorem dX9_lead_124 : decode cX9_lead 124 = .ok (.aload_n 0, 1) := by decide +kernel
theorem dX9_lead_125 : decode cX9_lead 125 = .ok (.getfield 56, 3) := by decide +kernel
theorem dX9_lead_128 : decode cX9_lead 128 = .ok (.iload_n 2, 1) := by decide +kernel
theorem dX9_lead_129 : decode cX9_lead 129 = .ok (.iaload, 1) := by decide +kernel
theorem dX9_lead_130 : decode cX9_lead 130 = .ok (.aload_n 0, 1) := by decide +kernel
theorem dX9_lead_131 : decode cX9_lead 131 = .ok (.getfield 147, 3) := by decide +kernel
theorem dX9_lead_134 : decode cX9_lead 134 = .ok (.if_icmp .ne 7, 3) := by decide +kernel
theorem dX9_lead_137 : decode cX9_lead 137 = .ok (.iconst 1, 1) := by decide +kernel
theorem dX9_lead_138 : decode cX9_lead 138 = .ok (.goto 4, 3) := by decide +kernel
theorem dX9_lead_141 : decode cX9_lead 141 = .ok (.iconst 0, 1) := by decide +kernel
theorem dX9_lead_142 : decode cX9_lead 142 = .ok (.putfield 143, 3) := by decide +kernel
theorem dX9_lead_145 : decode cX9_lead 145 = .ok (.iconst 0, 1) := by decide +kernel
theorem dX9_lead_146 : decode cX9_lead 146 = .ok (.istore_n 3, 1) := by decide +kernel
theorem dX9_lead_147 : decode cX9_lead 147 = .ok (.iload_n 3, 1) := by decide +kernel
theorem dX9_lead_148 : decode cX9_lead 148 = .ok (.aload_n 0, 1) := by decide +kernel
theorem dX9_lead_149 : decode cX9_lead 149 = .ok (.getfield 147, 3) := by decide +kernel
theorem dX9_lead_152 : decode cX9_lead 152 = .ok (.if_icmp .ge 45, 3) := by decide +kernel
theorem dX9_lead_155 : decode cX9_lead 155 = .ok (.aload_n 0, 1) := by decide +kernel
theorem dX9_lead_156 : decode cX9_lead 156 = .ok (.getfield 143, 3) := by decide +kernel
theorem dX9_lead_159 : decode cX9_lead 159 = .ok (.ifCond .eq 38, 3) := by decide +kernel
theorem dX9_lead_162 : decode cX9_lead 162 = .ok (.aload_n 0, 1) := by decide +kernel
theorem dX9_lead_163 : decode cX9_lead 163 = .ok (.aload_n 0, 1) := by decide +kernel
theorem dX9_lead_164 : decode cX9_lead 164 = .ok (.getfield 59, 3) := by decide +kernel
theorem dX9_lead_167 : decode cX9_lead 167 = .ok (.bipush 12, 2) := by decide +kernel
theorem dX9_lead_169 : decode cX9_lead 169 = .ok (.iload_n 2, 1) := by decide +kernel
theorem dX9_lead_170 : decode cX9_lead 170 = .ok (.imul, 1) := by decide +kernel
theorem dX9_lead_171 : decode cX9_lead 171 = .ok (.iload_n 3, 1) := by decide +kernel
theorem dX9_lead_172 : decode cX9_lead 172 = .ok (.iadd, 1) := by decide +kernel
theorem dX9_lead_173 : decode cX9_lead 173 = .ok (.iaload, 1) := by decide +kernel
theorem dX9_lead_174 : decode cX9_lead 174 = .ok (.aload_n 0, 1) := by decide +kernel
theorem dX9_lead_175 : decode cX9_lead 175 = .ok (.getfield 65, 3) := by decide +kernel
theorem dX9_lead_178 : decode cX9_lead 178 = .ok (.iload_n 3, 1) := by decide +kernel
theorem dX9_lead_179 : decode cX9_lead 179 = .ok (.iaload, 1) := by decide +kernel
theorem dX9_lead_180 : decode cX9_lead 180 = .ok (.if_icmp .ne 7, 3) := by decide +kernel
theorem dX9_lead_183 : decode cX9_lead 183 = .ok (.iconst 1, 1) := by decide +kernel
theorem dX9_lead_184 : decode cX9_lead 184 = .ok (.goto 4, 3) := by decide +kernel
theorem dX9_lead_187 : decode cX9_lead 187 = .ok (.iconst 0, 1) := by decide +kernel
theorem dX9_lead_188 : decode cX9_lead 188 = .ok (.putfield 143, 3) := by decide +kernel
theorem dX9_lead_191 : decode cX9_lead 191 = .ok (.iinc 3 1, 3) := by decide +kernel
theorem dX9_lead_194 : decode cX9_lead 194 = .ok (.goto (-47), 3) := by decide +kernel
theorem dX9_lead_197 : decode cX9_lead 197 = .ok (.iconst 0, 1) := by decide +kernel
theorem dX9_lead_198 : decode cX9_lead 198 = .ok (.istore_n 3, 1) := by decide +kernel
theorem dX9_lead_199 : decode cX9_lead 199 = .ok (.iload_n 3, 1) := by decide +kernel
theorem dX9_lead_200 : decode cX9_lead 200 = .ok (.bipush 16, 2) := by decide +kernel
theorem dX9_lead_202 : decode cX9_lead 202 = .ok (.if_icmp .ge 56, 3) := by decide +kernel
theorem dX9_lead_205 : decode cX9_lead 205 = .ok (.bipush 16, 2) := by decide +kernel
theorem dX9_lead_207 : decode cX9_lead 207 = .ok (.iload_n 2, 1) := by decide +kernel
theorem dX9_lead_208 : decode cX9_lead 208 = .ok (.imul, 1) := by decide +kernel
theorem dX9_lead_209 : decode cX9_lead 209 = .ok (.iload_n 3, 1) := by decide +kernel
theorem dX9_lead_210 : decode cX9_lead 210 = .ok (.iadd, 1) := by decide +kernel
theorem dX9_lead_211 : decode cX9_lead 211 = .ok (.istore 4, 2) := by decide +kernel
theorem dX9_lead_213 : decode cX9_lead 213 = .ok (.aload_n 0, 1) := by decide +kernel
theorem dX9_lead_214 : decode cX9_lead 214 = .ok (.getfield 62, 3) := by decide +kernel
theorem dX9_lead_217 : decode cX9_lead 217 = .ok (.iload 4, 2) := by decide +kernel
theorem dX9_lead_219 : decode cX9_lead 219 = .ok (.iaload, 1) := by decide +kernel
theorem dX9_lead_220 : decode cX9_lead 220 = .ok (.aload_n 0, 1) := by decide +kernel
theorem dX9_lead_221 : decode cX9_lead 221 = .ok (.getfield 68, 3) := by decide +kernel
theorem dX9_lead_224 : decode cX9_lead 224 = .ok (.iload_n 3, 1) := by decide +kernel
theorem dX9_lead_225 : decode cX9_lead 225 = .ok (.iaload, 1) := by decide +kernel
theorem dX9_lead_226 : decode cX9_lead 226 = .ok (.if_icmp .eq 26, 3) := by decide +kernel
theorem dX9_lead_229 : decode cX9_lead 229 = .ok (.aload_n 0, 1) := by decide +kernel
theorem dX9_lead_230 : decode cX9_lead 230 = .ok (.getfield 62, 3) := by decide +kernel
theorem dX9_lead_233 : decode cX9_lead 233 = .ok (.iload 4, 2) := by decide +kernel
theorem dX9_lead_235 : decode cX9_lead 235 = .ok (.iaload, 1) := by decide +kernel
theorem dX9_lead_236 : decode cX9_lead 236 = .ok (.ifCond .eq 16, 3) := by decide +kernel
theorem dX9_lead_239 : decode cX9_lead 239 = .ok (.aload_n 0, 1) := by decide +kernel
theorem dX9_lead_240 : decode cX9_lead 240 = .ok (.getfield 62, 3) := by decide +kernel
theorem dX9_lead_243 : decode cX9_lead 243 = .ok (.iload 4, 2) := by decide +kernel
theorem dX9_lead_245 : decode cX9_lead 245 = .ok (.iconst 0, 1) := by decide +kernel
theorem dX9_lead_246 : decode cX9_lead 246 = .ok (.iastore, 1) := by decide +kernel
theorem dX9_lead_247 : decode cX9_lead 247 = .ok (.aload_n 0, 1) := by decide +kernel
theorem dX9_lead_248 : decode cX9_lead 248 = .ok (.iconst 1, 1) := by decide +kernel
theorem dX9_lead_249 : decode cX9_lead 249 = .ok (.putfield 154, 3) := by decide +kernel
theorem dX9_lead_252 : decode cX9_lead 252 = .ok (.iinc 3 1, 3) := by decide +kernel
theorem dX9_lead_255 : decode cX9_lead 255 = .ok (.goto (-56), 3) := by decide +kernel
theorem dX9_lead_258 : decode cX9_lead 258 = .ok (.return_, 1) := by decide +kernel
theorem dX9_length_0 : decode cX9_length 0 = .ok (.iload_n 0, 1) := by decide +kernel
theorem dX9_length_1 : decode cX9_length 1 = .ok (.sipush 153, 3) := by decide +kernel
theorem dX9_length_4 : decode cX9_length 4 = .ok (.if_icmp .lt 10, 3) := by decide +kernel
theorem dX9_length_7 : decode cX9_length 7 = .ok (.iload_n 0, 1) := by decide +kernel
theorem dX9_length_8 : decode cX9_length 8 = .ok (.sipush 167, 3) := by decide +kernel
theorem dX9_length_11 : decode cX9_length 11 = .ok (.if_icmp .le 44, 3) := by decide +kernel
theorem dX9_length_14 : decode cX9_length 14 = .ok (.iload_n 0, 1) := by decide +kernel
theorem dX9_length_15 : decode cX9_length 15 = .ok (.sipush 198, 3) := by decide +kernel
theorem dX9_length_18 : decode cX9_length 18 = .ok (.if_icmp .eq 37, 3) := by decide +kernel
theorem dX9_length_21 : decode cX9_length 21 = .ok (.iload_n 0, 1) := by decide +kernel
theorem dX9_length_22 : decode cX9_length 22 = .ok (.sipush 199, 3) := by decide +kernel
theorem dX9_length_25 : decode cX9_length 25 = .ok (.if_icmp .eq 30, 3) := by decide +kernel
theorem dX9_length_28 : decode cX9_length 28 = .ok (.iload_n 0, 1) := by decide +kernel
theorem dX9_length_29 : decode cX9_length 29 = .ok (.bipush 17, 2) := by decide +kernel
theorem dX9_length_31 : decode cX9_length 31 = .ok (.if_icmp .eq 24, 3) := by decide +kernel
theorem dX9_length_34 : decode cX9_length 34 = .ok (.iload_n 0, 1) := by decide +kernel
theorem dX9_length_35 : decode cX9_length 35 = .ok (.sipush 132, 3) := by decide +kernel
theorem dX9_length_38 : decode cX9_length 38 = .ok (.if_icmp .eq 17, 3) := by decide +kernel
theorem dX9_length_41 : decode cX9_length 41 = .ok (.iload_n 0, 1) := by decide +kernel
theorem dX9_length_42 : decode cX9_length 42 = .ok (.sipush 180, 3) := by decide +kernel
theorem dX9_length_45 : decode cX9_length 45 = .ok (.if_icmp .eq 10, 3) := by decide +kernel
theorem dX9_length_48 : decode cX9_length 48 = .ok (.iload_n 0, 1) := by decide +kernel
theorem dX9_length_49 : decode cX9_length 49 = .ok (.sipush 181, 3) := by decide +kernel
theorem dX9_length_52 : decode cX9_length 52 = .ok (.if_icmp .ne 5, 3) := by decide +kernel
theorem dX9_length_55 : decode cX9_length 55 = .ok (.iconst 3, 1) := by decide +kernel
theorem dX9_length_56 : decode cX9_length 56 = .ok (.ireturn, 1) := by decide +kernel
theorem dX9_length_57 : decode cX9_length 57 = .ok (.iload_n 0, 1) := by decide +kernel
theorem dX9_length_58 : decode cX9_length 58 = .ok (.bipush 16, 2) := by decide +kernel
theorem dX9_length_60 : decode cX9_length 60 = .ok (.if_icmp .eq 74, 3) := by decide +kernel
theorem dX9_length_63 : decode cX9_length 63 = .ok (.iload_n 0, 1) := by decide +kernel
theorem dX9_length_64 : decode cX9_length 64 = .ok (.bipush 21, 2) := by decide +kernel
theorem dX9_length_66 : decode cX9_length 66 = .ok (.if_icmp .eq 68, 3) := by decide +kernel
theorem dX9_length_69 : decode cX9_length 69 = .ok (.iload_n 0, 1) := by decide +kernel
theorem dX9_length_70 : decode cX9_length 70 = .ok (.bipush 22, 2) := by decide +kernel
theorem dX9_length_72 : decode cX9_length 72 = .ok (.if_icmp .eq 62, 3) := by decide +kernel
theorem dX9_length_75 : decode cX9_length 75 = .ok (.iload_n 0, 1) := by decide +kernel
theorem dX9_length_76 : decode cX9_length 76 = .ok (.bipush 25, 2) := by decide +kernel
theorem dX9_length_78 : decode cX9_length 78 = .ok (.if_icmp .eq 56, 3) := by decide +kernel
theorem dX9_length_81 : decode cX9_length 81 = .ok (.iload_n 0, 1) := by decide +kernel
theorem dX9_length_82 : decode cX9_length 82 = .ok (.bipush 54, 2) := by decide +kernel
theorem dX9_length_84 : decode cX9_length 84 = .ok (.if_icmp .eq 50, 3) := by decide +kernel
theorem dX9_length_87 : decode cX9_length 87 = .ok (.iload_n 0, 1) := by decide +kernel
theorem dX9_length_88 : decode cX9_length 88 = .ok (.bipush 55, 2) := by decide +kernel
theorem dX9_length_90 : decode cX9_length 90 = .ok (.if_icmp .eq 44, 3) := by decide +kernel
theorem dX9_length_93 : decode cX9_length 93 = .ok (.iload_n 0, 1) := by decide +kernel
theorem dX9_length_94 : decode cX9_length 94 = .ok (.bipush 58, 2) := by decide +kernel
theorem dX9_length_96 : decode cX9_length 96 = .ok (.if_icmp .eq 38, 3) := by decide +kernel
theorem dX9_length_99 : decode cX9_length 99 = .ok (.iload_n 0, 1) := by decide +kernel
theorem dX9_length_100 : decode cX9_length 100 = .ok (.sipush 184, 3) := by decide +kernel
theorem dX9_length_103 : decode cX9_length 103 = .ok (.if_icmp .eq 31, 3) := by decide +kernel
theorem dX9_length_106 : decode cX9_length 106 = .ok (.iload_n 0, 1) := by decide +kernel
theorem dX9_length_107 : decode cX9_length 107 = .ok (.sipush 187, 3) := by decide +kernel
theorem dX9_length_110 : decode cX9_length 110 = .ok (.if_icmp .eq 24, 3) := by decide +kernel
theorem dX9_length_113 : decode cX9_length 113 = .ok (.iload_n 0, 1) := by decide +kernel
theorem dX9_length_114 : decode cX9_length 114 = .ok (.sipush 188, 3) := by decide +kernel
theorem dX9_length_117 : decode cX9_length 117 = .ok (.if_icmp .eq 17, 3) := by decide +kernel
theorem dX9_length_120 : decode cX9_length 120 = .ok (.iload_n 0, 1) := by decide +kernel
theorem dX9_length_121 : decode cX9_length 121 = .ok (.sipush 192, 3) := by decide +kernel
theorem dX9_length_124 : decode cX9_length 124 = .ok (.if_icmp .eq 10, 3) := by decide +kernel
theorem dX9_length_127 : decode cX9_length 127 = .ok (.iload_n 0, 1) := by decide +kernel
theorem dX9_length_128 : decode cX9_length 128 = .ok (.sipush 193, 3) := by decide +kernel
theorem dX9_length_131 : decode cX9_length 131 = .ok (.if_icmp .ne 5, 3) := by decide +kernel
theorem dX9_length_134 : decode cX9_length 134 = .ok (.iconst 2, 1) := by decide +kernel
theorem dX9_length_135 : decode cX9_length 135 = .ok (.ireturn, 1) := by decide +kernel
theorem dX9_length_136 : decode cX9_length 136 = .ok (.iload_n 0, 1) := by decide +kernel
theorem dX9_length_137 : decode cX9_length 137 = .ok (.ifCond .lt 9, 3) := by decide +kernel
theorem dX9_length_140 : decode cX9_length 140 = .ok (.iload_n 0, 1) := by decide +kernel
theorem dX9_length_141 : decode cX9_length 141 = .ok (.bipush 10, 2) := by decide +kernel
theorem dX9_length_143 : decode cX9_length 143 = .ok (.if_icmp .le 69, 3) := by decide +kernel
theorem dX9_length_146 : decode cX9_length 146 = .ok (.iload_n 0, 1) := by decide +kernel
theorem dX9_length_147 : decode cX9_length 147 = .ok (.bipush 46, 2) := by decide +kernel
theorem dX9_length_149 : decode cX9_length 149 = .ok (.if_icmp .lt 21, 3) := by decide +kernel
theorem dX9_length_152 : decode cX9_length 152 = .ok (.iload_n 0, 1) := by decide +kernel
theorem dX9_length_153 : decode cX9_length 153 = .ok (.bipush 53, 2) := by decide +kernel
theorem dX9_length_155 : decode cX9_length 155 = .ok (.if_icmp .gt 15, 3) := by decide +kernel
theorem dX9_length_158 : decode cX9_length 158 = .ok (.iload_n 0, 1) := by decide +kernel
theorem dX9_length_159 : decode cX9_length 159 = .ok (.bipush 48, 2) := by decide +kernel
theorem dX9_length_161 : decode cX9_length 161 = .ok (.if_icmp .eq 9, 3) := by decide +kernel
theorem dX9_length_164 : decode cX9_length 164 = .ok (.iload_n 0, 1) := by decide +kernel
theorem dX9_length_165 : decode cX9_length 165 = .ok (.bipush 49, 2) := by decide +kernel
theorem dX9_length_167 : decode cX9_length 167 = .ok (.if_icmp .ne 45, 3) := by decide +kernel
theorem dX9_length_170 : decode cX9_length 170 = .ok (.iload_n 0, 1) := by decide +kernel
theorem dX9_length_171 : decode cX9_length 171 = .ok (.bipush 79, 2) := by decide +kernel
theorem dX9_length_173 : decode cX9_length 173 = .ok (.if_icmp .lt 21, 3) := by decide +kernel
theorem dX9_length_176 : decode cX9_length 176 = .ok (.iload_n 0, 1) := by decide +kernel
theorem dX9_length_177 : decode cX9_length 177 = .ok (.bipush 86, 2) := by decide +kernel
theorem dX9_length_179 : decode cX9_length 179 = .ok (.if_icmp .gt 15, 3) := by decide +kernel
theorem dX9_length_182 : decode cX9_length 182 = .ok (.iload_n 0, 1) := by decide +kernel
theorem dX9_length_183 : decode cX9_length 183 = .ok (.bipush 81, 2) := by decide +kernel
theorem dX9_length_185 : decode cX9_length 185 = .ok (.if_icmp .eq 9, 3) := by decide +kernel
theorem dX9_length_188 : decode cX9_length 188 = .ok (.iload_n 0, 1) := by decide +kernel
theorem dX9_length_189 : decode cX9_length 189 = .ok (.bipush 82, 2) := by decide +kernel
theorem dX9_length_191 : decode cX9_length 191 = .ok (.if_icmp .ne 21, 3) := by decide +kernel
theorem dX9_length_194 : decode cX9_length 194 = .ok (.iload_n 0, 1) := by decide +kernel
theorem dX9_length_195 : decode cX9_length 195 = .ok (.bipush 87, 2) := by decide +kernel
theorem dX9_length_197 : decode cX9_length 197 = .ok (.if_icmp .lt 9, 3) := by decide +kernel
theorem dX9_length_200 : decode cX9_length 200 = .ok (.iload_n 0, 1) := by decide +kernel
theorem dX9_length_201 : decode cX9_length 201 = .ok (.bipush 89, 2) := by decide +kernel
theorem dX9_length_203 : decode cX9_length 203 = .ok (.if_icmp .le 9, 3) := by decide +kernel
theorem dX9_length_206 : decode cX9_length 206 = .ok (.iload_n 0, 1) := by decide +kernel
theorem dX9_length_207 : decode cX9_length 207 = .ok (.bipush 95, 2) := by decide +kernel
theorem dX9_length_209 : decode cX9_length 209 = .ok (.if_icmp .ne 7, 3) := by decide +kernel
theorem dX9_length_212 : decode cX9_length 212 = .ok (.iconst 1, 1) := by decide +kernel
theorem dX9_length_213 : decode cX9_length 213 = .ok (.goto 4, 3) := by decide +kernel
theorem dX9_length_216 : decode cX9_length 216 = .ok (.iconst 0, 1) := by decide +kernel
theorem dX9_length_217 : decode cX9_length 217 = .ok (.istore_n 1, 1) := by decide +kernel
theorem dX9_length_218 : decode cX9_length 218 = .ok (.iload_n 0, 1) := by decide +kernel
theorem dX9_length_219 : decode cX9_length 219 = .ok (.bipush 96, 2) := by decide +kernel
theorem dX9_length_221 : decode cX9_length 221 = .ok (.if_icmp .lt 16, 3) := by decide +kernel
theorem dX9_length_224 : decode cX9_length 224 = .ok (.iload_n 0, 1) := by decide +kernel
theorem dX9_length_225 : decode cX9_length 225 = .ok (.bipush 117, 2) := by decide +kernel
theorem dX9_length_227 : decode cX9_length 227 = .ok (.if_icmp .gt 10, 3) := by decide +kernel
theorem dX9_length_230 : decode cX9_length 230 = .ok (.iload_n 0, 1) := by decide +kernel
theorem dX9_length_231 : decode cX9_length 231 = .ok (.iconst 4, 1) := by decide +kernel
theorem dX9_length_232 : decode cX9_length 232 = .ok (.irem, 1) := by decide +kernel
theorem dX9_length_233 : decode cX9_length 233 = .ok (.iconst 2, 1) := by decide +kernel
theorem dX9_length_234 : decode cX9_length 234 = .ok (.if_icmp .lt 44, 3) := by decide +kernel
theorem dX9_length_237 : decode cX9_length 237 = .ok (.iload_n 0, 1) := by decide +kernel
theorem dX9_length_238 : decode cX9_length 238 = .ok (.bipush 120, 2) := by decide +kernel
theorem dX9_length_240 : decode cX9_length 240 = .ok (.if_icmp .lt 10, 3) := by decide +kernel
theorem dX9_length_243 : decode cX9_length 243 = .ok (.iload_n 0, 1) := by decide +kernel
theorem dX9_length_244 : decode cX9_length 244 = .ok (.sipush 131, 3) := by decide +kernel
theorem dX9_length_247 : decode cX9_length 247 = .ok (.if_icmp .le 31, 3) := by decide +kernel
theorem dX9_length_250 : decode cX9_length 250 = .ok (.iload_n 0, 1) := by decide +kernel
theorem dX9_length_251 : decode cX9_length 251 = .ok (.sipush 133, 3) := by decide +kernel
theorem dX9_length_254 : decode cX9_length 254 = .ok (.if_icmp .eq 24, 3) := by decide +kernel
theorem dX9_length_257 : decode cX9_length 257 = .ok (.iload_n 0, 1) := by decide +kernel
theorem dX9_length_258 : decode cX9_length 258 = .ok (.sipush 136, 3) := by decide +kernel
theorem dX9_length_261 : decode cX9_length 261 = .ok (.if_icmp .eq 17, 3) := by decide +kernel
theorem dX9_length_264 : decode cX9_length 264 = .ok (.iload_n 0, 1) := by decide +kernel
theorem dX9_length_265 : decode cX9_length 265 = .ok (.sipush 145, 3) := by decide +kernel
theorem dX9_length_268 : decode cX9_length 268 = .ok (.if_icmp .lt 14, 3) := by decide +kernel
theorem dX9_length_271 : decode cX9_length 271 = .ok (.iload_n 0, 1) := by decide +kernel
theorem dX9_length_272 : decode cX9_length 272 = .ok (.sipush 148, 3) := by decide +kernel
theorem dX9_length_275 : decode cX9_length 275 = .ok (.if_icmp .gt 7, 3) := by decide +kernel
theorem dX9_length_278 : decode cX9_length 278 = .ok (.iconst 1, 1) := by decide +kernel
theorem dX9_length_279 : decode cX9_length 279 = .ok (.goto 4, 3) := by decide +kernel
theorem dX9_length_282 : decode cX9_length 282 = .ok (.iconst 0, 1) := by decide +kernel
theorem dX9_length_283 : decode cX9_length 283 = .ok (.istore_n 2, 1) := by decide +kernel
theorem dX9_length_284 : decode cX9_length 284 = .ok (.iload_n 0, 1) := by decide +kernel
theorem dX9_length_285 : decode cX9_length 285 = .ok (.sipush 172, 3) := by decide +kernel
theorem dX9_length_288 : decode cX9_length 288 = .ok (.if_icmp .eq 38, 3) := by decide +kernel
theorem dX9_length_291 : decode cX9_length 291 = .ok (.iload_n 0, 1) := by decide +kernel
theorem dX9_length_292 : decode cX9_length 292 = .ok (.sipush 173, 3) := by decide +kernel
theorem dX9_length_295 : decode cX9_length 295 = .ok (.if_icmp .eq 31, 3) := by decide +kernel
theorem dX9_length_298 : decode cX9_length 298 = .ok (.iload_n 0, 1) := by decide +kernel
theorem dX9_length_299 : decode cX9_length 299 = .ok (.sipush 176, 3) := by decide +kernel
theorem dX9_length_302 : decode cX9_length 302 = .ok (.if_icmp .eq 24, 3) := by decide +kernel
theorem dX9_length_305 : decode cX9_length 305 = .ok (.iload_n 0, 1) := by decide +kernel
theorem dX9_length_306 : decode cX9_length 306 = .ok (.sipush 177, 3) := by decide +kernel
theorem dX9_length_309 : decode cX9_length 309 = .ok (.if_icmp .eq 17, 3) := by decide +kernel
theorem dX9_length_312 : decode cX9_length 312 = .ok (.iload_n 0, 1) := by decide +kernel
theorem dX9_length_313 : decode cX9_length 313 = .ok (.sipush 189, 3) := by decide +kernel
theorem dX9_length_316 : decode cX9_length 316 = .ok (.if_icmp .lt 14, 3) := by decide +kernel
theorem dX9_length_319 : decode cX9_length 319 = .ok (.iload_n 0, 1) := by decide +kernel
theorem dX9_length_320 : decode cX9_length 320 = .ok (.sipush 191, 3) := by decide +kernel
theorem dX9_length_323 : decode cX9_length 323 = .ok (.if_icmp .gt 7, 3) := by decide +kernel
theorem dX9_length_326 : decode cX9_length 326 = .ok (.iconst 1, 1) := by decide +kernel
theorem dX9_length_327 : decode cX9_length 327 = .ok (.goto 4, 3) := by decide +kernel
theorem dX9_length_330 : decode cX9_length 330 = .ok (.iconst 0, 1) := by decide +kernel
theorem dX9_length_331 : decode cX9_length 331 = .ok (.istore_n 3, 1) := by decide +kernel
theorem dX9_length_332 : decode cX9_length 332 = .ok (.iload_n 1, 1) := by decide +kernel
theorem dX9_length_333 : decode cX9_length 333 = .ok (.ifCond .ne 11, 3) := by decide +kernel
theorem dX9_length_336 : decode cX9_length 336 = .ok (.iload_n 2, 1) := by decide +kernel
theorem dX9_length_337 : decode cX9_length 337 = .ok (.ifCond .ne 7, 3) := by decide +kernel
theorem dX9_length_340 : decode cX9_length 340 = .ok (.iload_n 3, 1) := by decide +kernel
theorem dX9_length_341 : decode cX9_length 341 = .ok (.ifCond .eq 7, 3) := by decide +kernel
theorem dX9_length_344 : decode cX9_length 344 = .ok (.iconst 1, 1) := by decide +kernel
theorem dX9_length_345 : decode cX9_length 345 = .ok (.goto 4, 3) := by decide +kernel
theorem dX9_length_348 : decode cX9_length 348 = .ok (.iconst 0, 1) := by decide +kernel
theorem dX9_length_349 : decode cX9_length 349 = .ok (.ireturn, 1) := by decide +kernel
theorem dX9_take_0 : decode cX9_take 0 = .ok (.aload_n 0, 1) := by decide +kernel
theorem dX9_take_1 : decode cX9_take 1 = .ok (.aload_n 0, 1) := by decide +kernel
theorem dX9_take_2 : decode cX9_take 2 = .ok (.getfield 56, 3) := by decide +kernel
theorem dX9_take_5 : decode cX9_take 5 = .ok (.iload_n 1, 1) := by decide +kernel
theorem dX9_take_6 : decode cX9_take 6 = .ok (.iaload, 1) := by decide +kernel
theorem dX9_take_7 : decode cX9_take 7 = .ok (.putfield 147, 3) := by decide +kernel
theorem dX9_take_10 : decode cX9_take 10 = .ok (.iconst 0, 1) := by decide +kernel
theorem dX9_take_11 : decode cX9_take 11 = .ok (.istore_n 2, 1) := by decide +kernel
theorem dX9_take_12 : decode cX9_take 12 = .ok (.iload_n 2, 1) := by decide +kernel
theorem dX9_take_13 : decode cX9_take 13 = .ok (.aload_n 0, 1) := by decide +kernel
theorem dX9_take_14 : decode cX9_take 14 = .ok (.getfield 147, 3) := by decide +kernel
theorem dX9_take_17 : decode cX9_take 17 = .ok (.if_icmp .ge 26, 3) := by decide +kernel
theorem dX9_take_20 : decode cX9_take 20 = .ok (.aload_n 0, 1) := by decide +kernel
theorem dX9_take_21 : decode cX9_take 21 = .ok (.getfield 65, 3) := by decide +kernel
theorem dX9_take_24 : decode cX9_take 24 = .ok (.iload_n 2, 1) := by decide +kernel
theorem dX9_take_25 : decode cX9_take 25 = .ok (.aload_n 0, 1) := by decide +kernel
theorem dX9_take_26 : decode cX9_take 26 = .ok (.getfield 59, 3) := by decide +kernel
theorem dX9_take_29 : decode cX9_take 29 = .ok (.bipush 12, 2) := by decide +kernel
theorem dX9_take_31 : decode cX9_take 31 = .ok (.iload_n 1, 1) := by decide +kernel
theorem dX9_take_32 : decode cX9_take 32 = .ok (.imul, 1) := by decide +kernel
theorem dX9_take_33 : decode cX9_take 33 = .ok (.iload_n 2, 1) := by decide +kernel
theorem dX9_take_34 : decode cX9_take 34 = .ok (.iadd, 1) := by decide +kernel
theorem dX9_take_35 : decode cX9_take 35 = .ok (.iaload, 1) := by decide +kernel
theorem dX9_take_36 : decode cX9_take 36 = .ok (.iastore, 1) := by decide +kernel
theorem dX9_take_37 : decode cX9_take 37 = .ok (.iinc 2 1, 3) := by decide +kernel
theorem dX9_take_40 : decode cX9_take 40 = .ok (.goto (-28), 3) := by decide +kernel
theorem dX9_take_43 : decode cX9_take 43 = .ok (.iconst 0, 1) := by decide +kernel
theorem dX9_take_44 : decode cX9_take 44 = .ok (.istore_n 2, 1) := by decide +kernel
theorem dX9_take_45 : decode cX9_take 45 = .ok (.iload_n 2, 1) := by decide +kernel
theorem dX9_take_46 : decode cX9_take 46 = .ok (.bipush 16, 2) := by decide +kernel
theorem dX9_take_48 : decode cX9_take 48 = .ok (.if_icmp .ge 26, 3) := by decide +kernel
theorem dX9_take_51 : decode cX9_take 51 = .ok (.aload_n 0, 1) := by decide +kernel
theorem dX9_take_52 : decode cX9_take 52 = .ok (.getfield 68, 3) := by decide +kernel
theorem dX9_take_55 : decode cX9_take 55 = .ok (.iload_n 2, 1) := by decide +kernel
theorem dX9_take_56 : decode cX9_take 56 = .ok (.aload_n 0, 1) := by decide +kernel
theorem dX9_take_57 : decode cX9_take 57 = .ok (.getfield 62, 3) := by decide +kernel
theorem dX9_take_60 : decode cX9_take 60 = .ok (.bipush 16, 2) := by decide +kernel
theorem dX9_take_62 : decode cX9_take 62 = .ok (.iload_n 1, 1) := by decide +kernel
theorem dX9_take_63 : decode cX9_take 63 = .ok (.imul, 1) := by decide +kernel
theorem dX9_take_64 : decode cX9_take 64 = .ok (.iload_n 2, 1) := by decide +kernel
theorem dX9_take_65 : decode cX9_take 65 = .ok (.iadd, 1) := by decide +kernel
theorem dX9_take_66 : decode cX9_take 66 = .ok (.iaload, 1) := by decide +kernel
theorem dX9_take_67 : decode cX9_take 67 = .ok (.iastore, 1) := by decide +kernel
theorem dX9_take_68 : decode cX9_take 68 = .ok (.iinc 2 1, 3) := by decide +kernel
theorem dX9_take_71 : decode cX9_take 71 = .ok (.goto (-26), 3) := by decide +kernel
theorem dX9_take_74 : decode cX9_take 74 = .ok (.return_, 1) := by decide +kernel
theorem dX9_signed_0 : decode cX9_signed 0 = .ok (.iload_n 0, 1) := by decide +kernel
theorem dX9_signed_1 : decode cX9_signed 1 = .ok (.bipush 127, 2) := by decide +kernel
theorem dX9_signed_3 : decode cX9_signed 3 = .ok (.if_icmp .le 11, 3) := by decide +kernel
theorem dX9_signed_6 : decode cX9_signed 6 = .ok (.iload_n 0, 1) := by decide +kernel
theorem dX9_signed_7 : decode cX9_signed 7 = .ok (.sipush 256, 3) := by decide +kernel
theorem dX9_signed_10 : decode cX9_signed 10 = .ok (.isub, 1) := by decide +kernel
theorem dX9_signed_11 : decode cX9_signed 11 = .ok (.goto 4, 3) := by decide +kernel
theorem dX9_signed_14 : decode cX9_signed 14 = .ok (.iload_n 0, 1) := by decide +kernel
theorem dX9_signed_15 : decode cX9_signed 15 = .ok (.ireturn, 1) := by decide +kernel
theorem dX9_to_0 : decode cX9_to 0 = .ok (.iload_n 2, 1) := by decide +kernel
theorem dX9_to_1 : decode cX9_to 1 = .ok (.aload_n 0, 1) := by decide +kernel
theorem dX9_to_2 : decode cX9_to 2 = .ok (.iload_n 1, 1) := by decide +kernel
theorem dX9_to_3 : decode cX9_to 3 = .ok (.iload_n 2, 1) := by decide +kernel
theorem dX9_to_4 : decode cX9_to 4 = .ok (.iconst 1, 1) := by decide +kernel
theorem dX9_to_5 : decode cX9_to 5 = .ok (.iadd, 1) := by decide +kernel
theorem dX9_to_6 : decode cX9_to 6 = .ok (.invokevirtual 160, 3) := by decide +kernel
theorem dX9_to_9 : decode cX9_to 9 = .ok (.invokestatic 164, 3) := by decide +kernel
theorem dX9_to_12 : decode cX9_to 12 = .ok (.sipush 256, 3) := by decide +kernel
theorem dX9_to_15 : decode cX9_to 15 = .ok (.imul, 1) := by decide +kernel
theorem dX9_to_16 : decode cX9_to 16 = .ok (.iadd, 1) := by decide +kernel
theorem dX9_to_17 : decode cX9_to 17 = .ok (.aload_n 0, 1) := by decide +kernel
theorem dX9_to_18 : decode cX9_to 18 = .ok (.iload_n 1, 1) := by decide +kernel
theorem dX9_to_19 : decode cX9_to 19 = .ok (.iload_n 2, 1) := by decide +kernel
theorem dX9_to_20 : decode cX9_to 20 = .ok (.iconst 2, 1) := by decide +kernel
theorem dX9_to_21 : decode cX9_to 21 = .ok (.iadd, 1) := by decide +kernel
theorem dX9_to_22 : decode cX9_to 22 = .ok (.invokevirtual 160, 3) := by decide +kernel
theorem dX9_to_25 : decode cX9_to 25 = .ok (.iadd, 1) := by decide +kernel
theorem dX9_to_26 : decode cX9_to 26 = .ok (.ireturn, 1) := by decide +kernel
theorem dX9_judge_0 : decode cX9_judge 0 = .ok (.aload_n 0, 1) := by decide +kernel
theorem dX9_judge_1 : decode cX9_judge 1 = .ok (.iload_n 2, 1) := by decide +kernel
theorem dX9_judge_2 : decode cX9_judge 2 = .ok (.invokevirtual 168, 3) := by decide +kernel
theorem dX9_judge_5 : decode cX9_judge 5 = .ok (.iconst 0, 1) := by decide +kernel
theorem dX9_judge_6 : decode cX9_judge 6 = .ok (.istore_n 3, 1) := by decide +kernel
theorem dX9_judge_7 : decode cX9_judge 7 = .ok (.iload_n 3, 1) := by decide +kernel
theorem dX9_judge_8 : decode cX9_judge 8 = .ok (.aload_n 0, 1) := by decide +kernel
theorem dX9_judge_9 : decode cX9_judge 9 = .ok (.getfield 28, 3) := by decide +kernel
theorem dX9_judge_12 : decode cX9_judge 12 = .ok (.iload_n 1, 1) := by decide +kernel
theorem dX9_judge_13 : decode cX9_judge 13 = .ok (.iaload, 1) := by decide +kernel
theorem dX9_judge_14 : decode cX9_judge 14 = .ok (.if_icmp .ge 87, 3) := by decide +kernel
theorem dX9_judge_17 : decode cX9_judge 17 = .ok (.aload_n 0, 1) := by decide +kernel
theorem dX9_judge_18 : decode cX9_judge 18 = .ok (.getfield 143, 3) := by decide +kernel
theorem dX9_judge_21 : decode cX9_judge 21 = .ok (.ifCond .eq 80, 3) := by decide +kernel
theorem dX9_judge_24 : decode cX9_judge 24 = .ok (.bipush 32, 2) := by decide +kernel
theorem dX9_judge_26 : decode cX9_judge 26 = .ok (.iload_n 1, 1) := by decide +kernel
theorem dX9_judge_27 : decode cX9_judge 27 = .ok (.imul, 1) := by decide +kernel
theorem dX9_judge_28 : decode cX9_judge 28 = .ok (.iconst 4, 1) := by decide +kernel
theorem dX9_judge_29 : decode cX9_judge 29 = .ok (.iload_n 3, 1) := by decide +kernel
theorem dX9_judge_30 : decode cX9_judge 30 = .ok (.imul, 1) := by decide +kernel
theorem dX9_judge_31 : decode cX9_judge 31 = .ok (.iadd, 1) := by decide +kernel
theorem dX9_judge_32 : decode cX9_judge 32 = .ok (.istore 4, 2) := by decide +kernel
theorem dX9_judge_34 : decode cX9_judge 34 = .ok (.aload_n 0, 1) := by decide +kernel
theorem dX9_judge_35 : decode cX9_judge 35 = .ok (.getfield 25, 3) := by decide +kernel
theorem dX9_judge_38 : decode cX9_judge 38 = .ok (.iload 4, 2) := by decide +kernel
theorem dX9_judge_40 : decode cX9_judge 40 = .ok (.iaload, 1) := by decide +kernel
theorem dX9_judge_41 : decode cX9_judge 41 = .ok (.iload_n 2, 1) := by decide +kernel
theorem dX9_judge_42 : decode cX9_judge 42 = .ok (.if_icmp .gt 53, 3) := by decide +kernel
theorem dX9_judge_45 : decode cX9_judge 45 = .ok (.iload_n 2, 1) := by decide +kernel
theorem dX9_judge_46 : decode cX9_judge 46 = .ok (.aload_n 0, 1) := by decide +kernel
theorem dX9_judge_47 : decode cX9_judge 47 = .ok (.getfield 25, 3) := by decide +kernel
theorem dX9_judge_50 : decode cX9_judge 50 = .ok (.iload 4, 2) := by decide +kernel
theorem dX9_judge_52 : decode cX9_judge 52 = .ok (.iconst 1, 1) := by decide +kernel
theorem dX9_judge_53 : decode cX9_judge 53 = .ok (.iadd, 1) := by decide +kernel
theorem dX9_judge_54 : decode cX9_judge 54 = .ok (.iaload, 1) := by decide +kernel
theorem dX9_judge_55 : decode cX9_judge 55 = .ok (.if_icmp .ge 40, 3) := by decide +kernel
theorem dX9_judge_58 : decode cX9_judge 58 = .ok (.aload_n 0, 1) := by decide +kernel
theorem dX9_judge_59 : decode cX9_judge 59 = .ok (.iconst 0, 1) := by decide +kernel
theorem dX9_judge_60 : decode cX9_judge 60 = .ok (.putfield 147, 3) := by decide +kernel
theorem dX9_judge_63 : decode cX9_judge 63 = .ok (.aload_n 0, 1) := by decide +kernel
theorem dX9_judge_64 : decode cX9_judge 64 = .ok (.iload_n 1, 1) := by decide +kernel
theorem dX9_judge_65 : decode cX9_judge 65 = .ok (.iconst 3, 1) := by decide +kernel
theorem dX9_judge_66 : decode cX9_judge 66 = .ok (.invokevirtual 172, 3) := by decide +kernel
theorem dX9_judge_69 : decode cX9_judge 69 = .ok (.aload_n 0, 1) := by decide +kernel
theorem dX9_judge_70 : decode cX9_judge 70 = .ok (.getfield 143, 3) := by decide +kernel
theorem dX9_judge_73 : decode cX9_judge 73 = .ok (.ifCond .eq 17, 3) := by decide +kernel
theorem dX9_judge_76 : decode cX9_judge 76 = .ok (.aload_n 0, 1) := by decide +kernel
theorem dX9_judge_77 : decode cX9_judge 77 = .ok (.iload_n 1, 1) := by decide +kernel
theorem dX9_judge_78 : decode cX9_judge 78 = .ok (.aload_n 0, 1) := by decide +kernel
theorem dX9_judge_79 : decode cX9_judge 79 = .ok (.getfield 25, 3) := by decide +kernel
