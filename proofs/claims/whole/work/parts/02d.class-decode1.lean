theorem dX5_shapeOfHeapUse_130 : decode cX5_shapeOfHeapUse 130 = .ok (.iconst 3, 1) := by decide +kernel
theorem dX5_shapeOfHeapUse_131 : decode cX5_shapeOfHeapUse 131 = .ok (.invokestatic 24, 3) := by decide +kernel
theorem dX5_shapeOfHeapUse_134 : decode cX5_shapeOfHeapUse 134 = .ok (.ireturn, 1) := by decide +kernel
theorem dX5_shapeOfHeapUse_135 : decode cX5_shapeOfHeapUse 135 = .ok (.iconst 2, 1) := by decide +kernel
theorem dX5_shapeOfHeapUse_136 : decode cX5_shapeOfHeapUse 136 = .ok (.iconst 3, 1) := by decide +kernel
theorem dX5_shapeOfHeapUse_137 : decode cX5_shapeOfHeapUse 137 = .ok (.iconst 1, 1) := by decide +kernel
theorem dX5_shapeOfHeapUse_138 : decode cX5_shapeOfHeapUse 138 = .ok (.invokestatic 24, 3) := by decide +kernel
theorem dX5_shapeOfHeapUse_141 : decode cX5_shapeOfHeapUse 141 = .ok (.ireturn, 1) := by decide +kernel
theorem dX5_shapeOfHeapUse_142 : decode cX5_shapeOfHeapUse 142 = .ok (.iconst 0, 1) := by decide +kernel
theorem dX5_shapeOfHeapUse_143 : decode cX5_shapeOfHeapUse 143 = .ok (.ireturn, 1) := by decide +kernel
theorem dX5_shapeOfMove_0 : decode cX5_shapeOfMove 0 = .ok (.iload_n 0, 1) := by decide +kernel
theorem dX5_shapeOfMove_1 : decode cX5_shapeOfMove 1 = .ok (.iconst 2, 1) := by decide +kernel
theorem dX5_shapeOfMove_2 : decode cX5_shapeOfMove 2 = .ok (.if_icmp .lt 16, 3) := by decide +kernel
theorem dX5_shapeOfMove_5 : decode cX5_shapeOfMove 5 = .ok (.iload_n 0, 1) := by decide +kernel
theorem dX5_shapeOfMove_6 : decode cX5_shapeOfMove 6 = .ok (.bipush 8, 2) := by decide +kernel
theorem dX5_shapeOfMove_8 : decode cX5_shapeOfMove 8 = .ok (.if_icmp .gt 10, 3) := by decide +kernel
theorem dX5_shapeOfMove_11 : decode cX5_shapeOfMove 11 = .ok (.iconst 1, 1) := by decide +kernel
theorem dX5_shapeOfMove_12 : decode cX5_shapeOfMove 12 = .ok (.iconst 0, 1) := by decide +kernel
theorem dX5_shapeOfMove_13 : decode cX5_shapeOfMove 13 = .ok (.iconst 1, 1) := by decide +kernel
theorem dX5_shapeOfMove_14 : decode cX5_shapeOfMove 14 = .ok (.invokestatic 24, 3) := by decide +kernel
theorem dX5_shapeOfMove_17 : decode cX5_shapeOfMove 17 = .ok (.ireturn, 1) := by decide +kernel
theorem dX5_shapeOfMove_18 : decode cX5_shapeOfMove 18 = .ok (.iload_n 0, 1) := by decide +kernel
theorem dX5_shapeOfMove_19 : decode cX5_shapeOfMove 19 = .ok (.tableswitch 479 0 86 #[361, 368, 479, 479, 479, 479, 479, 479, 479, 375, 375, 479, 479, 479, 479, 479, 382, 389, 479, 479, 479, 382, 396, 479, 479, 403, 479, 479, 479, 479, 479, 479, 479, 479, 479, 479, 479, 479, 479, 479, 479, 479, 479, 479, 479, 479, 431, 439, 479, 479, 447, 431, 431, 431, 410, 417, 479, 479, 424, 479, 479, 479, 479, 479, 479, 479, 479, 479, 479, 479, 479, 479, 479, 479, 479, 479, 479, 479, 479, 455, 463, 479, 479, 471, 455, 455, 455], 361) := by decide +kernel
theorem dX5_shapeOfMove_380 : decode cX5_shapeOfMove 380 = .ok (.iconst 1, 1) := by decide +kernel
theorem dX5_shapeOfMove_381 : decode cX5_shapeOfMove 381 = .ok (.iconst 0, 1) := by decide +kernel
theorem dX5_shapeOfMove_382 : decode cX5_shapeOfMove 382 = .ok (.iconst 0, 1) := by decide +kernel
theorem dX5_shapeOfMove_383 : decode cX5_shapeOfMove 383 = .ok (.invokestatic 24, 3) := by decide +kernel
theorem dX5_shapeOfMove_386 : decode cX5_shapeOfMove 386 = .ok (.ireturn, 1) := by decide +kernel
theorem dX5_shapeOfMove_387 : decode cX5_shapeOfMove 387 = .ok (.iconst 1, 1) := by decide +kernel
theorem dX5_shapeOfMove_388 : decode cX5_shapeOfMove 388 = .ok (.iconst 0, 1) := by decide +kernel
theorem dX5_shapeOfMove_389 : decode cX5_shapeOfMove 389 = .ok (.iconst 3, 1) := by decide +kernel
theorem dX5_shapeOfMove_390 : decode cX5_shapeOfMove 390 = .ok (.invokestatic 24, 3) := by decide +kernel
theorem dX5_shapeOfMove_393 : decode cX5_shapeOfMove 393 = .ok (.ireturn, 1) := by decide +kernel
theorem dX5_shapeOfMove_394 : decode cX5_shapeOfMove 394 = .ok (.iconst 1, 1) := by decide +kernel
theorem dX5_shapeOfMove_395 : decode cX5_shapeOfMove 395 = .ok (.iconst 0, 1) := by decide +kernel
theorem dX5_shapeOfMove_396 : decode cX5_shapeOfMove 396 = .ok (.iconst 2, 1) := by decide +kernel
theorem dX5_shapeOfMove_397 : decode cX5_shapeOfMove 397 = .ok (.invokestatic 24, 3) := by decide +kernel
theorem dX5_shapeOfMove_400 : decode cX5_shapeOfMove 400 = .ok (.ireturn, 1) := by decide +kernel
theorem dX5_shapeOfMove_401 : decode cX5_shapeOfMove 401 = .ok (.iconst 2, 1) := by decide +kernel
theorem dX5_shapeOfMove_402 : decode cX5_shapeOfMove 402 = .ok (.iconst 0, 1) := by decide +kernel
theorem dX5_shapeOfMove_403 : decode cX5_shapeOfMove 403 = .ok (.iconst 1, 1) := by decide +kernel
theorem dX5_shapeOfMove_404 : decode cX5_shapeOfMove 404 = .ok (.invokestatic 24, 3) := by decide +kernel
theorem dX5_shapeOfMove_407 : decode cX5_shapeOfMove 407 = .ok (.ireturn, 1) := by decide +kernel
theorem dX5_shapeOfMove_408 : decode cX5_shapeOfMove 408 = .ok (.iconst 3, 1) := by decide +kernel
theorem dX5_shapeOfMove_409 : decode cX5_shapeOfMove 409 = .ok (.iconst 0, 1) := by decide +kernel
theorem dX5_shapeOfMove_410 : decode cX5_shapeOfMove 410 = .ok (.iconst 1, 1) := by decide +kernel
theorem dX5_shapeOfMove_411 : decode cX5_shapeOfMove 411 = .ok (.invokestatic 24, 3) := by decide +kernel
theorem dX5_shapeOfMove_414 : decode cX5_shapeOfMove 414 = .ok (.ireturn, 1) := by decide +kernel
theorem dX5_shapeOfMove_415 : decode cX5_shapeOfMove 415 = .ok (.iconst 2, 1) := by decide +kernel
theorem dX5_shapeOfMove_416 : decode cX5_shapeOfMove 416 = .ok (.iconst 0, 1) := by decide +kernel
theorem dX5_shapeOfMove_417 : decode cX5_shapeOfMove 417 = .ok (.iconst 2, 1) := by decide +kernel
theorem dX5_shapeOfMove_418 : decode cX5_shapeOfMove 418 = .ok (.invokestatic 24, 3) := by decide +kernel
theorem dX5_shapeOfMove_421 : decode cX5_shapeOfMove 421 = .ok (.ireturn, 1) := by decide +kernel
theorem dX5_shapeOfMove_422 : decode cX5_shapeOfMove 422 = .ok (.iconst 2, 1) := by decide +kernel
theorem dX5_shapeOfMove_423 : decode cX5_shapeOfMove 423 = .ok (.iconst 0, 1) := by decide +kernel
theorem dX5_shapeOfMove_424 : decode cX5_shapeOfMove 424 = .ok (.iconst 3, 1) := by decide +kernel
theorem dX5_shapeOfMove_425 : decode cX5_shapeOfMove 425 = .ok (.invokestatic 24, 3) := by decide +kernel
theorem dX5_shapeOfMove_428 : decode cX5_shapeOfMove 428 = .ok (.ireturn, 1) := by decide +kernel
theorem dX5_shapeOfMove_429 : decode cX5_shapeOfMove 429 = .ok (.iconst 2, 1) := by decide +kernel
theorem dX5_shapeOfMove_430 : decode cX5_shapeOfMove 430 = .ok (.iconst 1, 1) := by decide +kernel
theorem dX5_shapeOfMove_431 : decode cX5_shapeOfMove 431 = .ok (.iconst 0, 1) := by decide +kernel
theorem dX5_shapeOfMove_432 : decode cX5_shapeOfMove 432 = .ok (.invokestatic 24, 3) := by decide +kernel
theorem dX5_shapeOfMove_435 : decode cX5_shapeOfMove 435 = .ok (.ireturn, 1) := by decide +kernel
theorem dX5_shapeOfMove_436 : decode cX5_shapeOfMove 436 = .ok (.iconst 2, 1) := by decide +kernel
theorem dX5_shapeOfMove_437 : decode cX5_shapeOfMove 437 = .ok (.iconst 2, 1) := by decide +kernel
theorem dX5_shapeOfMove_438 : decode cX5_shapeOfMove 438 = .ok (.iconst 0, 1) := by decide +kernel
theorem dX5_shapeOfMove_439 : decode cX5_shapeOfMove 439 = .ok (.invokestatic 24, 3) := by decide +kernel
theorem dX5_shapeOfMove_442 : decode cX5_shapeOfMove 442 = .ok (.ireturn, 1) := by decide +kernel
theorem dX5_shapeOfMove_443 : decode cX5_shapeOfMove 443 = .ok (.iconst 2, 1) := by decide +kernel
theorem dX5_shapeOfMove_444 : decode cX5_shapeOfMove 444 = .ok (.iconst 3, 1) := by decide +kernel
theorem dX5_shapeOfMove_445 : decode cX5_shapeOfMove 445 = .ok (.iconst 0, 1) := by decide +kernel
theorem dX5_shapeOfMove_446 : decode cX5_shapeOfMove 446 = .ok (.invokestatic 24, 3) := by decide +kernel
theorem dX5_shapeOfMove_449 : decode cX5_shapeOfMove 449 = .ok (.ireturn, 1) := by decide +kernel
theorem dX5_shapeOfMove_450 : decode cX5_shapeOfMove 450 = .ok (.iconst 1, 1) := by decide +kernel
theorem dX5_shapeOfMove_451 : decode cX5_shapeOfMove 451 = .ok (.bipush 13, 2) := by decide +kernel
theorem dX5_shapeOfMove_453 : decode cX5_shapeOfMove 453 = .ok (.iconst 1, 1) := by decide +kernel
theorem dX5_shapeOfMove_454 : decode cX5_shapeOfMove 454 = .ok (.invokestatic 24, 3) := by decide +kernel
theorem dX5_shapeOfMove_457 : decode cX5_shapeOfMove 457 = .ok (.ireturn, 1) := by decide +kernel
theorem dX5_shapeOfMove_458 : decode cX5_shapeOfMove 458 = .ok (.iconst 1, 1) := by decide +kernel
theorem dX5_shapeOfMove_459 : decode cX5_shapeOfMove 459 = .ok (.bipush 13, 2) := by decide +kernel
theorem dX5_shapeOfMove_461 : decode cX5_shapeOfMove 461 = .ok (.iconst 2, 1) := by decide +kernel
theorem dX5_shapeOfMove_462 : decode cX5_shapeOfMove 462 = .ok (.invokestatic 24, 3) := by decide +kernel
theorem dX5_shapeOfMove_465 : decode cX5_shapeOfMove 465 = .ok (.ireturn, 1) := by decide +kernel
theorem dX5_shapeOfMove_466 : decode cX5_shapeOfMove 466 = .ok (.iconst 1, 1) := by decide +kernel
theorem dX5_shapeOfMove_467 : decode cX5_shapeOfMove 467 = .ok (.bipush 13, 2) := by decide +kernel
theorem dX5_shapeOfMove_469 : decode cX5_shapeOfMove 469 = .ok (.iconst 3, 1) := by decide +kernel
theorem dX5_shapeOfMove_470 : decode cX5_shapeOfMove 470 = .ok (.invokestatic 24, 3) := by decide +kernel
theorem dX5_shapeOfMove_473 : decode cX5_shapeOfMove 473 = .ok (.ireturn, 1) := by decide +kernel
theorem dX5_shapeOfMove_474 : decode cX5_shapeOfMove 474 = .ok (.iconst 1, 1) := by decide +kernel
theorem dX5_shapeOfMove_475 : decode cX5_shapeOfMove 475 = .ok (.bipush 53, 2) := by decide +kernel
theorem dX5_shapeOfMove_477 : decode cX5_shapeOfMove 477 = .ok (.iconst 0, 1) := by decide +kernel
theorem dX5_shapeOfMove_478 : decode cX5_shapeOfMove 478 = .ok (.invokestatic 24, 3) := by decide +kernel
theorem dX5_shapeOfMove_481 : decode cX5_shapeOfMove 481 = .ok (.ireturn, 1) := by decide +kernel
theorem dX5_shapeOfMove_482 : decode cX5_shapeOfMove 482 = .ok (.iconst 1, 1) := by decide +kernel
theorem dX5_shapeOfMove_483 : decode cX5_shapeOfMove 483 = .ok (.bipush 54, 2) := by decide +kernel
theorem dX5_shapeOfMove_485 : decode cX5_shapeOfMove 485 = .ok (.iconst 0, 1) := by decide +kernel
theorem dX5_shapeOfMove_486 : decode cX5_shapeOfMove 486 = .ok (.invokestatic 24, 3) := by decide +kernel
theorem dX5_shapeOfMove_489 : decode cX5_shapeOfMove 489 = .ok (.ireturn, 1) := by decide +kernel
theorem dX5_shapeOfMove_490 : decode cX5_shapeOfMove 490 = .ok (.iconst 1, 1) := by decide +kernel
theorem dX5_shapeOfMove_491 : decode cX5_shapeOfMove 491 = .ok (.bipush 55, 2) := by decide +kernel
theorem dX5_shapeOfMove_493 : decode cX5_shapeOfMove 493 = .ok (.iconst 0, 1) := by decide +kernel
theorem dX5_shapeOfMove_494 : decode cX5_shapeOfMove 494 = .ok (.invokestatic 24, 3) := by decide +kernel
theorem dX5_shapeOfMove_497 : decode cX5_shapeOfMove 497 = .ok (.ireturn, 1) := by decide +kernel
theorem dX5_shapeOfMove_498 : decode cX5_shapeOfMove 498 = .ok (.iconst 0, 1) := by decide +kernel
theorem dX5_shapeOfMove_499 : decode cX5_shapeOfMove 499 = .ok (.ireturn, 1) := by decide +kernel
theorem dX5_shapeOfReckoning_0 : decode cX5_shapeOfReckoning 0 = .ok (.iload_n 0, 1) := by decide +kernel
theorem dX5_shapeOfReckoning_1 : decode cX5_shapeOfReckoning 1 = .ok (.tableswitch 358 87 148 #[263, 270, 263, 358, 358, 358, 358, 358, 263, 277, 291, 358, 358, 277, 291, 358, 358, 277, 291, 358, 358, 277, 291, 358, 358, 277, 291, 358, 358, 315, 322, 358, 358, 284, 307, 284, 307, 284, 307, 284, 299, 284, 299, 284, 299, 329, 336, 358, 358, 343, 358, 358, 358, 358, 358, 358, 358, 358, 315, 315, 315, 350], 263) := by decide +kernel
theorem dX5_shapeOfReckoning_264 : decode cX5_shapeOfReckoning 264 = .ok (.iconst 1, 1) := by decide +kernel
theorem dX5_shapeOfReckoning_265 : decode cX5_shapeOfReckoning 265 = .ok (.iconst 0, 1) := by decide +kernel
theorem dX5_shapeOfReckoning_266 : decode cX5_shapeOfReckoning 266 = .ok (.iconst 0, 1) := by decide +kernel
theorem dX5_shapeOfReckoning_267 : decode cX5_shapeOfReckoning 267 = .ok (.invokestatic 24, 3) := by decide +kernel
theorem dX5_shapeOfReckoning_270 : decode cX5_shapeOfReckoning 270 = .ok (.ireturn, 1) := by decide +kernel
theorem dX5_shapeOfReckoning_271 : decode cX5_shapeOfReckoning 271 = .ok (.iconst 1, 1) := by decide +kernel
theorem dX5_shapeOfReckoning_272 : decode cX5_shapeOfReckoning 272 = .ok (.iconst 2, 1) := by decide +kernel
theorem dX5_shapeOfReckoning_273 : decode cX5_shapeOfReckoning 273 = .ok (.iconst 0, 1) := by decide +kernel
theorem dX5_shapeOfReckoning_274 : decode cX5_shapeOfReckoning 274 = .ok (.invokestatic 24, 3) := by decide +kernel
theorem dX5_shapeOfReckoning_277 : decode cX5_shapeOfReckoning 277 = .ok (.ireturn, 1) := by decide +kernel
theorem dX5_shapeOfReckoning_278 : decode cX5_shapeOfReckoning 278 = .ok (.iconst 1, 1) := by decide +kernel
theorem dX5_shapeOfReckoning_279 : decode cX5_shapeOfReckoning 279 = .ok (.iconst 5, 1) := by decide +kernel
theorem dX5_shapeOfReckoning_280 : decode cX5_shapeOfReckoning 280 = .ok (.iconst 1, 1) := by decide +kernel
theorem dX5_shapeOfReckoning_281 : decode cX5_shapeOfReckoning 281 = .ok (.invokestatic 24, 3) := by decide +kernel
theorem dX5_shapeOfReckoning_284 : decode cX5_shapeOfReckoning 284 = .ok (.ireturn, 1) := by decide +kernel
theorem dX5_shapeOfReckoning_285 : decode cX5_shapeOfReckoning 285 = .ok (.iconst 1, 1) := by decide +kernel
theorem dX5_shapeOfReckoning_286 : decode cX5_shapeOfReckoning 286 = .ok (.iconst 5, 1) := by decide +kernel
theorem dX5_shapeOfReckoning_287 : decode cX5_shapeOfReckoning 287 = .ok (.iconst 1, 1) := by decide +kernel
theorem dX5_shapeOfReckoning_288 : decode cX5_shapeOfReckoning 288 = .ok (.invokestatic 24, 3) := by decide +kernel
theorem dX5_shapeOfReckoning_291 : decode cX5_shapeOfReckoning 291 = .ok (.ireturn, 1) := by decide +kernel
theorem dX5_shapeOfReckoning_292 : decode cX5_shapeOfReckoning 292 = .ok (.iconst 1, 1) := by decide +kernel
theorem dX5_shapeOfReckoning_293 : decode cX5_shapeOfReckoning 293 = .ok (.bipush 10, 2) := by decide +kernel
theorem dX5_shapeOfReckoning_295 : decode cX5_shapeOfReckoning 295 = .ok (.iconst 2, 1) := by decide +kernel
theorem dX5_shapeOfReckoning_296 : decode cX5_shapeOfReckoning 296 = .ok (.invokestatic 24, 3) := by decide +kernel
theorem dX5_shapeOfReckoning_299 : decode cX5_shapeOfReckoning 299 = .ok (.ireturn, 1) := by decide +kernel
theorem dX5_shapeOfReckoning_300 : decode cX5_shapeOfReckoning 300 = .ok (.iconst 1, 1) := by decide +kernel
theorem dX5_shapeOfReckoning_301 : decode cX5_shapeOfReckoning 301 = .ok (.bipush 10, 2) := by decide +kernel
theorem dX5_shapeOfReckoning_303 : decode cX5_shapeOfReckoning 303 = .ok (.iconst 2, 1) := by decide +kernel
theorem dX5_shapeOfReckoning_304 : decode cX5_shapeOfReckoning 304 = .ok (.invokestatic 24, 3) := by decide +kernel
theorem dX5_shapeOfReckoning_307 : decode cX5_shapeOfReckoning 307 = .ok (.ireturn, 1) := by decide +kernel
theorem dX5_shapeOfReckoning_308 : decode cX5_shapeOfReckoning 308 = .ok (.iconst 1, 1) := by decide +kernel
theorem dX5_shapeOfReckoning_309 : decode cX5_shapeOfReckoning 309 = .ok (.bipush 9, 2) := by decide +kernel
theorem dX5_shapeOfReckoning_311 : decode cX5_shapeOfReckoning 311 = .ok (.iconst 2, 1) := by decide +kernel
theorem dX5_shapeOfReckoning_312 : decode cX5_shapeOfReckoning 312 = .ok (.invokestatic 24, 3) := by decide +kernel
theorem dX5_shapeOfReckoning_315 : decode cX5_shapeOfReckoning 315 = .ok (.ireturn, 1) := by decide +kernel
theorem dX5_shapeOfReckoning_316 : decode cX5_shapeOfReckoning 316 = .ok (.iconst 1, 1) := by decide +kernel
theorem dX5_shapeOfReckoning_317 : decode cX5_shapeOfReckoning 317 = .ok (.iconst 1, 1) := by decide +kernel
theorem dX5_shapeOfReckoning_318 : decode cX5_shapeOfReckoning 318 = .ok (.iconst 1, 1) := by decide +kernel
theorem dX5_shapeOfReckoning_319 : decode cX5_shapeOfReckoning 319 = .ok (.invokestatic 24, 3) := by decide +kernel
theorem dX5_shapeOfReckoning_322 : decode cX5_shapeOfReckoning 322 = .ok (.ireturn, 1) := by decide +kernel
theorem dX5_shapeOfReckoning_323 : decode cX5_shapeOfReckoning 323 = .ok (.iconst 1, 1) := by decide +kernel
theorem dX5_shapeOfReckoning_324 : decode cX5_shapeOfReckoning 324 = .ok (.iconst 2, 1) := by decide +kernel
theorem dX5_shapeOfReckoning_325 : decode cX5_shapeOfReckoning 325 = .ok (.iconst 2, 1) := by decide +kernel
theorem dX5_shapeOfReckoning_326 : decode cX5_shapeOfReckoning 326 = .ok (.invokestatic 24, 3) := by decide +kernel
theorem dX5_shapeOfReckoning_329 : decode cX5_shapeOfReckoning 329 = .ok (.ireturn, 1) := by decide +kernel
theorem dX5_shapeOfReckoning_330 : decode cX5_shapeOfReckoning 330 = .ok (.iconst 3, 1) := by decide +kernel
theorem dX5_shapeOfReckoning_331 : decode cX5_shapeOfReckoning 331 = .ok (.iconst 0, 1) := by decide +kernel
theorem dX5_shapeOfReckoning_332 : decode cX5_shapeOfReckoning 332 = .ok (.iconst 0, 1) := by decide +kernel
theorem dX5_shapeOfReckoning_333 : decode cX5_shapeOfReckoning 333 = .ok (.invokestatic 24, 3) := by decide +kernel
theorem dX5_shapeOfReckoning_336 : decode cX5_shapeOfReckoning 336 = .ok (.ireturn, 1) := by decide +kernel
theorem dX5_shapeOfReckoning_337 : decode cX5_shapeOfReckoning 337 = .ok (.iconst 1, 1) := by decide +kernel
theorem dX5_shapeOfReckoning_338 : decode cX5_shapeOfReckoning 338 = .ok (.iconst 1, 1) := by decide +kernel
theorem dX5_shapeOfReckoning_339 : decode cX5_shapeOfReckoning 339 = .ok (.iconst 2, 1) := by decide +kernel
theorem dX5_shapeOfReckoning_340 : decode cX5_shapeOfReckoning 340 = .ok (.invokestatic 24, 3) := by decide +kernel
theorem dX5_shapeOfReckoning_343 : decode cX5_shapeOfReckoning 343 = .ok (.ireturn, 1) := by decide +kernel
theorem dX5_shapeOfReckoning_344 : decode cX5_shapeOfReckoning 344 = .ok (.iconst 1, 1) := by decide +kernel
theorem dX5_shapeOfReckoning_345 : decode cX5_shapeOfReckoning 345 = .ok (.iconst 2, 1) := by decide +kernel
theorem dX5_shapeOfReckoning_346 : decode cX5_shapeOfReckoning 346 = .ok (.iconst 1, 1) := by decide +kernel
theorem dX5_shapeOfReckoning_347 : decode cX5_shapeOfReckoning 347 = .ok (.invokestatic 24, 3) := by decide +kernel
theorem dX5_shapeOfReckoning_350 : decode cX5_shapeOfReckoning 350 = .ok (.ireturn, 1) := by decide +kernel
theorem dX5_shapeOfReckoning_351 : decode cX5_shapeOfReckoning 351 = .ok (.iconst 1, 1) := by decide +kernel
theorem dX5_shapeOfReckoning_352 : decode cX5_shapeOfReckoning 352 = .ok (.bipush 10, 2) := by decide +kernel
theorem dX5_shapeOfReckoning_354 : decode cX5_shapeOfReckoning 354 = .ok (.iconst 1, 1) := by decide +kernel
theorem dX5_shapeOfReckoning_355 : decode cX5_shapeOfReckoning 355 = .ok (.invokestatic 24, 3) := by decide +kernel
theorem dX5_shapeOfReckoning_358 : decode cX5_shapeOfReckoning 358 = .ok (.ireturn, 1) := by decide +kernel
theorem dX5_shapeOfReckoning_359 : decode cX5_shapeOfReckoning 359 = .ok (.iconst 0, 1) := by decide +kernel
theorem dX5_shapeOfReckoning_360 : decode cX5_shapeOfReckoning 360 = .ok (.ireturn, 1) := by decide +kernel
theorem dX5_shapeOfWay_0 : decode cX5_shapeOfWay 0 = .ok (.iload_n 0, 1) := by decide +kernel
theorem dX5_shapeOfWay_1 : decode cX5_shapeOfWay 1 = .ok (.sipush 158, 3) := by decide +kernel
theorem dX5_shapeOfWay_4 : decode cX5_shapeOfWay 4 = .ok (.if_icmp .gt 10, 3) := by decide +kernel
theorem dX5_shapeOfWay_7 : decode cX5_shapeOfWay 7 = .ok (.iconst 3, 1) := by decide +kernel
theorem dX5_shapeOfWay_8 : decode cX5_shapeOfWay 8 = .ok (.iconst 1, 1) := by decide +kernel
theorem dX5_shapeOfWay_9 : decode cX5_shapeOfWay 9 = .ok (.iconst 0, 1) := by decide +kernel
theorem dX5_shapeOfWay_10 : decode cX5_shapeOfWay 10 = .ok (.invokestatic 24, 3) := by decide +kernel
theorem dX5_shapeOfWay_13 : decode cX5_shapeOfWay 13 = .ok (.ireturn, 1) := by decide +kernel
theorem dX5_shapeOfWay_14 : decode cX5_shapeOfWay 14 = .ok (.iload_n 0, 1) := by decide +kernel
theorem dX5_shapeOfWay_15 : decode cX5_shapeOfWay 15 = .ok (.sipush 164, 3) := by decide +kernel
theorem dX5_shapeOfWay_18 : decode cX5_shapeOfWay 18 = .ok (.if_icmp .gt 10, 3) := by decide +kernel
theorem dX5_shapeOfWay_21 : decode cX5_shapeOfWay 21 = .ok (.iconst 3, 1) := by decide +kernel
theorem dX5_shapeOfWay_22 : decode cX5_shapeOfWay 22 = .ok (.iconst 5, 1) := by decide +kernel
theorem dX5_shapeOfWay_23 : decode cX5_shapeOfWay 23 = .ok (.iconst 0, 1) := by decide +kernel
theorem dX5_shapeOfWay_24 : decode cX5_shapeOfWay 24 = .ok (.invokestatic 24, 3) := by decide +kernel
theorem dX5_shapeOfWay_27 : decode cX5_shapeOfWay 27 = .ok (.ireturn, 1) := by decide +kernel
theorem dX5_shapeOfWay_28 : decode cX5_shapeOfWay 28 = .ok (.iload_n 0, 1) := by decide +kernel
theorem dX5_shapeOfWay_29 : decode cX5_shapeOfWay 29 = .ok (.tableswitch 205 165 199 #[155, 155, 170, 205, 205, 205, 205, 177, 184, 205, 205, 191, 198, 205, 205, 205, 205, 205, 205, 205, 205, 205, 205, 205, 205, 205, 205, 205, 205, 205, 205, 205, 205, 163, 163], 155) := by decide +kernel
theorem dX5_shapeOfWay_184 : decode cX5_shapeOfWay 184 = .ok (.iconst 3, 1) := by decide +kernel
theorem dX5_shapeOfWay_185 : decode cX5_shapeOfWay 185 = .ok (.bipush 15, 2) := by decide +kernel
theorem dX5_shapeOfWay_187 : decode cX5_shapeOfWay 187 = .ok (.iconst 0, 1) := by decide +kernel
theorem dX5_shapeOfWay_188 : decode cX5_shapeOfWay 188 = .ok (.invokestatic 24, 3) := by decide +kernel
theorem dX5_shapeOfWay_191 : decode cX5_shapeOfWay 191 = .ok (.ireturn, 1) := by decide +kernel
theorem dX5_shapeOfWay_192 : decode cX5_shapeOfWay 192 = .ok (.iconst 3, 1) := by decide +kernel
theorem dX5_shapeOfWay_193 : decode cX5_shapeOfWay 193 = .ok (.iconst 3, 1) := by decide +kernel
theorem dX5_shapeOfWay_194 : decode cX5_shapeOfWay 194 = .ok (.iconst 0, 1) := by decide +kernel
theorem dX5_shapeOfWay_195 : decode cX5_shapeOfWay 195 = .ok (.invokestatic 24, 3) := by decide +kernel
theorem dX5_shapeOfWay_198 : decode cX5_shapeOfWay 198 = .ok (.ireturn, 1) := by decide +kernel
theorem dX5_shapeOfWay_199 : decode cX5_shapeOfWay 199 = .ok (.iconst 3, 1) := by decide +kernel
theorem dX5_shapeOfWay_200 : decode cX5_shapeOfWay 200 = .ok (.iconst 0, 1) := by decide +kernel
theorem dX5_shapeOfWay_201 : decode cX5_shapeOfWay 201 = .ok (.iconst 0, 1) := by decide +kernel
theorem dX5_shapeOfWay_202 : decode cX5_shapeOfWay 202 = .ok (.invokestatic 24, 3) := by decide +kernel
theorem dX5_shapeOfWay_205 : decode cX5_shapeOfWay 205 = .ok (.ireturn, 1) := by decide +kernel
theorem dX5_shapeOfWay_206 : decode cX5_shapeOfWay 206 = .ok (.iconst 1, 1) := by decide +kernel
theorem dX5_shapeOfWay_207 : decode cX5_shapeOfWay 207 = .ok (.iconst 1, 1) := by decide +kernel
theorem dX5_shapeOfWay_208 : decode cX5_shapeOfWay 208 = .ok (.iconst 0, 1) := by decide +kernel
theorem dX5_shapeOfWay_209 : decode cX5_shapeOfWay 209 = .ok (.invokestatic 24, 3) := by decide +kernel
theorem dX5_shapeOfWay_212 : decode cX5_shapeOfWay 212 = .ok (.ireturn, 1) := by decide +kernel
theorem dX5_shapeOfWay_213 : decode cX5_shapeOfWay 213 = .ok (.iconst 1, 1) := by decide +kernel
theorem dX5_shapeOfWay_214 : decode cX5_shapeOfWay 214 = .ok (.iconst 2, 1) := by decide +kernel
theorem dX5_shapeOfWay_215 : decode cX5_shapeOfWay 215 = .ok (.iconst 0, 1) := by decide +kernel
theorem dX5_shapeOfWay_216 : decode cX5_shapeOfWay 216 = .ok (.invokestatic 24, 3) := by decide +kernel
theorem dX5_shapeOfWay_219 : decode cX5_shapeOfWay 219 = .ok (.ireturn, 1) := by decide +kernel
theorem dX5_shapeOfWay_220 : decode cX5_shapeOfWay 220 = .ok (.iconst 1, 1) := by decide +kernel
theorem dX5_shapeOfWay_221 : decode cX5_shapeOfWay 221 = .ok (.iconst 3, 1) := by decide +kernel
theorem dX5_shapeOfWay_222 : decode cX5_shapeOfWay 222 = .ok (.iconst 0, 1) := by decide +kernel
theorem dX5_shapeOfWay_223 : decode cX5_shapeOfWay 223 = .ok (.invokestatic 24, 3) := by decide +kernel
theorem dX5_shapeOfWay_226 : decode cX5_shapeOfWay 226 = .ok (.ireturn, 1) := by decide +kernel
theorem dX5_shapeOfWay_227 : decode cX5_shapeOfWay 227 = .ok (.iconst 1, 1) := by decide +kernel
theorem dX5_shapeOfWay_228 : decode cX5_shapeOfWay 228 = .ok (.iconst 0, 1) := by decide +kernel
theorem dX5_shapeOfWay_229 : decode cX5_shapeOfWay 229 = .ok (.iconst 0, 1) := by decide +kernel
theorem dX5_shapeOfWay_230 : decode cX5_shapeOfWay 230 = .ok (.invokestatic 24, 3) := by decide +kernel
theorem dX5_shapeOfWay_233 : decode cX5_shapeOfWay 233 = .ok (.ireturn, 1) := by decide +kernel
theorem dX5_shapeOfWay_234 : decode cX5_shapeOfWay 234 = .ok (.iconst 0, 1) := by decide +kernel
theorem dX5_shapeOfWay_235 : decode cX5_shapeOfWay 235 = .ok (.ireturn, 1) := by decide +kernel
theorem dX5_shape_0 : decode cX5_shape 0 = .ok (.iload_n 0, 1) := by decide +kernel
theorem dX5_shape_1 : decode cX5_shape 1 = .ok (.bipush 87, 2) := by decide +kernel
theorem dX5_shape_3 : decode cX5_shape 3 = .ok (.if_icmp .ge 8, 3) := by decide +kernel
theorem dX5_shape_6 : decode cX5_shape 6 = .ok (.iload_n 0, 1) := by decide +kernel
theorem dX5_shape_7 : decode cX5_shape 7 = .ok (.invokestatic 11, 3) := by decide +kernel
theorem dX5_shape_10 : decode cX5_shape 10 = .ok (.ireturn, 1) := by decide +kernel
theorem dX5_shape_11 : decode cX5_shape 11 = .ok (.iload_n 0, 1) := by decide +kernel
theorem dX5_shape_12 : decode cX5_shape 12 = .ok (.sipush 153, 3) := by decide +kernel
theorem dX5_shape_15 : decode cX5_shape 15 = .ok (.if_icmp .ge 8, 3) := by decide +kernel
theorem dX5_shape_18 : decode cX5_shape 18 = .ok (.iload_n 0, 1) := by decide +kernel
theorem dX5_shape_19 : decode cX5_shape 19 = .ok (.invokestatic 15, 3) := by decide +kernel
theorem dX5_shape_22 : decode cX5_shape 22 = .ok (.ireturn, 1) := by decide +kernel
theorem dX5_shape_23 : decode cX5_shape 23 = .ok (.iload_n 0, 1) := by decide +kernel
theorem dX5_shape_24 : decode cX5_shape 24 = .ok (.sipush 180, 3) := by decide +kernel
theorem dX5_shape_27 : decode cX5_shape 27 = .ok (.if_icmp .lt 10, 3) := by decide +kernel
theorem dX5_shape_30 : decode cX5_shape 30 = .ok (.iload_n 0, 1) := by decide +kernel
theorem dX5_shape_31 : decode cX5_shape 31 = .ok (.sipush 198, 3) := by decide +kernel
theorem dX5_shape_34 : decode cX5_shape 34 = .ok (.if_icmp .lt 10, 3) := by decide +kernel
theorem dX5_shape_37 : decode cX5_shape 37 = .ok (.iload_n 0, 1) := by decide +kernel
theorem dX5_shape_38 : decode cX5_shape 38 = .ok (.invokestatic 18, 3) := by decide +kernel
theorem dX5_shape_41 : decode cX5_shape 41 = .ok (.goto 7, 3) := by decide +kernel
theorem dX5_shape_44 : decode cX5_shape 44 = .ok (.iload_n 0, 1) := by decide +kernel
theorem dX5_shape_45 : decode cX5_shape 45 = .ok (.invokestatic 21, 3) := by decide +kernel
theorem dX5_shape_48 : decode cX5_shape 48 = .ok (.ireturn, 1) := by decide +kernel
theorem dX6_pairAt_0 : decode cX6_pairAt 0 = .ok (.aload_n 0, 1) := by decide +kernel
theorem dX6_pairAt_1 : decode cX6_pairAt 1 = .ok (.getfield 9, 3) := by decide +kernel
theorem dX6_pairAt_4 : decode cX6_pairAt 4 = .ok (.iload_n 1, 1) := by decide +kernel
theorem dX6_pairAt_5 : decode cX6_pairAt 5 = .ok (.baload, 1) := by decide +kernel
theorem dX6_pairAt_6 : decode cX6_pairAt 6 = .ok (.bipush 8, 2) := by decide +kernel
theorem dX6_pairAt_8 : decode cX6_pairAt 8 = .ok (.ishl, 1) := by decide +kernel
theorem dX6_pairAt_9 : decode cX6_pairAt 9 = .ok (.aload_n 0, 1) := by decide +kernel
theorem dX6_pairAt_10 : decode cX6_pairAt 10 = .ok (.getfield 9, 3) := by decide +kernel
theorem dX6_pairAt_13 : decode cX6_pairAt 13 = .ok (.iload_n 1, 1) := by decide +kernel
theorem dX6_pairAt_14 : decode cX6_pairAt 14 = .ok (.iconst 1, 1) := by decide +kernel
theorem dX6_pairAt_15 : decode cX6_pairAt 15 = .ok (.iadd, 1) := by decide +kernel
theorem dX6_pairAt_16 : decode cX6_pairAt 16 = .ok (.baload, 1) := by decide +kernel
theorem dX6_pairAt_17 : decode cX6_pairAt 17 = .ok (.sipush 255, 3) := by decide +kernel
theorem dX6_pairAt_20 : decode cX6_pairAt 20 = .ok (.iand, 1) := by decide +kernel
theorem dX6_pairAt_21 : decode cX6_pairAt 21 = .ok (.ior, 1) := by decide +kernel
theorem dX6_pairAt_22 : decode cX6_pairAt 22 = .ok (.ireturn, 1) := by decide +kernel
theorem dX3_look_0 : decode cX3_look 0 = .ok (.aload_n 0, 1) := by decide +kernel
theorem dX3_look_1 : decode cX3_look 1 = .ok (.getfield 36, 3) := by decide +kernel
theorem dX3_look_4 : decode cX3_look 4 = .ok (.iload_n 1, 1) := by decide +kernel
theorem dX3_look_5 : decode cX3_look 5 = .ok (.invokevirtual 61, 3) := by decide +kernel
theorem dX3_look_8 : decode cX3_look 8 = .ok (.istore_n 2, 1) := by decide +kernel
theorem dX3_look_9 : decode cX3_look 9 = .ok (.iload_n 2, 1) := by decide +kernel
theorem dX3_look_10 : decode cX3_look 10 = .ok (.invokestatic 65, 3) := by decide +kernel
theorem dX3_look_13 : decode cX3_look 13 = .ok (.istore_n 3, 1) := by decide +kernel
theorem dX3_look_14 : decode cX3_look 14 = .ok (.iload_n 1, 1) := by decide +kernel
theorem dX3_look_15 : decode cX3_look 15 = .ok (.iload_n 3, 1) := by decide +kernel
theorem dX3_look_16 : decode cX3_look 16 = .ok (.invokestatic 70, 3) := by decide +kernel
theorem dX3_look_19 : decode cX3_look 19 = .ok (.iadd, 1) := by decide +kernel
theorem dX3_look_20 : decode cX3_look 20 = .ok (.istore 4, 2) := by decide +kernel
theorem dX3_look_22 : decode cX3_look 22 = .ok (.aload_n 0, 1) := by decide +kernel
theorem dX3_look_23 : decode cX3_look 23 = .ok (.iload 4, 2) := by decide +kernel
theorem dX3_look_25 : decode cX3_look 25 = .ok (.iload_n 1, 1) := by decide +kernel
theorem dX3_look_26 : decode cX3_look 26 = .ok (.if_icmp .le 20, 3) := by decide +kernel
theorem dX3_look_29 : decode cX3_look 29 = .ok (.iload 4, 2) := by decide +kernel
theorem dX3_look_31 : decode cX3_look 31 = .ok (.aload_n 0, 1) := by decide +kernel
theorem dX3_look_32 : decode cX3_look 32 = .ok (.getfield 36, 3) := by decide +kernel
theorem dX3_look_35 : decode cX3_look 35 = .ok (.getfield 73, 3) := by decide +kernel
theorem dX3_look_38 : decode cX3_look 38 = .ok (.arraylength, 1) := by decide +kernel
theorem dX3_look_39 : decode cX3_look 39 = .ok (.if_icmp .gt 7, 3) := by decide +kernel
theorem dX3_look_42 : decode cX3_look 42 = .ok (.iconst 1, 1) := by decide +kernel
theorem dX3_look_43 : decode cX3_look 43 = .ok (.goto 4, 3) := by decide +kernel
theorem dX3_look_46 : decode cX3_look 46 = .ok (.iconst 0, 1) := by decide +kernel
theorem dX3_look_47 : decode cX3_look 47 = .ok (.invokevirtual 77, 3) := by decide +kernel
theorem dX3_look_50 : decode cX3_look 50 = .ok (.aload_n 0, 1) := by decide +kernel
theorem dX3_look_51 : decode cX3_look 51 = .ok (.getfield 40, 3) := by decide +kernel
theorem dX3_look_54 : decode cX3_look 54 = .ok (.ifCond .ne 4, 3) := by decide +kernel
theorem dX3_look_57 : decode cX3_look 57 = .ok (.return_, 1) := by decide +kernel
theorem dX3_look_58 : decode cX3_look 58 = .ok (.aload_n 0, 1) := by decide +kernel
theorem dX3_look_59 : decode cX3_look 59 = .ok (.aload_n 0, 1) := by decide +kernel
theorem dX3_look_60 : decode cX3_look 60 = .ok (.getfield 22, 3) := by decide +kernel
theorem dX3_look_63 : decode cX3_look 63 = .ok (.iload_n 1, 1) := by decide +kernel
theorem dX3_look_64 : decode cX3_look 64 = .ok (.iaload, 1) := by decide +kernel
theorem dX3_look_65 : decode cX3_look 65 = .ok (.putfield 81, 3) := by decide +kernel
theorem dX3_look_68 : decode cX3_look 68 = .ok (.aload_n 0, 1) := by decide +kernel
theorem dX3_look_69 : decode cX3_look 69 = .ok (.aload_n 0, 1) := by decide +kernel
theorem dX3_look_70 : decode cX3_look 70 = .ok (.getfield 25, 3) := by decide +kernel
theorem dX3_look_73 : decode cX3_look 73 = .ok (.iload_n 1, 1) := by decide +kernel
theorem dX3_look_74 : decode cX3_look 74 = .ok (.iaload, 1) := by decide +kernel
theorem dX3_look_75 : decode cX3_look 75 = .ok (.putfield 84, 3) := by decide +kernel
theorem dX3_look_78 : decode cX3_look 78 = .ok (.aload_n 0, 1) := by decide +kernel
theorem dX3_look_79 : decode cX3_look 79 = .ok (.iload_n 1, 1) := by decide +kernel
theorem dX3_look_80 : decode cX3_look 80 = .ok (.invokevirtual 87, 3) := by decide +kernel
theorem dX3_look_83 : decode cX3_look 83 = .ok (.aload_n 0, 1) := by decide +kernel
theorem dX3_look_84 : decode cX3_look 84 = .ok (.iload_n 3, 1) := by decide +kernel
theorem dX3_look_85 : decode cX3_look 85 = .ok (.invokestatic 90, 3) := by decide +kernel
theorem dX3_look_88 : decode cX3_look 88 = .ok (.invokevirtual 93, 3) := by decide +kernel
theorem dX3_look_91 : decode cX3_look 91 = .ok (.aload_n 0, 1) := by decide +kernel
theorem dX3_look_92 : decode cX3_look 92 = .ok (.iload_n 2, 1) := by decide +kernel
theorem dX3_look_93 : decode cX3_look 93 = .ok (.iload_n 1, 1) := by decide +kernel
theorem dX3_look_94 : decode cX3_look 94 = .ok (.iload_n 3, 1) := by decide +kernel
theorem dX3_look_95 : decode cX3_look 95 = .ok (.invokevirtual 96, 3) := by decide +kernel
theorem dX3_look_98 : decode cX3_look 98 = .ok (.aload_n 0, 1) := by decide +kernel
theorem dX3_look_99 : decode cX3_look 99 = .ok (.iload_n 3, 1) := by decide +kernel
theorem dX3_look_100 : decode cX3_look 100 = .ok (.invokestatic 99, 3) := by decide +kernel
theorem dX3_look_103 : decode cX3_look 103 = .ok (.invokevirtual 102, 3) := by decide +kernel
theorem dX3_look_106 : decode cX3_look 106 = .ok (.aload_n 0, 1) := by decide +kernel
theorem dX3_look_107 : decode cX3_look 107 = .ok (.getfield 40, 3) := by decide +kernel
theorem dX3_look_110 : decode cX3_look 110 = .ok (.ifCond .ne 4, 3) := by decide +kernel
theorem dX3_look_113 : decode cX3_look 113 = .ok (.return_, 1) := by decide +kernel
theorem dX3_look_114 : decode cX3_look 114 = .ok (.iload_n 2, 1) := by decide +kernel
theorem dX3_look_115 : decode cX3_look 115 = .ok (.invokestatic 105, 3) := by decide +kernel
theorem dX3_look_118 : decode cX3_look 118 = .ok (.ifCond .eq 27, 3) := by decide +kernel
theorem dX3_look_121 : decode cX3_look 121 = .ok (.aload_n 0, 1) := by decide +kernel
theorem dX3_look_122 : decode cX3_look 122 = .ok (.iload_n 1, 1) := by decide +kernel
theorem dX3_look_123 : decode cX3_look 123 = .ok (.aload_n 0, 1) := by decide +kernel
theorem dX3_look_124 : decode cX3_look 124 = .ok (.getfield 36, 3) := by decide +kernel
theorem dX3_look_127 : decode cX3_look 127 = .ok (.iload_n 1, 1) := by decide +kernel
theorem dX3_look_128 : decode cX3_look 128 = .ok (.iconst 1, 1) := by decide +kernel
theorem dX3_look_129 : decode cX3_look 129 = .ok (.iadd, 1) := by decide +kernel
theorem dX3_look_130 : decode cX3_look 130 = .ok (.invokevirtual 109, 3) := by decide +kernel
theorem dX3_look_133 : decode cX3_look 133 = .ok (.iadd, 1) := by decide +kernel
theorem dX3_look_134 : decode cX3_look 134 = .ok (.aload_n 0, 1) := by decide +kernel
theorem dX3_look_135 : decode cX3_look 135 = .ok (.getfield 81, 3) := by decide +kernel
theorem dX3_look_138 : decode cX3_look 138 = .ok (.aload_n 0, 1) := by decide +kernel
theorem dX3_look_139 : decode cX3_look 139 = .ok (.getfield 84, 3) := by decide +kernel
theorem dX3_look_142 : decode cX3_look 142 = .ok (.invokevirtual 53, 3) := by decide +kernel
theorem dX3_look_145 : decode cX3_look 145 = .ok (.iload_n 2, 1) := by decide +kernel
theorem dX3_look_146 : decode cX3_look 146 = .ok (.invokestatic 112, 3) := by decide +kernel
theorem dX3_look_149 : decode cX3_look 149 = .ok (.ifCond .eq 17, 3) := by decide +kernel
theorem dX3_look_152 : decode cX3_look 152 = .ok (.aload_n 0, 1) := by decide +kernel
theorem dX3_look_153 : decode cX3_look 153 = .ok (.iload 4, 2) := by decide +kernel
theorem dX3_look_155 : decode cX3_look 155 = .ok (.aload_n 0, 1) := by decide +kernel
theorem dX3_look_156 : decode cX3_look 156 = .ok (.getfield 81, 3) := by decide +kernel
theorem dX3_look_159 : decode cX3_look 159 = .ok (.aload_n 0, 1) := by decide +kernel
theorem dX3_look_160 : decode cX3_look 160 = .ok (.getfield 84, 3) := by decide +kernel
theorem dX3_look_163 : decode cX3_look 163 = .ok (.invokevirtual 53, 3) := by decide +kernel
theorem dX3_look_166 : decode cX3_look 166 = .ok (.return_, 1) := by decide +kernel
theorem dX3_findsGood_0 : decode cX3_findsGood 0 = .ok (.aload_n 0, 1) := by decide +kernel
theorem dX3_findsGood_1 : decode cX3_findsGood 1 = .ok (.aload_n 1, 1) := by decide +kernel
theorem dX3_findsGood_2 : decode cX3_findsGood 2 = .ok (.putfield 36, 3) := by decide +kernel
theorem dX3_findsGood_5 : decode cX3_findsGood 5 = .ok (.aload_n 0, 1) := by decide +kernel
theorem dX3_findsGood_6 : decode cX3_findsGood 6 = .ok (.iconst 1, 1) := by decide +kernel
theorem dX3_findsGood_7 : decode cX3_findsGood 7 = .ok (.putfield 40, 3) := by decide +kernel
theorem dX3_findsGood_10 : decode cX3_findsGood 10 = .ok (.aload_n 0, 1) := by decide +kernel
theorem dX3_findsGood_11 : decode cX3_findsGood 11 = .ok (.iconst 0, 1) := by decide +kernel
theorem dX3_findsGood_12 : decode cX3_findsGood 12 = .ok (.putfield 44, 3) := by decide +kernel
theorem dX3_findsGood_15 : decode cX3_findsGood 15 = .ok (.iconst 0, 1) := by decide +kernel
theorem dX3_findsGood_16 : decode cX3_findsGood 16 = .ok (.istore_n 2, 1) := by decide +kernel
theorem dX3_findsGood_17 : decode cX3_findsGood 17 = .ok (.iload_n 2, 1) := by decide +kernel
theorem dX3_findsGood_18 : decode cX3_findsGood 18 = .ok (.sipush 200, 3) := by decide +kernel
theorem dX3_findsGood_21 : decode cX3_findsGood 21 = .ok (.if_icmp .ge 23, 3) := by decide +kernel
theorem dX3_findsGood_24 : decode cX3_findsGood 24 = .ok (.aload_n 0, 1) := by decide +kernel
theorem dX3_findsGood_25 : decode cX3_findsGood 25 = .ok (.getfield 9, 3) := by decide +kernel
theorem dX3_findsGood_28 : decode cX3_findsGood 28 = .ok (.iload_n 2, 1) := by decide +kernel
theorem dX3_findsGood_29 : decode cX3_findsGood 29 = .ok (.iconst 0, 1) := by decide +kernel
theorem dX3_findsGood_30 : decode cX3_findsGood 30 = .ok (.bastore, 1) := by decide +kernel
theorem dX3_findsGood_31 : decode cX3_findsGood 31 = .ok (.aload_n 0, 1) := by decide +kernel
theorem dX3_findsGood_32 : decode cX3_findsGood 32 = .ok (.getfield 15, 3) := by decide +kernel
theorem dX3_findsGood_35 : decode cX3_findsGood 35 = .ok (.iload_n 2, 1) := by decide +kernel
theorem dX3_findsGood_36 : decode cX3_findsGood 36 = .ok (.iconst 0, 1) := by decide +kernel
theorem dX3_findsGood_37 : decode cX3_findsGood 37 = .ok (.bastore, 1) := by decide +kernel
theorem dX3_findsGood_38 : decode cX3_findsGood 38 = .ok (.iinc 2 1, 3) := by decide +kernel
theorem dX3_findsGood_41 : decode cX3_findsGood 41 = .ok (.goto (-24), 3) := by decide +kernel
theorem dX3_findsGood_44 : decode cX3_findsGood 44 = .ok (.aload_n 0, 1) := by decide +kernel
theorem dX3_findsGood_45 : decode cX3_findsGood 45 = .ok (.iconst 0, 1) := by decide +kernel
theorem dX3_findsGood_46 : decode cX3_findsGood 46 = .ok (.iconst 0, 1) := by decide +kernel
theorem dX3_findsGood_47 : decode cX3_findsGood 47 = .ok (.aload_n 1, 1) := by decide +kernel
theorem dX3_findsGood_48 : decode cX3_findsGood 48 = .ok (.getfield 48, 3) := by decide +kernel
theorem dX3_findsGood_51 : decode cX3_findsGood 51 = .ok (.invokevirtual 53, 3) := by decide +kernel
theorem dX3_findsGood_54 : decode cX3_findsGood 54 = .ok (.iconst 0, 1) := by decide +kernel
theorem dX3_findsGood_55 : decode cX3_findsGood 55 = .ok (.istore_n 2, 1) := by decide +kernel
theorem dX3_findsGood_56 : decode cX3_findsGood 56 = .ok (.iload_n 2, 1) := by decide +kernel
theorem dX3_findsGood_57 : decode cX3_findsGood 57 = .ok (.sipush 3400, 3) := by decide +kernel
theorem dX3_findsGood_60 : decode cX3_findsGood 60 = .ok (.if_icmp .ge 55, 3) := by decide +kernel
theorem dX3_findsGood_63 : decode cX3_findsGood 63 = .ok (.aload_n 0, 1) := by decide +kernel
theorem dX3_findsGood_64 : decode cX3_findsGood 64 = .ok (.getfield 40, 3) := by decide +kernel
theorem dX3_findsGood_67 : decode cX3_findsGood 67 = .ok (.ifCond .eq 48, 3) := by decide +kernel
theorem dX3_findsGood_70 : decode cX3_findsGood 70 = .ok (.aload_n 0, 1) := by decide +kernel
theorem dX3_findsGood_71 : decode cX3_findsGood 71 = .ok (.getfield 44, 3) := by decide +kernel
theorem dX3_findsGood_74 : decode cX3_findsGood 74 = .ok (.ifCond .le 41, 3) := by decide +kernel
theorem dX3_findsGood_77 : decode cX3_findsGood 77 = .ok (.aload_n 0, 1) := by decide +kernel
theorem dX3_findsGood_78 : decode cX3_findsGood 78 = .ok (.dup, 1) := by decide +kernel
theorem dX3_findsGood_79 : decode cX3_findsGood 79 = .ok (.getfield 44, 3) := by decide +kernel
theorem dX3_findsGood_82 : decode cX3_findsGood 82 = .ok (.iconst 1, 1) := by decide +kernel
theorem dX3_findsGood_83 : decode cX3_findsGood 83 = .ok (.isub, 1) := by decide +kernel
theorem dX3_findsGood_84 : decode cX3_findsGood 84 = .ok (.putfield 44, 3) := by decide +kernel
theorem dX3_findsGood_87 : decode cX3_findsGood 87 = .ok (.aload_n 0, 1) := by decide +kernel
theorem dX3_findsGood_88 : decode cX3_findsGood 88 = .ok (.getfield 18, 3) := by decide +kernel
theorem dX3_findsGood_91 : decode cX3_findsGood 91 = .ok (.aload_n 0, 1) := by decide +kernel
theorem dX3_findsGood_92 : decode cX3_findsGood 92 = .ok (.getfield 44, 3) := by decide +kernel
theorem dX3_findsGood_95 : decode cX3_findsGood 95 = .ok (.iaload, 1) := by decide +kernel
theorem dX3_findsGood_96 : decode cX3_findsGood 96 = .ok (.istore_n 3, 1) := by decide +kernel
theorem dX3_findsGood_97 : decode cX3_findsGood 97 = .ok (.aload_n 0, 1) := by decide +kernel
theorem dX3_findsGood_98 : decode cX3_findsGood 98 = .ok (.getfield 15, 3) := by decide +kernel
theorem dX3_findsGood_101 : decode cX3_findsGood 101 = .ok (.iload_n 3, 1) := by decide +kernel
theorem dX3_findsGood_102 : decode cX3_findsGood 102 = .ok (.iconst 0, 1) := by decide +kernel
theorem dX3_findsGood_103 : decode cX3_findsGood 103 = .ok (.bastore, 1) := by decide +kernel
theorem dX3_findsGood_104 : decode cX3_findsGood 104 = .ok (.aload_n 0, 1) := by decide +kernel
theorem dX3_findsGood_105 : decode cX3_findsGood 105 = .ok (.iload_n 3, 1) := by decide +kernel
theorem dX3_findsGood_106 : decode cX3_findsGood 106 = .ok (.invokevirtual 57, 3) := by decide +kernel
theorem dX3_findsGood_109 : decode cX3_findsGood 109 = .ok (.iinc 2 1, 3) := by decide +kernel
theorem dX3_findsGood_112 : decode cX3_findsGood 112 = .ok (.goto (-56), 3) := by decide +kernel
theorem dX3_findsGood_115 : decode cX3_findsGood 115 = .ok (.aload_n 0, 1) := by decide +kernel
theorem dX3_findsGood_116 : decode cX3_findsGood 116 = .ok (.getfield 40, 3) := by decide +kernel
theorem dX3_findsGood_119 : decode cX3_findsGood 119 = .ok (.ireturn, 1) := by decide +kernel
theorem dX8_method_0 : decode cX8_method 0 = .ok (.iload_n 1, 1) := by decide +kernel
theorem dX8_method_1 : decode cX8_method 1 = .ok (.ifCond .lt 10, 3) := by decide +kernel
theorem dX8_method_4 : decode cX8_method 4 = .ok (.iload_n 1, 1) := by decide +kernel
theorem dX8_method_5 : decode cX8_method 5 = .ok (.sipush 255, 3) := by decide +kernel
theorem dX8_method_8 : decode cX8_method 8 = .ok (.if_icmp .le 13, 3) := by decide +kernel
theorem dX8_method_14 : decode cX8_method 14 = .ok (.dup, 1) := by decide +kernel
theorem dX8_method_15 : decode cX8_method 15 = .ok (.ldc 116, 2) := by decide +kernel
theorem dX8_method_17 : decode cX8_method 17 = .ok (.invokespecial 61, 3) := by decide +kernel
theorem dX8_method_20 : decode cX8_method 20 = .ok (.athrow, 1) := by decide +kernel
theorem dX8_method_11 : decode cX8_method 11 = .ok (.new 57, 3) := by decide +kernel
theorem dX8_method_21 : decode cX8_method 21 = .ok (.iload_n 2, 1) := by decide +kernel
theorem dX8_method_22 : decode cX8_method 22 = .ok (.iload_n 1, 1) := by decide +kernel
theorem dX8_method_23 : decode cX8_method 23 = .ok (.invokestatic 118, 3) := by decide +kernel
theorem dX8_method_26 : decode cX8_method 26 = .ok (.if_icmp .lt 9, 3) := by decide +kernel
theorem dX8_method_29 : decode cX8_method 29 = .ok (.iload_n 2, 1) := by decide +kernel
theorem dX8_method_30 : decode cX8_method 30 = .ok (.bipush 16, 2) := by decide +kernel
theorem dX8_method_32 : decode cX8_method 32 = .ok (.if_icmp .le 13, 3) := by decide +kernel
theorem dX8_method_38 : decode cX8_method 38 = .ok (.dup, 1) := by decide +kernel
theorem dX8_method_39 : decode cX8_method 39 = .ok (.ldc 122, 2) := by decide +kernel
theorem dX8_method_41 : decode cX8_method 41 = .ok (.invokespecial 61, 3) := by decide +kernel
theorem dX8_method_44 : decode cX8_method 44 = .ok (.athrow, 1) := by decide +kernel
theorem dX8_method_35 : decode cX8_method 35 = .ok (.new 57, 3) := by decide +kernel
theorem dX8_method_45 : decode cX8_method 45 = .ok (.iload_n 3, 1) := by decide +kernel
theorem dX8_method_46 : decode cX8_method 46 = .ok (.ifCond .lt 9, 3) := by decide +kernel
theorem dX8_method_49 : decode cX8_method 49 = .ok (.iload_n 3, 1) := by decide +kernel
theorem dX8_method_50 : decode cX8_method 50 = .ok (.bipush 12, 2) := by decide +kernel
theorem dX8_method_52 : decode cX8_method 52 = .ok (.if_icmp .le 13, 3) := by decide +kernel
theorem dX8_method_58 : decode cX8_method 58 = .ok (.dup, 1) := by decide +kernel
theorem dX8_method_59 : decode cX8_method 59 = .ok (.ldc 124, 2) := by decide +kernel
theorem dX8_method_61 : decode cX8_method 61 = .ok (.invokespecial 61, 3) := by decide +kernel
theorem dX8_method_64 : decode cX8_method 64 = .ok (.athrow, 1) := by decide +kernel
theorem dX8_method_55 : decode cX8_method 55 = .ok (.new 57, 3) := by decide +kernel
theorem dX8_method_65 : decode cX8_method 65 = .ok (.iload 4, 2) := by decide +kernel
theorem dX8_method_67 : decode cX8_method 67 = .ok (.ifCond .lt 9, 3) := by decide +kernel
theorem dX8_method_70 : decode cX8_method 70 = .ok (.iload 4, 2) := by decide +kernel
theorem dX8_method_72 : decode cX8_method 72 = .ok (.iconst 3, 1) := by decide +kernel
theorem dX8_method_73 : decode cX8_method 73 = .ok (.if_icmp .le 13, 3) := by decide +kernel
theorem dX8_method_79 : decode cX8_method 79 = .ok (.dup, 1) := by decide +kernel
theorem dX8_method_80 : decode cX8_method 80 = .ok (.ldc 126, 2) := by decide +kernel
theorem dX8_method_82 : decode cX8_method 82 = .ok (.invokespecial 61, 3) := by decide +kernel
theorem dX8_method_85 : decode cX8_method 85 = .ok (.athrow, 1) := by decide +kernel
theorem dX8_method_76 : decode cX8_method 76 = .ok (.new 57, 3) := by decide +kernel
theorem dX8_method_86 : decode cX8_method 86 = .ok (.aload_n 0, 1) := by decide +kernel
theorem dX8_method_87 : decode cX8_method 87 = .ok (.getfield 26, 3) := by decide +kernel
theorem dX8_method_90 : decode cX8_method 90 = .ok (.invokevirtual 128, 3) := by decide +kernel
theorem dX8_method_93 : decode cX8_method 93 = .ok (.bipush 20, 2) := by decide +kernel
theorem dX8_method_95 : decode cX8_method 95 = .ok (.if_icmp .ne 13, 3) := by decide +kernel
theorem dX8_method_101 : decode cX8_method 101 = .ok (.dup, 1) := by decide +kernel
theorem dX8_method_102 : decode cX8_method 102 = .ok (.ldc 132, 2) := by decide +kernel
theorem dX8_method_104 : decode cX8_method 104 = .ok (.invokespecial 72, 3) := by decide +kernel
theorem dX8_method_107 : decode cX8_method 107 = .ok (.athrow, 1) := by decide +kernel
theorem dX8_method_98 : decode cX8_method 98 = .ok (.new 68, 3) := by decide +kernel
theorem dX8_method_108 : decode cX8_method 108 = .ok (.new 134, 3) := by decide +kernel
theorem dX8_method_111 : decode cX8_method 111 = .ok (.dup, 1) := by decide +kernel
theorem dX8_method_112 : decode cX8_method 112 = .ok (.aload_n 0, 1) := by decide +kernel
theorem dX8_method_113 : decode cX8_method 113 = .ok (.getfield 19, 3) := by decide +kernel
theorem dX8_method_116 : decode cX8_method 116 = .ok (.invokevirtual 136, 3) := by decide +kernel
theorem dX8_method_119 : decode cX8_method 119 = .ok (.aload_n 0, 1) := by decide +kernel
theorem dX8_method_120 : decode cX8_method 120 = .ok (.getfield 19, 3) := by decide +kernel
theorem dX8_method_123 : decode cX8_method 123 = .ok (.invokevirtual 140, 3) := by decide +kernel
theorem dX8_method_126 : decode cX8_method 126 = .ok (.iload_n 1, 1) := by decide +kernel
theorem dX8_method_127 : decode cX8_method 127 = .ok (.iload_n 2, 1) := by decide +kernel
theorem dX8_method_128 : decode cX8_method 128 = .ok (.iload_n 3, 1) := by decide +kernel
theorem dX8_method_129 : decode cX8_method 129 = .ok (.iload 4, 2) := by decide +kernel
theorem dX8_method_131 : decode cX8_method 131 = .ok (.invokespecial 144, 3) := by decide +kernel
theorem dX8_method_134 : decode cX8_method 134 = .ok (.astore 5, 2) := by decide +kernel
theorem dX8_method_136 : decode cX8_method 136 = .ok (.aload_n 0, 1) := by decide +kernel
theorem dX8_method_137 : decode cX8_method 137 = .ok (.getfield 19, 3) := by decide +kernel
theorem dX8_method_140 : decode cX8_method 140 = .ok (.invokevirtual 147, 3) := by decide +kernel
theorem dX8_method_143 : decode cX8_method 143 = .ok (.aload_n 0, 1) := by decide +kernel
theorem dX8_method_144 : decode cX8_method 144 = .ok (.getfield 35, 3) := by decide +kernel
theorem dX8_method_147 : decode cX8_method 147 = .ok (.aload 5, 2) := by decide +kernel
theorem dX8_method_149 : decode cX8_method 149 = .ok (.invokevirtual 150, 3) := by decide +kernel
theorem dX8_method_152 : decode cX8_method 152 = .ok (.ifCond .ne 5, 3) := by decide +kernel
theorem dX8_method_155 : decode cX8_method 155 = .ok (.iconst (-1), 1) := by decide +kernel
theorem dX8_method_156 : decode cX8_method 156 = .ok (.ireturn, 1) := by decide +kernel
theorem dX8_method_157 : decode cX8_method 157 = .ok (.aload_n 0, 1) := by decide +kernel
theorem dX8_method_158 : decode cX8_method 158 = .ok (.getfield 26, 3) := by decide +kernel
theorem dX8_method_161 : decode cX8_method 161 = .ok (.aload 5, 2) := by decide +kernel
theorem dX8_method_163 : decode cX8_method 163 = .ok (.invokevirtual 154, 3) := by decide +kernel
theorem dX8_method_166 : decode cX8_method 166 = .ok (.pop, 1) := by decide +kernel
theorem dX8_method_167 : decode cX8_method 167 = .ok (.aload_n 0, 1) := by decide +kernel
theorem dX8_method_168 : decode cX8_method 168 = .ok (.getfield 26, 3) := by decide +kernel
theorem dX8_method_171 : decode cX8_method 171 = .ok (.invokevirtual 128, 3) := by decide +kernel
theorem dX8_method_174 : decode cX8_method 174 = .ok (.iconst 1, 1) := by decide +kernel
theorem dX8_method_175 : decode cX8_method 175 = .ok (.isub, 1) := by decide +kernel
theorem dX8_method_176 : decode cX8_method 176 = .ok (.ireturn, 1) := by decide +kernel
theorem dX2_empty_0 : decode cX2_empty 0 = .ok (.aload_n 0, 1) := by decide +kernel
theorem dX2_empty_1 : decode cX2_empty 1 = .ok (.iconst 0, 1) := by decide +kernel
theorem dX2_empty_2 : decode cX2_empty 2 = .ok (.putfield 45, 3) := by decide +kernel
theorem dX2_empty_5 : decode cX2_empty 5 = .ok (.aload_n 0, 1) := by decide +kernel
theorem dX2_empty_6 : decode cX2_empty 6 = .ok (.iconst 0, 1) := by decide +kernel
theorem dX2_empty_7 : decode cX2_empty 7 = .ok (.putfield 49, 3) := by decide +kernel
theorem dX2_empty_10 : decode cX2_empty 10 = .ok (.return_, 1) := by decide +kernel
theorem dJ7_rangeCheck_23922_0 : decode cJ7_rangeCheck_23922 0 = .ok (.iload_n 1, 1) := by decide +kernel
theorem dJ7_rangeCheck_23922_1 : decode cJ7_rangeCheck_23922 1 = .ok (.iload_n 2, 1) := by decide +kernel
theorem dJ7_rangeCheck_23922_2 : decode cJ7_rangeCheck_23922 2 = .ok (.if_icmp .le 44, 3) := by decide +kernel
theorem dJ7_rangeCheck_23922_46 : decode cJ7_rangeCheck_23922 46 = .ok (.iload_n 1, 1) := by decide +kernel
theorem dJ7_rangeCheck_23922_47 : decode cJ7_rangeCheck_23922 47 = .ok (.ifCond .ge 12, 3) := by decide +kernel
theorem dJ7_rangeCheck_23922_59 : decode cJ7_rangeCheck_23922 59 = .ok (.iload_n 2, 1) := by decide +kernel
theorem dJ7_rangeCheck_23922_60 : decode cJ7_rangeCheck_23922 60 = .ok (.iload_n 0, 1) := by decide +kernel
theorem dJ7_rangeCheck_23922_61 : decode cJ7_rangeCheck_23922 61 = .ok (.if_icmp .le 12, 3) := by decide +kernel
theorem dJ7_rangeCheck_23922_73 : decode cJ7_rangeCheck_23922 73 = .ok (.return_, 1) := by decide +kernel
theorem dJ7_fill_fda19_0 : decode cJ7_fill_fda19 0 = .ok (.aload_n 0, 1) := by decide +kernel
theorem dJ7_fill_fda19_1 : decode cJ7_fill_fda19 1 = .ok (.arraylength, 1) := by decide +kernel
theorem dJ7_fill_fda19_2 : decode cJ7_fill_fda19 2 = .ok (.iload_n 1, 1) := by decide +kernel
theorem dJ7_fill_fda19_3 : decode cJ7_fill_fda19 3 = .ok (.iload_n 2, 1) := by decide +kernel
theorem dJ7_fill_fda19_4 : decode cJ7_fill_fda19 4 = .ok (.invokestatic 13, 3) := by decide +kernel
theorem dJ7_fill_fda19_7 : decode cJ7_fill_fda19 7 = .ok (.iload_n 1, 1) := by decide +kernel
theorem dJ7_fill_fda19_8 : decode cJ7_fill_fda19 8 = .ok (.istore 4, 2) := by decide +kernel
theorem dJ7_fill_fda19_10 : decode cJ7_fill_fda19 10 = .ok (.iload 4, 2) := by decide +kernel
theorem dJ7_fill_fda19_12 : decode cJ7_fill_fda19 12 = .ok (.iload_n 2, 1) := by decide +kernel
theorem dJ7_fill_fda19_13 : decode cJ7_fill_fda19 13 = .ok (.if_icmp .ge 14, 3) := by decide +kernel
theorem dJ7_fill_fda19_16 : decode cJ7_fill_fda19 16 = .ok (.aload_n 0, 1) := by decide +kernel
theorem dJ7_fill_fda19_17 : decode cJ7_fill_fda19 17 = .ok (.iload 4, 2) := by decide +kernel
theorem dJ7_fill_fda19_19 : decode cJ7_fill_fda19 19 = .ok (.iload_n 3, 1) := by decide +kernel
theorem dJ7_fill_fda19_20 : decode cJ7_fill_fda19 20 = .ok (.iastore, 1) := by decide +kernel
theorem dJ7_fill_fda19_21 : decode cJ7_fill_fda19 21 = .ok (.iinc 4 1, 3) := by decide +kernel
theorem dJ7_fill_fda19_24 : decode cJ7_fill_fda19 24 = .ok (.goto (-14), 3) := by decide +kernel
theorem dJ7_fill_fda19_27 : decode cJ7_fill_fda19 27 = .ok (.return_, 1) := by decide +kernel
theorem dX1_begin_0 : decode cX1_begin 0 = .ok (.aload_n 0, 1) := by decide +kernel
theorem dX1_begin_1 : decode cX1_begin 1 = .ok (.aload_n 1, 1) := by decide +kernel
theorem dX1_begin_2 : decode cX1_begin 2 = .ok (.putfield 23, 3) := by decide +kernel
theorem dX1_begin_5 : decode cX1_begin 5 = .ok (.aload_n 0, 1) := by decide +kernel
theorem dX1_begin_6 : decode cX1_begin 6 = .ok (.iconst 0, 1) := by decide +kernel
theorem dX1_begin_7 : decode cX1_begin 7 = .ok (.putfield 27, 3) := by decide +kernel
theorem dX1_begin_10 : decode cX1_begin 10 = .ok (.aload_n 0, 1) := by decide +kernel
theorem dX1_begin_11 : decode cX1_begin 11 = .ok (.bipush 16, 2) := by decide +kernel
theorem dX1_begin_13 : decode cX1_begin 13 = .ok (.putfield 19, 3) := by decide +kernel
theorem dX1_begin_16 : decode cX1_begin 16 = .ok (.aload_n 0, 1) := by decide +kernel
theorem dX1_begin_17 : decode cX1_begin 17 = .ok (.getfield 15, 3) := by decide +kernel
theorem dX1_begin_20 : decode cX1_begin 20 = .ok (.iconst 0, 1) := by decide +kernel
theorem dX1_begin_21 : decode cX1_begin 21 = .ok (.bipush 16, 2) := by decide +kernel
theorem dX1_begin_23 : decode cX1_begin 23 = .ok (.iconst 0, 1) := by decide +kernel
theorem dX1_begin_24 : decode cX1_begin 24 = .ok (.invokestatic 30, 3) := by decide +kernel
theorem dX1_begin_27 : decode cX1_begin 27 = .ok (.return_, 1) := by decide +kernel
theorem dX1_setNumber_0 : decode cX1_setNumber 0 = .ok (.aload_n 0, 1) := by decide +kernel
theorem dX1_setNumber_1 : decode cX1_setNumber 1 = .ok (.getfield 11, 3) := by decide +kernel
theorem dX1_setNumber_4 : decode cX1_setNumber 4 = .ok (.iload_n 1, 1) := by decide +kernel
theorem dX1_setNumber_5 : decode cX1_setNumber 5 = .ok (.lload_n 2, 1) := by decide +kernel
theorem dX1_setNumber_6 : decode cX1_setNumber 6 = .ok (.lastore, 1) := by decide +kernel
theorem dX1_setNumber_7 : decode cX1_setNumber 7 = .ok (.aload_n 0, 1) := by decide +kernel
theorem dX1_setNumber_8 : decode cX1_setNumber 8 = .ok (.getfield 15, 3) := by decide +kernel
theorem dX1_setNumber_11 : decode cX1_setNumber 11 = .ok (.iload_n 1, 1) := by decide +kernel
theorem dX1_setNumber_12 : decode cX1_setNumber 12 = .ok (.iconst 0, 1) := by decide +kernel
theorem dX1_setNumber_13 : decode cX1_setNumber 13 = .ok (.iastore, 1) := by decide +kernel
theorem dX1_setNumber_14 : decode cX1_setNumber 14 = .ok (.return_, 1) := by decide +kernel
theorem dX4_beginFirst_0 : decode cX4_beginFirst 0 = .ok (.aload_n 0, 1) := by decide +kernel
theorem dX4_beginFirst_1 : decode cX4_beginFirst 1 = .ok (.iconst 0, 1) := by decide +kernel
theorem dX4_beginFirst_2 : decode cX4_beginFirst 2 = .ok (.putfield 81, 3) := by decide +kernel
theorem dX4_beginFirst_5 : decode cX4_beginFirst 5 = .ok (.aload_n 0, 1) := by decide +kernel
theorem dX4_beginFirst_6 : decode cX4_beginFirst 6 = .ok (.aload_n 0, 1) := by decide +kernel
theorem dX4_beginFirst_7 : decode cX4_beginFirst 7 = .ok (.getfield 34, 3) := by decide +kernel
theorem dX4_beginFirst_10 : decode cX4_beginFirst 10 = .ok (.iconst 0, 1) := by decide +kernel
theorem dX4_beginFirst_11 : decode cX4_beginFirst 11 = .ok (.aaload, 1) := by decide +kernel
theorem dX4_beginFirst_12 : decode cX4_beginFirst 12 = .ok (.putfield 46, 3) := by decide +kernel
theorem dX4_beginFirst_15 : decode cX4_beginFirst 15 = .ok (.aload_n 0, 1) := by decide +kernel
theorem dX4_beginFirst_16 : decode cX4_beginFirst 16 = .ok (.getfield 46, 3) := by decide +kernel
theorem dX4_beginFirst_19 : decode cX4_beginFirst 19 = .ok (.aload_n 1, 1) := by decide +kernel
theorem dX4_beginFirst_20 : decode cX4_beginFirst 20 = .ok (.invokevirtual 84, 3) := by decide +kernel
theorem dX4_beginFirst_23 : decode cX4_beginFirst 23 = .ok (.lload_n 2, 1) := by decide +kernel
theorem dX4_beginFirst_24 : decode cX4_beginFirst 24 = .ok (.lstore 6, 2) := by decide +kernel
theorem dX4_beginFirst_26 : decode cX4_beginFirst 26 = .ok (.lload 4, 2) := by decide +kernel
theorem dX4_beginFirst_28 : decode cX4_beginFirst 28 = .ok (.lstore 8, 2) := by decide +kernel
theorem dX4_beginFirst_30 : decode cX4_beginFirst 30 = .ok (.iconst 0, 1) := by decide +kernel
theorem dX4_beginFirst_31 : decode cX4_beginFirst 31 = .ok (.istore 10, 2) := by decide +kernel
theorem dX4_beginFirst_33 : decode cX4_beginFirst 33 = .ok (.iload 10, 2) := by decide +kernel
theorem dX4_beginFirst_35 : decode cX4_beginFirst 35 = .ok (.aload_n 1, 1) := by decide +kernel
theorem dX4_beginFirst_36 : decode cX4_beginFirst 36 = .ok (.getfield 87, 3) := by decide +kernel
theorem dX4_beginFirst_39 : decode cX4_beginFirst 39 = .ok (.if_icmp .ge 62, 3) := by decide +kernel
theorem dX4_beginFirst_42 : decode cX4_beginFirst 42 = .ok (.aload_n 1, 1) := by decide +kernel
theorem dX4_beginFirst_43 : decode cX4_beginFirst 43 = .ok (.iload 10, 2) := by decide +kernel
theorem dX4_beginFirst_45 : decode cX4_beginFirst 45 = .ok (.invokevirtual 90, 3) := by decide +kernel
theorem dX4_beginFirst_48 : decode cX4_beginFirst 48 = .ok (.istore 11, 2) := by decide +kernel
theorem dX4_beginFirst_50 : decode cX4_beginFirst 50 = .ok (.iload 11, 2) := by decide +kernel
theorem dX4_beginFirst_52 : decode cX4_beginFirst 52 = .ok (.iconst 3, 1) := by decide +kernel
theorem dX4_beginFirst_53 : decode cX4_beginFirst 53 = .ok (.if_icmp .ne 6, 3) := by decide +kernel
theorem dX4_beginFirst_56 : decode cX4_beginFirst 56 = .ok (.goto 39, 3) := by decide +kernel
theorem dX4_beginFirst_59 : decode cX4_beginFirst 59 = .ok (.aload_n 0, 1) := by decide +kernel
theorem dX4_beginFirst_60 : decode cX4_beginFirst 60 = .ok (.getfield 46, 3) := by decide +kernel
theorem dX4_beginFirst_63 : decode cX4_beginFirst 63 = .ok (.iload 10, 2) := by decide +kernel
theorem dX4_beginFirst_65 : decode cX4_beginFirst 65 = .ok (.iload 11, 2) := by decide +kernel
theorem dX4_beginFirst_67 : decode cX4_beginFirst 67 = .ok (.iconst 1, 1) := by decide +kernel
theorem dX4_beginFirst_68 : decode cX4_beginFirst 68 = .ok (.if_icmp .ne 10, 3) := by decide +kernel
theorem dX4_beginFirst_71 : decode cX4_beginFirst 71 = .ok (.lload 6, 2) := by decide +kernel
theorem dX4_beginFirst_73 : decode cX4_beginFirst 73 = .ok (.l2i, 1) := by decide +kernel
theorem dX4_beginFirst_74 : decode cX4_beginFirst 74 = .ok (.i2l, 1) := by decide +kernel
theorem dX4_beginFirst_75 : decode cX4_beginFirst 75 = .ok (.goto 5, 3) := by decide +kernel
theorem dX4_beginFirst_78 : decode cX4_beginFirst 78 = .ok (.lload 6, 2) := by decide +kernel
theorem dX4_beginFirst_80 : decode cX4_beginFirst 80 = .ok (.invokevirtual 94, 3) := by decide +kernel
theorem dX4_beginFirst_83 : decode cX4_beginFirst 83 = .ok (.lload 6, 2) := by decide +kernel
theorem dX4_beginFirst_85 : decode cX4_beginFirst 85 = .ok (.lstore 12, 2) := by decide +kernel
theorem dX4_beginFirst_87 : decode cX4_beginFirst 87 = .ok (.lload 8, 2) := by decide +kernel
theorem dX4_beginFirst_89 : decode cX4_beginFirst 89 = .ok (.lstore 6, 2) := by decide +kernel
theorem dX4_beginFirst_91 : decode cX4_beginFirst 91 = .ok (.lload 12, 2) := by decide +kernel
theorem dX4_beginFirst_93 : decode cX4_beginFirst 93 = .ok (.lstore 8, 2) := by decide +kernel
theorem dX4_beginFirst_95 : decode cX4_beginFirst 95 = .ok (.iinc 10 1, 3) := by decide +kernel
theorem dX4_beginFirst_98 : decode cX4_beginFirst 98 = .ok (.goto (-65), 3) := by decide +kernel
theorem dX4_beginFirst_101 : decode cX4_beginFirst 101 = .ok (.return_, 1) := by decide +kernel
theorem dX2_wordsOfObject_0 : decode cX2_wordsOfObject 0 = .ok (.iconst 2, 1) := by decide +kernel
theorem dX2_wordsOfObject_1 : decode cX2_wordsOfObject 1 = .ok (.aload_n 0, 1) := by decide +kernel
theorem dX2_wordsOfObject_2 : decode cX2_wordsOfObject 2 = .ok (.getfield 9, 3) := by decide +kernel
theorem dX2_wordsOfObject_5 : decode cX2_wordsOfObject 5 = .ok (.getfield 40, 3) := by decide +kernel
theorem dX2_wordsOfObject_8 : decode cX2_wordsOfObject 8 = .ok (.iload_n 1, 1) := by decide +kernel
theorem dX2_wordsOfObject_9 : decode cX2_wordsOfObject 9 = .ok (.iaload, 1) := by decide +kernel
theorem dX2_wordsOfObject_10 : decode cX2_wordsOfObject 10 = .ok (.iadd, 1) := by decide +kernel
theorem dX2_wordsOfObject_11 : decode cX2_wordsOfObject 11 = .ok (.ireturn, 1) := by decide +kernel
theorem dX2_reach_0 : decode cX2_reach 0 = .ok (.iload_n 1, 1) := by decide +kernel
theorem dX2_reach_1 : decode cX2_reach 1 = .ok (.ifCond .eq 16, 3) := by decide +kernel
theorem dX2_reach_4 : decode cX2_reach 4 = .ok (.aload_n 0, 1) := by decide +kernel
theorem dX2_reach_5 : decode cX2_reach 5 = .ok (.getfield 25, 3) := by decide +kernel
theorem dX2_reach_8 : decode cX2_reach 8 = .ok (.iload_n 1, 1) := by decide +kernel
theorem dX2_reach_9 : decode cX2_reach 9 = .ok (.iaload, 1) := by decide +kernel
theorem dX2_reach_10 : decode cX2_reach 10 = .ok (.aload_n 0, 1) := by decide +kernel
theorem dX2_reach_11 : decode cX2_reach 11 = .ok (.getfield 52, 3) := by decide +kernel
theorem dX2_reach_14 : decode cX2_reach 14 = .ok (.if_icmp .ne 4, 3) := by decide +kernel
theorem dX2_reach_17 : decode cX2_reach 17 = .ok (.return_, 1) := by decide +kernel
theorem dX2_reach_18 : decode cX2_reach 18 = .ok (.aload_n 0, 1) := by decide +kernel
theorem dX2_reach_19 : decode cX2_reach 19 = .ok (.getfield 25, 3) := by decide +kernel
theorem dX2_reach_22 : decode cX2_reach 22 = .ok (.iload_n 1, 1) := by decide +kernel
theorem dX2_reach_23 : decode cX2_reach 23 = .ok (.aload_n 0, 1) := by decide +kernel
theorem dX2_reach_24 : decode cX2_reach 24 = .ok (.getfield 52, 3) := by decide +kernel
theorem dX2_reach_27 : decode cX2_reach 27 = .ok (.iastore, 1) := by decide +kernel
theorem dX2_reach_28 : decode cX2_reach 28 = .ok (.aload_n 0, 1) := by decide +kernel
theorem dX2_reach_29 : decode cX2_reach 29 = .ok (.getfield 31, 3) := by decide +kernel
theorem dX2_reach_32 : decode cX2_reach 32 = .ok (.aload_n 0, 1) := by decide +kernel
theorem dX2_reach_33 : decode cX2_reach 33 = .ok (.getfield 55, 3) := by decide +kernel
theorem dX2_reach_36 : decode cX2_reach 36 = .ok (.iload_n 1, 1) := by decide +kernel
theorem dX2_reach_37 : decode cX2_reach 37 = .ok (.iastore, 1) := by decide +kernel
theorem dX2_reach_38 : decode cX2_reach 38 = .ok (.aload_n 0, 1) := by decide +kernel
theorem dX2_reach_39 : decode cX2_reach 39 = .ok (.dup, 1) := by decide +kernel
theorem dX2_reach_40 : decode cX2_reach 40 = .ok (.getfield 55, 3) := by decide +kernel
theorem dX2_reach_43 : decode cX2_reach 43 = .ok (.iconst 1, 1) := by decide +kernel
theorem dX2_reach_44 : decode cX2_reach 44 = .ok (.iadd, 1) := by decide +kernel
theorem dX2_reach_45 : decode cX2_reach 45 = .ok (.putfield 55, 3) := by decide +kernel
theorem dX2_reach_48 : decode cX2_reach 48 = .ok (.return_, 1) := by decide +kernel
theorem dX1_showReferences_0 : decode cX1_showReferences 0 = .ok (.iconst 0, 1) := by decide +kernel
theorem dX1_showReferences_1 : decode cX1_showReferences 1 = .ok (.istore_n 2, 1) := by decide +kernel
theorem dX1_showReferences_2 : decode cX1_showReferences 2 = .ok (.iload_n 2, 1) := by decide +kernel
theorem dX1_showReferences_3 : decode cX1_showReferences 3 = .ok (.aload_n 0, 1) := by decide +kernel
theorem dX1_showReferences_4 : decode cX1_showReferences 4 = .ok (.getfield 19, 3) := by decide +kernel
theorem dX1_showReferences_7 : decode cX1_showReferences 7 = .ok (.if_icmp .ge 19, 3) := by decide +kernel
theorem dX1_showReferences_10 : decode cX1_showReferences 10 = .ok (.aload_n 1, 1) := by decide +kernel
theorem dX1_showReferences_11 : decode cX1_showReferences 11 = .ok (.aload_n 0, 1) := by decide +kernel
theorem dX1_showReferences_12 : decode cX1_showReferences 12 = .ok (.getfield 15, 3) := by decide +kernel
theorem dX1_showReferences_15 : decode cX1_showReferences 15 = .ok (.iload_n 2, 1) := by decide +kernel
theorem dX1_showReferences_16 : decode cX1_showReferences 16 = .ok (.iaload, 1) := by decide +kernel
theorem dX1_showReferences_17 : decode cX1_showReferences 17 = .ok (.invokevirtual 63, 3) := by decide +kernel
theorem dX1_showReferences_20 : decode cX1_showReferences 20 = .ok (.iinc 2 1, 3) := by decide +kernel
theorem dX1_showReferences_23 : decode cX1_showReferences 23 = .ok (.goto (-21), 3) := by decide +kernel
theorem dX1_showReferences_26 : decode cX1_showReferences 26 = .ok (.return_, 1) := by decide +kernel
theorem dX2_sweep_0 : decode cX2_sweep 0 = .ok (.iconst 0, 1) := by decide +kernel
theorem dX2_sweep_1 : decode cX2_sweep 1 = .ok (.istore_n 1, 1) := by decide +kernel
theorem dX2_sweep_2 : decode cX2_sweep 2 = .ok (.iconst 0, 1) := by decide +kernel
theorem dX2_sweep_3 : decode cX2_sweep 3 = .ok (.istore_n 2, 1) := by decide +kernel
theorem dX2_sweep_4 : decode cX2_sweep 4 = .ok (.iconst 0, 1) := by decide +kernel
theorem dX2_sweep_5 : decode cX2_sweep 5 = .ok (.istore_n 3, 1) := by decide +kernel
theorem dX2_sweep_6 : decode cX2_sweep 6 = .ok (.iload_n 3, 1) := by decide +kernel
theorem dX2_sweep_7 : decode cX2_sweep 7 = .ok (.aload_n 0, 1) := by decide +kernel
theorem dX2_sweep_8 : decode cX2_sweep 8 = .ok (.getfield 45, 3) := by decide +kernel
theorem dX2_sweep_11 : decode cX2_sweep 11 = .ok (.if_icmp .ge 101, 3) := by decide +kernel
theorem dX2_sweep_14 : decode cX2_sweep 14 = .ok (.aload_n 0, 1) := by decide +kernel
theorem dX2_sweep_15 : decode cX2_sweep 15 = .ok (.getfield 28, 3) := by decide +kernel
theorem dX2_sweep_18 : decode cX2_sweep 18 = .ok (.iload_n 3, 1) := by decide +kernel
theorem dX2_sweep_19 : decode cX2_sweep 19 = .ok (.iaload, 1) := by decide +kernel
theorem dX2_sweep_20 : decode cX2_sweep 20 = .ok (.istore 4, 2) := by decide +kernel
theorem dX2_sweep_22 : decode cX2_sweep 22 = .ok (.aload_n 0, 1) := by decide +kernel
theorem dX2_sweep_23 : decode cX2_sweep 23 = .ok (.getfield 25, 3) := by decide +kernel
theorem dX2_sweep_26 : decode cX2_sweep 26 = .ok (.iload 4, 2) := by decide +kernel
theorem dX2_sweep_28 : decode cX2_sweep 28 = .ok (.iaload, 1) := by decide +kernel
theorem dX2_sweep_29 : decode cX2_sweep 29 = .ok (.aload_n 0, 1) := by decide +kernel
theorem dX2_sweep_30 : decode cX2_sweep 30 = .ok (.getfield 52, 3) := by decide +kernel
theorem dX2_sweep_33 : decode cX2_sweep 33 = .ok (.if_icmp .eq 6, 3) := by decide +kernel
theorem dX2_sweep_36 : decode cX2_sweep 36 = .ok (.goto 70, 3) := by decide +kernel
theorem dX2_sweep_39 : decode cX2_sweep 39 = .ok (.aload_n 0, 1) := by decide +kernel
theorem dX2_sweep_40 : decode cX2_sweep 40 = .ok (.getfield 15, 3) := by decide +kernel
theorem dX2_sweep_43 : decode cX2_sweep 43 = .ok (.aload_n 0, 1) := by decide +kernel
theorem dX2_sweep_44 : decode cX2_sweep 44 = .ok (.getfield 19, 3) := by decide +kernel
theorem dX2_sweep_47 : decode cX2_sweep 47 = .ok (.iload 4, 2) := by decide +kernel
theorem dX2_sweep_49 : decode cX2_sweep 49 = .ok (.iaload, 1) := by decide +kernel
theorem dX2_sweep_50 : decode cX2_sweep 50 = .ok (.aload_n 0, 1) := by decide +kernel
theorem dX2_sweep_51 : decode cX2_sweep 51 = .ok (.getfield 15, 3) := by decide +kernel
theorem dX2_sweep_54 : decode cX2_sweep 54 = .ok (.iload_n 2, 1) := by decide +kernel
theorem dX2_sweep_55 : decode cX2_sweep 55 = .ok (.aload_n 0, 1) := by decide +kernel
theorem dX2_sweep_56 : decode cX2_sweep 56 = .ok (.getfield 22, 3) := by decide +kernel
theorem dX2_sweep_59 : decode cX2_sweep 59 = .ok (.iload 4, 2) := by decide +kernel
theorem dX2_sweep_61 : decode cX2_sweep 61 = .ok (.iaload, 1) := by decide +kernel
theorem dX2_sweep_62 : decode cX2_sweep 62 = .ok (.invokestatic 82, 3) := by decide +kernel
theorem dX2_sweep_65 : decode cX2_sweep 65 = .ok (.aload_n 0, 1) := by decide +kernel
theorem dX2_sweep_66 : decode cX2_sweep 66 = .ok (.getfield 19, 3) := by decide +kernel
theorem dX2_sweep_69 : decode cX2_sweep 69 = .ok (.iload 4, 2) := by decide +kernel
theorem dX2_sweep_71 : decode cX2_sweep 71 = .ok (.iload_n 2, 1) := by decide +kernel
theorem dX2_sweep_72 : decode cX2_sweep 72 = .ok (.iastore, 1) := by decide +kernel
theorem dX2_sweep_73 : decode cX2_sweep 73 = .ok (.iload_n 2, 1) := by decide +kernel
theorem dX2_sweep_74 : decode cX2_sweep 74 = .ok (.aload_n 0, 1) := by decide +kernel
theorem dX2_sweep_75 : decode cX2_sweep 75 = .ok (.getfield 22, 3) := by decide +kernel
theorem dX2_sweep_78 : decode cX2_sweep 78 = .ok (.iload 4, 2) := by decide +kernel
theorem dX2_sweep_80 : decode cX2_sweep 80 = .ok (.iaload, 1) := by decide +kernel
theorem dX2_sweep_81 : decode cX2_sweep 81 = .ok (.iadd, 1) := by decide +kernel
theorem dX2_sweep_82 : decode cX2_sweep 82 = .ok (.istore_n 2, 1) := by decide +kernel
theorem dX2_sweep_83 : decode cX2_sweep 83 = .ok (.aload_n 0, 1) := by decide +kernel
theorem dX2_sweep_84 : decode cX2_sweep 84 = .ok (.getfield 28, 3) := by decide +kernel
theorem dX2_sweep_87 : decode cX2_sweep 87 = .ok (.iload_n 3, 1) := by decide +kernel
theorem dX2_sweep_88 : decode cX2_sweep 88 = .ok (.aload_n 0, 1) := by decide +kernel
theorem dX2_sweep_89 : decode cX2_sweep 89 = .ok (.getfield 28, 3) := by decide +kernel
theorem dX2_sweep_92 : decode cX2_sweep 92 = .ok (.iload_n 1, 1) := by decide +kernel
theorem dX2_sweep_93 : decode cX2_sweep 93 = .ok (.iaload, 1) := by decide +kernel
theorem dX2_sweep_94 : decode cX2_sweep 94 = .ok (.iastore, 1) := by decide +kernel
theorem dX2_sweep_95 : decode cX2_sweep 95 = .ok (.aload_n 0, 1) := by decide +kernel
theorem dX2_sweep_96 : decode cX2_sweep 96 = .ok (.getfield 28, 3) := by decide +kernel
theorem dX2_sweep_99 : decode cX2_sweep 99 = .ok (.iload_n 1, 1) := by decide +kernel
theorem dX2_sweep_100 : decode cX2_sweep 100 = .ok (.iload 4, 2) := by decide +kernel
theorem dX2_sweep_102 : decode cX2_sweep 102 = .ok (.iastore, 1) := by decide +kernel
theorem dX2_sweep_103 : decode cX2_sweep 103 = .ok (.iinc 1 1, 3) := by decide +kernel
theorem dX2_sweep_106 : decode cX2_sweep 106 = .ok (.iinc 3 1, 3) := by decide +kernel
theorem dX2_sweep_109 : decode cX2_sweep 109 = .ok (.goto (-103), 3) := by decide +kernel
theorem dX2_sweep_112 : decode cX2_sweep 112 = .ok (.aload_n 0, 1) := by decide +kernel
theorem dX2_sweep_113 : decode cX2_sweep 113 = .ok (.iload_n 1, 1) := by decide +kernel
theorem dX2_sweep_114 : decode cX2_sweep 114 = .ok (.putfield 45, 3) := by decide +kernel
theorem dX2_sweep_117 : decode cX2_sweep 117 = .ok (.aload_n 0, 1) := by decide +kernel
theorem dX2_sweep_118 : decode cX2_sweep 118 = .ok (.iload_n 2, 1) := by decide +kernel
theorem dX2_sweep_119 : decode cX2_sweep 119 = .ok (.putfield 49, 3) := by decide +kernel
theorem dX2_sweep_122 : decode cX2_sweep 122 = .ok (.return_, 1) := by decide +kernel
theorem dX2_add_0 : decode cX2_add 0 = .ok (.aload_n 0, 1) := by decide +kernel
theorem dX2_add_1 : decode cX2_add 1 = .ok (.getfield 49, 3) := by decide +kernel
theorem dX2_add_4 : decode cX2_add 4 = .ok (.iload_n 3, 1) := by decide +kernel
theorem dX2_add_5 : decode cX2_add 5 = .ok (.iadd, 1) := by decide +kernel
theorem dX2_add_6 : decode cX2_add 6 = .ok (.aload_n 0, 1) := by decide +kernel
theorem dX2_add_7 : decode cX2_add 7 = .ok (.getfield 15, 3) := by decide +kernel
theorem dX2_add_10 : decode cX2_add 10 = .ok (.arraylength, 1) := by decide +kernel
theorem dX2_add_11 : decode cX2_add 11 = .ok (.if_icmp .gt 15, 3) := by decide +kernel
theorem dX2_add_14 : decode cX2_add 14 = .ok (.aload_n 0, 1) := by decide +kernel
theorem dX2_add_15 : decode cX2_add 15 = .ok (.getfield 45, 3) := by decide +kernel
theorem dX2_add_18 : decode cX2_add 18 = .ok (.aload_n 0, 1) := by decide +kernel
theorem dX2_add_19 : decode cX2_add 19 = .ok (.getfield 28, 3) := by decide +kernel
theorem dX2_add_22 : decode cX2_add 22 = .ok (.arraylength, 1) := by decide +kernel
theorem dX2_add_23 : decode cX2_add 23 = .ok (.if_icmp .ne 7, 3) := by decide +kernel
theorem dX2_add_26 : decode cX2_add 26 = .ok (.aload_n 0, 1) := by decide +kernel
theorem dX2_add_27 : decode cX2_add 27 = .ok (.invokevirtual 73, 3) := by decide +kernel
theorem dX2_add_30 : decode cX2_add 30 = .ok (.aload_n 0, 1) := by decide +kernel
theorem dX2_add_31 : decode cX2_add 31 = .ok (.getfield 28, 3) := by decide +kernel
theorem dX2_add_34 : decode cX2_add 34 = .ok (.aload_n 0, 1) := by decide +kernel
theorem dX2_add_35 : decode cX2_add 35 = .ok (.getfield 45, 3) := by decide +kernel
theorem dX2_add_38 : decode cX2_add 38 = .ok (.iaload, 1) := by decide +kernel
theorem dX2_add_39 : decode cX2_add 39 = .ok (.istore 4, 2) := by decide +kernel
theorem dX2_add_41 : decode cX2_add 41 = .ok (.aload_n 0, 1) := by decide +kernel
theorem dX2_add_42 : decode cX2_add 42 = .ok (.dup, 1) := by decide +kernel
theorem dX2_add_43 : decode cX2_add 43 = .ok (.getfield 45, 3) := by decide +kernel
theorem dX2_add_46 : decode cX2_add 46 = .ok (.iconst 1, 1) := by decide +kernel
theorem dX2_add_47 : decode cX2_add 47 = .ok (.iadd, 1) := by decide +kernel
theorem dX2_add_48 : decode cX2_add 48 = .ok (.putfield 45, 3) := by decide +kernel
theorem dX2_add_51 : decode cX2_add 51 = .ok (.aload_n 0, 1) := by decide +kernel
theorem dX2_add_52 : decode cX2_add 52 = .ok (.getfield 19, 3) := by decide +kernel
theorem dX2_add_55 : decode cX2_add 55 = .ok (.iload 4, 2) := by decide +kernel
theorem dX2_add_57 : decode cX2_add 57 = .ok (.aload_n 0, 1) := by decide +kernel
theorem dX2_add_58 : decode cX2_add 58 = .ok (.getfield 49, 3) := by decide +kernel
theorem dX2_add_61 : decode cX2_add 61 = .ok (.iastore, 1) := by decide +kernel
theorem dX2_add_62 : decode cX2_add 62 = .ok (.aload_n 0, 1) := by decide +kernel
theorem dX2_add_63 : decode cX2_add 63 = .ok (.getfield 22, 3) := by decide +kernel
theorem dX2_add_66 : decode cX2_add 66 = .ok (.iload 4, 2) := by decide +kernel
theorem dX2_add_68 : decode cX2_add 68 = .ok (.iload_n 3, 1) := by decide +kernel
theorem dX2_add_69 : decode cX2_add 69 = .ok (.iastore, 1) := by decide +kernel
theorem dX2_add_70 : decode cX2_add 70 = .ok (.aload_n 0, 1) := by decide +kernel
theorem dX2_add_71 : decode cX2_add 71 = .ok (.getfield 15, 3) := by decide +kernel
theorem dX2_add_74 : decode cX2_add 74 = .ok (.aload_n 0, 1) := by decide +kernel
theorem dX2_add_75 : decode cX2_add 75 = .ok (.getfield 49, 3) := by decide +kernel
theorem dX2_add_78 : decode cX2_add 78 = .ok (.aload_n 0, 1) := by decide +kernel
theorem dX2_add_79 : decode cX2_add 79 = .ok (.getfield 49, 3) := by decide +kernel
theorem dX2_add_82 : decode cX2_add 82 = .ok (.iload_n 3, 1) := by decide +kernel
theorem dX2_add_83 : decode cX2_add 83 = .ok (.iadd, 1) := by decide +kernel
theorem dX2_add_84 : decode cX2_add 84 = .ok (.iconst 0, 1) := by decide +kernel
theorem dX2_add_85 : decode cX2_add 85 = .ok (.invokestatic 76, 3) := by decide +kernel
theorem dX2_add_88 : decode cX2_add 88 = .ok (.aload_n 0, 1) := by decide +kernel
theorem dX2_add_89 : decode cX2_add 89 = .ok (.getfield 15, 3) := by decide +kernel
theorem dX2_add_92 : decode cX2_add 92 = .ok (.aload_n 0, 1) := by decide +kernel
theorem dX2_add_93 : decode cX2_add 93 = .ok (.getfield 49, 3) := by decide +kernel
theorem dX2_add_96 : decode cX2_add 96 = .ok (.iload_n 1, 1) := by decide +kernel
theorem dX2_add_97 : decode cX2_add 97 = .ok (.iastore, 1) := by decide +kernel
theorem dX2_add_98 : decode cX2_add 98 = .ok (.aload_n 0, 1) := by decide +kernel
theorem dX2_add_99 : decode cX2_add 99 = .ok (.getfield 15, 3) := by decide +kernel
theorem dX2_add_102 : decode cX2_add 102 = .ok (.aload_n 0, 1) := by decide +kernel
theorem dX2_add_103 : decode cX2_add 103 = .ok (.getfield 49, 3) := by decide +kernel
theorem dX2_add_106 : decode cX2_add 106 = .ok (.iconst 1, 1) := by decide +kernel
theorem dX2_add_107 : decode cX2_add 107 = .ok (.iadd, 1) := by decide +kernel
theorem dX2_add_108 : decode cX2_add 108 = .ok (.iload_n 2, 1) := by decide +kernel
theorem dX2_add_109 : decode cX2_add 109 = .ok (.iastore, 1) := by decide +kernel
theorem dX2_add_110 : decode cX2_add 110 = .ok (.aload_n 0, 1) := by decide +kernel
theorem dX2_add_111 : decode cX2_add 111 = .ok (.dup, 1) := by decide +kernel
theorem dX2_add_112 : decode cX2_add 112 = .ok (.getfield 49, 3) := by decide +kernel
theorem dX2_add_115 : decode cX2_add 115 = .ok (.iload_n 3, 1) := by decide +kernel
theorem dX2_add_116 : decode cX2_add 116 = .ok (.iadd, 1) := by decide +kernel
theorem dX2_add_117 : decode cX2_add 117 = .ok (.putfield 49, 3) := by decide +kernel
theorem dX2_add_120 : decode cX2_add 120 = .ok (.iload 4, 2) := by decide +kernel
theorem dX2_add_122 : decode cX2_add 122 = .ok (.ireturn, 1) := by decide +kernel
theorem dX2_beginSearch_0 : decode cX2_beginSearch 0 = .ok (.aload_n 0, 1) := by decide +kernel
theorem dX2_beginSearch_1 : decode cX2_beginSearch 1 = .ok (.dup, 1) := by decide +kernel
theorem dX2_beginSearch_2 : decode cX2_beginSearch 2 = .ok (.getfield 52, 3) := by decide +kernel
theorem dX2_beginSearch_5 : decode cX2_beginSearch 5 = .ok (.iconst 1, 1) := by decide +kernel
theorem dX2_beginSearch_6 : decode cX2_beginSearch 6 = .ok (.iadd, 1) := by decide +kernel
theorem dX2_beginSearch_7 : decode cX2_beginSearch 7 = .ok (.putfield 52, 3) := by decide +kernel
theorem dX2_beginSearch_10 : decode cX2_beginSearch 10 = .ok (.aload_n 0, 1) := by decide +kernel
theorem dX2_beginSearch_11 : decode cX2_beginSearch 11 = .ok (.iconst 0, 1) := by decide +kernel
theorem dX2_beginSearch_12 : decode cX2_beginSearch 12 = .ok (.putfield 55, 3) := by decide +kernel
theorem dX2_beginSearch_15 : decode cX2_beginSearch 15 = .ok (.return_, 1) := by decide +kernel
theorem dX2_tag_0 : decode cX2_tag 0 = .ok (.aload_n 0, 1) := by decide +kernel
theorem dX2_tag_1 : decode cX2_tag 1 = .ok (.getfield 15, 3) := by decide +kernel
theorem dX2_tag_4 : decode cX2_tag 4 = .ok (.aload_n 0, 1) := by decide +kernel
theorem dX2_tag_5 : decode cX2_tag 5 = .ok (.getfield 19, 3) := by decide +kernel
theorem dX2_tag_8 : decode cX2_tag 8 = .ok (.iload_n 1, 1) := by decide +kernel
theorem dX2_tag_9 : decode cX2_tag 9 = .ok (.iaload, 1) := by decide +kernel
theorem dX2_tag_10 : decode cX2_tag 10 = .ok (.iaload, 1) := by decide +kernel
theorem dX2_tag_11 : decode cX2_tag 11 = .ok (.ireturn, 1) := by decide +kernel
theorem dX2_reachWhatHas_0 : decode cX2_reachWhatHas 0 = .ok (.aload_n 0, 1) := by decide +kernel
theorem dX2_reachWhatHas_1 : decode cX2_reachWhatHas 1 = .ok (.getfield 19, 3) := by decide +kernel
theorem dX2_reachWhatHas_4 : decode cX2_reachWhatHas 4 = .ok (.iload_n 1, 1) := by decide +kernel
theorem dX2_reachWhatHas_5 : decode cX2_reachWhatHas 5 = .ok (.iaload, 1) := by decide +kernel
theorem dX2_reachWhatHas_6 : decode cX2_reachWhatHas 6 = .ok (.iconst 2, 1) := by decide +kernel
theorem dX2_reachWhatHas_7 : decode cX2_reachWhatHas 7 = .ok (.iadd, 1) := by decide +kernel
theorem dX2_reachWhatHas_8 : decode cX2_reachWhatHas 8 = .ok (.istore_n 2, 1) := by decide +kernel
theorem dX2_reachWhatHas_9 : decode cX2_reachWhatHas 9 = .ok (.aload_n 0, 1) := by decide +kernel
theorem dX2_reachWhatHas_10 : decode cX2_reachWhatHas 10 = .ok (.getfield 22, 3) := by decide +kernel
theorem dX2_reachWhatHas_13 : decode cX2_reachWhatHas 13 = .ok (.iload_n 1, 1) := by decide +kernel
theorem dX2_reachWhatHas_14 : decode cX2_reachWhatHas 14 = .ok (.iaload, 1) := by decide +kernel
theorem dX2_reachWhatHas_15 : decode cX2_reachWhatHas 15 = .ok (.iconst 2, 1) := by decide +kernel
theorem dX2_reachWhatHas_16 : decode cX2_reachWhatHas 16 = .ok (.isub, 1) := by decide +kernel
theorem dX2_reachWhatHas_17 : decode cX2_reachWhatHas 17 = .ok (.istore_n 3, 1) := by decide +kernel
theorem dX2_reachWhatHas_18 : decode cX2_reachWhatHas 18 = .ok (.aload_n 0, 1) := by decide +kernel
theorem dX2_reachWhatHas_19 : decode cX2_reachWhatHas 19 = .ok (.iload_n 1, 1) := by decide +kernel
theorem dX2_reachWhatHas_20 : decode cX2_reachWhatHas 20 = .ok (.invokevirtual 62, 3) := by decide +kernel
theorem dX2_reachWhatHas_23 : decode cX2_reachWhatHas 23 = .ok (.istore 4, 2) := by decide +kernel
theorem dX2_reachWhatHas_25 : decode cX2_reachWhatHas 25 = .ok (.iload 4, 2) := by decide +kernel
theorem dX2_reachWhatHas_27 : decode cX2_reachWhatHas 27 = .ok (.ifCond .ge 11, 3) := by decide +kernel
theorem dX2_reachWhatHas_30 : decode cX2_reachWhatHas 30 = .ok (.iload 4, 2) := by decide +kernel
theorem dX2_reachWhatHas_32 : decode cX2_reachWhatHas 32 = .ok (.bipush (-12), 2) := by decide +kernel
theorem dX2_reachWhatHas_34 : decode cX2_reachWhatHas 34 = .ok (.if_icmp .eq 4, 3) := by decide +kernel
theorem dX2_reachWhatHas_37 : decode cX2_reachWhatHas 37 = .ok (.return_, 1) := by decide +kernel
theorem dX2_reachWhatHas_38 : decode cX2_reachWhatHas 38 = .ok (.iconst 0, 1) := by decide +kernel
theorem dX2_reachWhatHas_39 : decode cX2_reachWhatHas 39 = .ok (.istore 5, 2) := by decide +kernel
theorem dX2_reachWhatHas_41 : decode cX2_reachWhatHas 41 = .ok (.iload 5, 2) := by decide +kernel
theorem dX2_reachWhatHas_43 : decode cX2_reachWhatHas 43 = .ok (.iload_n 3, 1) := by decide +kernel
theorem dX2_reachWhatHas_44 : decode cX2_reachWhatHas 44 = .ok (.if_icmp .ge 42, 3) := by decide +kernel
theorem dX2_reachWhatHas_47 : decode cX2_reachWhatHas 47 = .ok (.iload 4, 2) := by decide +kernel
theorem dX2_reachWhatHas_49 : decode cX2_reachWhatHas 49 = .ok (.ifCond .lt 18, 3) := by decide +kernel
theorem dX2_reachWhatHas_52 : decode cX2_reachWhatHas 52 = .ok (.aload_n 0, 1) := by decide +kernel
theorem dX2_reachWhatHas_53 : decode cX2_reachWhatHas 53 = .ok (.getfield 9, 3) := by decide +kernel
theorem dX2_reachWhatHas_56 : decode cX2_reachWhatHas 56 = .ok (.iload 4, 2) := by decide +kernel
theorem dX2_reachWhatHas_58 : decode cX2_reachWhatHas 58 = .ok (.iload 5, 2) := by decide +kernel
theorem dX2_reachWhatHas_60 : decode cX2_reachWhatHas 60 = .ok (.invokevirtual 66, 3) := by decide +kernel
theorem dX2_reachWhatHas_63 : decode cX2_reachWhatHas 63 = .ok (.iconst 3, 1) := by decide +kernel
theorem dX2_reachWhatHas_64 : decode cX2_reachWhatHas 64 = .ok (.if_icmp .ne 16, 3) := by decide +kernel
theorem dX2_reachWhatHas_67 : decode cX2_reachWhatHas 67 = .ok (.aload_n 0, 1) := by decide +kernel
theorem dX2_reachWhatHas_68 : decode cX2_reachWhatHas 68 = .ok (.aload_n 0, 1) := by decide +kernel
theorem dX2_reachWhatHas_69 : decode cX2_reachWhatHas 69 = .ok (.getfield 15, 3) := by decide +kernel
theorem dX2_reachWhatHas_72 : decode cX2_reachWhatHas 72 = .ok (.iload_n 2, 1) := by decide +kernel
theorem dX2_reachWhatHas_73 : decode cX2_reachWhatHas 73 = .ok (.iload 5, 2) := by decide +kernel
theorem dX2_reachWhatHas_75 : decode cX2_reachWhatHas 75 = .ok (.iadd, 1) := by decide +kernel
theorem dX2_reachWhatHas_76 : decode cX2_reachWhatHas 76 = .ok (.iaload, 1) := by decide +kernel
theorem dX2_reachWhatHas_77 : decode cX2_reachWhatHas 77 = .ok (.invokevirtual 70, 3) := by decide +kernel
theorem dX2_reachWhatHas_80 : decode cX2_reachWhatHas 80 = .ok (.iinc 5 1, 3) := by decide +kernel
theorem dX2_reachWhatHas_83 : decode cX2_reachWhatHas 83 = .ok (.goto (-42), 3) := by decide +kernel
theorem dX2_reachWhatHas_86 : decode cX2_reachWhatHas 86 = .ok (.return_, 1) := by decide +kernel
theorem dX2_reachedWords_0 : decode cX2_reachedWords 0 = .ok (.iconst 0, 1) := by decide +kernel
theorem dX2_reachedWords_1 : decode cX2_reachedWords 1 = .ok (.istore_n 1, 1) := by decide +kernel
theorem dX2_reachedWords_2 : decode cX2_reachedWords 2 = .ok (.iconst 0, 1) := by decide +kernel
theorem dX2_reachedWords_3 : decode cX2_reachedWords 3 = .ok (.istore_n 2, 1) := by decide +kernel
theorem dX2_reachedWords_4 : decode cX2_reachedWords 4 = .ok (.iload_n 2, 1) := by decide +kernel
theorem dX2_reachedWords_5 : decode cX2_reachedWords 5 = .ok (.aload_n 0, 1) := by decide +kernel
theorem dX2_reachedWords_6 : decode cX2_reachedWords 6 = .ok (.getfield 31, 3) := by decide +kernel
theorem dX2_reachedWords_9 : decode cX2_reachedWords 9 = .ok (.arraylength, 1) := by decide +kernel
theorem dX2_reachedWords_10 : decode cX2_reachedWords 10 = .ok (.if_icmp .ge 41, 3) := by decide +kernel
theorem dX2_reachedWords_13 : decode cX2_reachedWords 13 = .ok (.iload_n 2, 1) := by decide +kernel
theorem dX2_reachedWords_14 : decode cX2_reachedWords 14 = .ok (.aload_n 0, 1) := by decide +kernel
theorem dX2_reachedWords_15 : decode cX2_reachedWords 15 = .ok (.getfield 55, 3) := by decide +kernel
theorem dX2_reachedWords_18 : decode cX2_reachedWords 18 = .ok (.if_icmp .ge 33, 3) := by decide +kernel
theorem dX2_reachedWords_21 : decode cX2_reachedWords 21 = .ok (.iload_n 1, 1) := by decide +kernel
theorem dX2_reachedWords_22 : decode cX2_reachedWords 22 = .ok (.aload_n 0, 1) := by decide +kernel
theorem dX2_reachedWords_23 : decode cX2_reachedWords 23 = .ok (.getfield 22, 3) := by decide +kernel
theorem dX2_reachedWords_26 : decode cX2_reachedWords 26 = .ok (.aload_n 0, 1) := by decide +kernel
theorem dX2_reachedWords_27 : decode cX2_reachedWords 27 = .ok (.getfield 31, 3) := by decide +kernel
theorem dX2_reachedWords_30 : decode cX2_reachedWords 30 = .ok (.iload_n 2, 1) := by decide +kernel
theorem dX2_reachedWords_31 : decode cX2_reachedWords 31 = .ok (.iaload, 1) := by decide +kernel
theorem dX2_reachedWords_32 : decode cX2_reachedWords 32 = .ok (.iaload, 1) := by decide +kernel
theorem dX2_reachedWords_33 : decode cX2_reachedWords 33 = .ok (.iadd, 1) := by decide +kernel
theorem dX2_reachedWords_34 : decode cX2_reachedWords 34 = .ok (.istore_n 1, 1) := by decide +kernel
theorem dX2_reachedWords_35 : decode cX2_reachedWords 35 = .ok (.aload_n 0, 1) := by decide +kernel
theorem dX2_reachedWords_36 : decode cX2_reachedWords 36 = .ok (.aload_n 0, 1) := by decide +kernel
theorem dX2_reachedWords_37 : decode cX2_reachedWords 37 = .ok (.getfield 31, 3) := by decide +kernel
theorem dX2_reachedWords_40 : decode cX2_reachedWords 40 = .ok (.iload_n 2, 1) := by decide +kernel
theorem dX2_reachedWords_41 : decode cX2_reachedWords 41 = .ok (.iaload, 1) := by decide +kernel
theorem dX2_reachedWords_42 : decode cX2_reachedWords 42 = .ok (.invokevirtual 58, 3) := by decide +kernel
theorem dX2_reachedWords_45 : decode cX2_reachedWords 45 = .ok (.iinc 2 1, 3) := by decide +kernel
theorem dX2_reachedWords_48 : decode cX2_reachedWords 48 = .ok (.goto (-44), 3) := by decide +kernel
theorem dX2_reachedWords_51 : decode cX2_reachedWords 51 = .ok (.iload_n 1, 1) := by decide +kernel
theorem dX2_reachedWords_52 : decode cX2_reachedWords 52 = .ok (.ireturn, 1) := by decide +kernel
theorem dX4_make_0 : decode cX4_make 0 = .ok (.aload_n 0, 1) := by decide +kernel
theorem dX4_make_1 : decode cX4_make 1 = .ok (.getfield 28, 3) := by decide +kernel
theorem dX4_make_4 : decode cX4_make 4 = .ok (.invokevirtual 290, 3) := by decide +kernel
theorem dX4_make_7 : decode cX4_make 7 = .ok (.iconst 0, 1) := by decide +kernel
theorem dX4_make_8 : decode cX4_make 8 = .ok (.istore 5, 2) := by decide +kernel
theorem dX4_make_10 : decode cX4_make 10 = .ok (.iload 5, 2) := by decide +kernel
theorem dX4_make_12 : decode cX4_make 12 = .ok (.aload_n 0, 1) := by decide +kernel
theorem dX4_make_13 : decode cX4_make 13 = .ok (.getfield 81, 3) := by decide +kernel
theorem dX4_make_16 : decode cX4_make 16 = .ok (.if_icmp .gt 23, 3) := by decide +kernel
theorem dX4_make_19 : decode cX4_make 19 = .ok (.aload_n 0, 1) := by decide +kernel
theorem dX4_make_20 : decode cX4_make 20 = .ok (.getfield 34, 3) := by decide +kernel
theorem dX4_make_23 : decode cX4_make 23 = .ok (.iload 5, 2) := by decide +kernel
theorem dX4_make_25 : decode cX4_make 25 = .ok (.aaload, 1) := by decide +kernel
theorem dX4_make_26 : decode cX4_make 26 = .ok (.aload_n 0, 1) := by decide +kernel
theorem dX4_make_27 : decode cX4_make 27 = .ok (.getfield 28, 3) := by decide +kernel
theorem dX4_make_30 : decode cX4_make 30 = .ok (.invokevirtual 293, 3) := by decide +kernel
theorem dX4_make_33 : decode cX4_make 33 = .ok (.iinc 5 1, 3) := by decide +kernel
theorem dX4_make_36 : decode cX4_make 36 = .ok (.goto (-26), 3) := by decide +kernel
theorem dX4_make_39 : decode cX4_make 39 = .ok (.aload_n 0, 1) := by decide +kernel
theorem dX4_make_40 : decode cX4_make 40 = .ok (.getfield 28, 3) := by decide +kernel
theorem dX4_make_43 : decode cX4_make 43 = .ok (.invokevirtual 297, 3) := by decide +kernel
theorem dX4_make_46 : decode cX4_make 46 = .ok (.i2l, 1) := by decide +kernel
theorem dX4_make_47 : decode cX4_make 47 = .ok (.lload_n 3, 1) := by decide +kernel
theorem dX4_make_48 : decode cX4_make 48 = .ok (.ladd, 1) := by decide +kernel
theorem dX4_make_49 : decode cX4_make 49 = .ok (.lstore 5, 2) := by decide +kernel
theorem dX4_make_51 : decode cX4_make 51 = .ok (.lload 5, 2) := by decide +kernel
theorem dX4_make_53 : decode cX4_make 53 = .ok (.aload_n 0, 1) := by decide +kernel
theorem dX4_make_54 : decode cX4_make 54 = .ok (.getfield 19, 3) := by decide +kernel
theorem dX4_make_57 : decode cX4_make 57 = .ok (.i2l, 1) := by decide +kernel
theorem dX4_make_58 : decode cX4_make 58 = .ok (.lcmp, 1) := by decide +kernel
theorem dX4_make_59 : decode cX4_make 59 = .ok (.ifCond .le 10, 3) := by decide +kernel
theorem dX4_make_62 : decode cX4_make 62 = .ok (.aload_n 0, 1) := by decide +kernel
theorem dX4_make_63 : decode cX4_make 63 = .ok (.iconst 3, 1) := by decide +kernel
theorem dX4_make_64 : decode cX4_make 64 = .ok (.putfield 66, 3) := by decide +kernel
theorem dX4_make_67 : decode cX4_make 67 = .ok (.iconst 0, 1) := by decide +kernel
theorem dX4_make_68 : decode cX4_make 68 = .ok (.ireturn, 1) := by decide +kernel
theorem dX4_make_69 : decode cX4_make 69 = .ok (.aload_n 0, 1) := by decide +kernel
theorem dX4_make_70 : decode cX4_make 70 = .ok (.lload 5, 2) := by decide +kernel
theorem dX4_make_72 : decode cX4_make 72 = .ok (.l2i, 1) := by decide +kernel
theorem dX4_make_73 : decode cX4_make 73 = .ok (.putfield 60, 3) := by decide +kernel
theorem dX4_make_76 : decode cX4_make 76 = .ok (.aload_n 0, 1) := by decide +kernel
theorem dX4_make_77 : decode cX4_make 77 = .ok (.aload_n 0, 1) := by decide +kernel
theorem dX4_make_78 : decode cX4_make 78 = .ok (.getfield 63, 3) := by decide +kernel
theorem dX4_make_81 : decode cX4_make 81 = .ok (.aload_n 0, 1) := by decide +kernel
theorem dX4_make_82 : decode cX4_make 82 = .ok (.getfield 60, 3) := by decide +kernel
theorem dX4_make_85 : decode cX4_make 85 = .ok (.invokestatic 300, 3) := by decide +kernel
theorem dX4_make_88 : decode cX4_make 88 = .ok (.putfield 63, 3) := by decide +kernel
theorem dX4_make_91 : decode cX4_make 91 = .ok (.aload_n 0, 1) := by decide +kernel
theorem dX4_make_92 : decode cX4_make 92 = .ok (.getfield 28, 3) := by decide +kernel
theorem dX4_make_95 : decode cX4_make 95 = .ok (.iload_n 1, 1) := by decide +kernel
theorem dX4_make_96 : decode cX4_make 96 = .ok (.iload_n 2, 1) := by decide +kernel
theorem dX4_make_97 : decode cX4_make 97 = .ok (.lload_n 3, 1) := by decide +kernel
theorem dX4_make_98 : decode cX4_make 98 = .ok (.l2i, 1) := by decide +kernel
theorem dX4_make_99 : decode cX4_make 99 = .ok (.invokevirtual 305, 3) := by decide +kernel
theorem dX4_make_102 : decode cX4_make 102 = .ok (.ireturn, 1) := by decide +kernel
theorem dX1_pushReference_0 : decode cX1_pushReference 0 = .ok (.aload_n 0, 1) := by decide +kernel
theorem dX1_pushReference_1 : decode cX1_pushReference 1 = .ok (.getfield 15, 3) := by decide +kernel
theorem dX1_pushReference_4 : decode cX1_pushReference 4 = .ok (.aload_n 0, 1) := by decide +kernel
theorem dX1_pushReference_5 : decode cX1_pushReference 5 = .ok (.getfield 19, 3) := by decide +kernel
theorem dX1_pushReference_8 : decode cX1_pushReference 8 = .ok (.iload_n 1, 1) := by decide +kernel
theorem dX1_pushReference_9 : decode cX1_pushReference 9 = .ok (.iastore, 1) := by decide +kernel
theorem dX1_pushReference_10 : decode cX1_pushReference 10 = .ok (.aload_n 0, 1) := by decide +kernel
theorem dX1_pushReference_11 : decode cX1_pushReference 11 = .ok (.dup, 1) := by decide +kernel
theorem dX1_pushReference_12 : decode cX1_pushReference 12 = .ok (.getfield 19, 3) := by decide +kernel
theorem dX1_pushReference_15 : decode cX1_pushReference 15 = .ok (.iconst 1, 1) := by decide +kernel
theorem dX1_pushReference_16 : decode cX1_pushReference 16 = .ok (.iadd, 1) := by decide +kernel
theorem dX1_pushReference_17 : decode cX1_pushReference 17 = .ok (.putfield 19, 3) := by decide +kernel
theorem dX1_pushReference_20 : decode cX1_pushReference 20 = .ok (.return_, 1) := by decide +kernel
theorem dX1_catchAt_0 : decode cX1_catchAt 0 = .ok (.aload_n 0, 1) := by decide +kernel
theorem dX1_catchAt_1 : decode cX1_catchAt 1 = .ok (.iload_n 1, 1) := by decide +kernel
theorem dX1_catchAt_2 : decode cX1_catchAt 2 = .ok (.putfield 27, 3) := by decide +kernel
theorem dX1_catchAt_5 : decode cX1_catchAt 5 = .ok (.aload_n 0, 1) := by decide +kernel
theorem dX1_catchAt_6 : decode cX1_catchAt 6 = .ok (.bipush 16, 2) := by decide +kernel
theorem dX1_catchAt_8 : decode cX1_catchAt 8 = .ok (.putfield 19, 3) := by decide +kernel
theorem dX1_catchAt_11 : decode cX1_catchAt 11 = .ok (.aload_n 0, 1) := by decide +kernel
theorem dX1_catchAt_12 : decode cX1_catchAt 12 = .ok (.iload_n 2, 1) := by decide +kernel
theorem dX1_catchAt_13 : decode cX1_catchAt 13 = .ok (.invokevirtual 60, 3) := by decide +kernel
theorem dX1_catchAt_16 : decode cX1_catchAt 16 = .ok (.return_, 1) := by decide +kernel
theorem dX1_routine_0 : decode cX1_routine 0 = .ok (.aload_n 0, 1) := by decide +kernel
theorem dX1_routine_1 : decode cX1_routine 1 = .ok (.getfield 23, 3) := by decide +kernel
theorem dX1_routine_4 : decode cX1_routine 4 = .ok (.areturn, 1) := by decide +kernel
theorem dX2_classes_0 : decode cX2_classes 0 = .ok (.aload_n 0, 1) := by decide +kernel
theorem dX2_classes_1 : decode cX2_classes 1 = .ok (.iload_n 1, 1) := by decide +kernel
theorem dX2_classes_2 : decode cX2_classes 2 = .ok (.invokevirtual 62, 3) := by decide +kernel
theorem dX2_classes_5 : decode cX2_classes 5 = .ok (.istore_n 2, 1) := by decide +kernel
theorem dX2_classes_6 : decode cX2_classes 6 = .ok (.iload_n 2, 1) := by decide +kernel
theorem dX2_classes_7 : decode cX2_classes 7 = .ok (.ifCond .ge 7, 3) := by decide +kernel
theorem dX2_classes_10 : decode cX2_classes 10 = .ok (.iconst 1, 1) := by decide +kernel
theorem dX2_classes_11 : decode cX2_classes 11 = .ok (.goto 12, 3) := by decide +kernel
theorem dX2_classes_14 : decode cX2_classes 14 = .ok (.aload_n 0, 1) := by decide +kernel
theorem dX2_classes_15 : decode cX2_classes 15 = .ok (.getfield 9, 3) := by decide +kernel
theorem dX2_classes_18 : decode cX2_classes 18 = .ok (.getfield 88, 3) := by decide +kernel
theorem dX2_classes_21 : decode cX2_classes 21 = .ok (.iload_n 2, 1) := by decide +kernel
theorem dX2_classes_22 : decode cX2_classes 22 = .ok (.iaload, 1) := by decide +kernel
theorem dX2_classes_23 : decode cX2_classes 23 = .ok (.ireturn, 1) := by decide +kernel
theorem dX6_placeToCatch_0 : decode cX6_placeToCatch 0 = .ok (.iconst 0, 1) := by decide +kernel
theorem dX6_placeToCatch_1 : decode cX6_placeToCatch 1 = .ok (.istore_n 3, 1) := by decide +kernel
theorem dX6_placeToCatch_2 : decode cX6_placeToCatch 2 = .ok (.iload_n 3, 1) := by decide +kernel
theorem dX6_placeToCatch_3 : decode cX6_placeToCatch 3 = .ok (.aload_n 0, 1) := by decide +kernel
theorem dX6_placeToCatch_4 : decode cX6_placeToCatch 4 = .ok (.getfield 15, 3) := by decide +kernel
theorem dX6_placeToCatch_7 : decode cX6_placeToCatch 7 = .ok (.arraylength, 1) := by decide +kernel
theorem dX6_placeToCatch_8 : decode cX6_placeToCatch 8 = .ok (.if_icmp .ge 43, 3) := by decide +kernel
theorem dX6_placeToCatch_11 : decode cX6_placeToCatch 11 = .ok (.aload_n 0, 1) := by decide +kernel
theorem dX6_placeToCatch_12 : decode cX6_placeToCatch 12 = .ok (.iload_n 3, 1) := by decide +kernel
theorem dX6_placeToCatch_13 : decode cX6_placeToCatch 13 = .ok (.iload_n 1, 1) := by decide +kernel
theorem dX6_placeToCatch_14 : decode cX6_placeToCatch 14 = .ok (.invokevirtual 39, 3) := by decide +kernel
theorem dX6_placeToCatch_17 : decode cX6_placeToCatch 17 = .ok (.ifCond .eq 28, 3) := by decide +kernel
theorem dX6_placeToCatch_20 : decode cX6_placeToCatch 20 = .ok (.iload_n 2, 1) := by decide +kernel
theorem dX6_placeToCatch_21 : decode cX6_placeToCatch 21 = .ok (.aload_n 0, 1) := by decide +kernel
theorem dX6_placeToCatch_22 : decode cX6_placeToCatch 22 = .ok (.getfield 15, 3) := by decide +kernel
theorem dX6_placeToCatch_25 : decode cX6_placeToCatch 25 = .ok (.iload_n 3, 1) := by decide +kernel
theorem dX6_placeToCatch_26 : decode cX6_placeToCatch 26 = .ok (.iconst 3, 1) := by decide +kernel
theorem dX6_placeToCatch_27 : decode cX6_placeToCatch 27 = .ok (.iadd, 1) := by decide +kernel
theorem dX6_placeToCatch_28 : decode cX6_placeToCatch 28 = .ok (.iaload, 1) := by decide +kernel
theorem dX6_placeToCatch_29 : decode cX6_placeToCatch 29 = .ok (.ishr, 1) := by decide +kernel
theorem dX6_placeToCatch_30 : decode cX6_placeToCatch 30 = .ok (.iconst 1, 1) := by decide +kernel
theorem dX6_placeToCatch_31 : decode cX6_placeToCatch 31 = .ok (.iand, 1) := by decide +kernel
theorem dX6_placeToCatch_32 : decode cX6_placeToCatch 32 = .ok (.iconst 1, 1) := by decide +kernel
theorem dX6_placeToCatch_33 : decode cX6_placeToCatch 33 = .ok (.if_icmp .ne 12, 3) := by decide +kernel
theorem dX6_placeToCatch_36 : decode cX6_placeToCatch 36 = .ok (.aload_n 0, 1) := by decide +kernel
theorem dX6_placeToCatch_37 : decode cX6_placeToCatch 37 = .ok (.getfield 15, 3) := by decide +kernel
theorem dX6_placeToCatch_40 : decode cX6_placeToCatch 40 = .ok (.iload_n 3, 1) := by decide +kernel
theorem dX6_placeToCatch_41 : decode cX6_placeToCatch 41 = .ok (.iconst 2, 1) := by decide +kernel
theorem dX6_placeToCatch_42 : decode cX6_placeToCatch 42 = .ok (.iadd, 1) := by decide +kernel
theorem dX6_placeToCatch_43 : decode cX6_placeToCatch 43 = .ok (.iaload, 1) := by decide +kernel
theorem dX6_placeToCatch_44 : decode cX6_placeToCatch 44 = .ok (.ireturn, 1) := by decide +kernel
theorem dX6_placeToCatch_45 : decode cX6_placeToCatch 45 = .ok (.iinc 3 4, 3) := by decide +kernel
theorem dX6_placeToCatch_48 : decode cX6_placeToCatch 48 = .ok (.goto (-46), 3) := by decide +kernel
theorem dX6_placeToCatch_51 : decode cX6_placeToCatch 51 = .ok (.iconst (-1), 1) := by decide +kernel
theorem dX6_placeToCatch_52 : decode cX6_placeToCatch 52 = .ok (.ireturn, 1) := by decide +kernel
theorem dX4_unwind_0 : decode cX4_unwind 0 = .ok (.aload_n 0, 1) := by decide +kernel
theorem dX4_unwind_1 : decode cX4_unwind 1 = .ok (.getfield 28, 3) := by decide +kernel
theorem dX4_unwind_4 : decode cX4_unwind 4 = .ok (.iload_n 1, 1) := by decide +kernel
theorem dX4_unwind_5 : decode cX4_unwind 5 = .ok (.invokevirtual 277, 3) := by decide +kernel
theorem dX4_unwind_8 : decode cX4_unwind 8 = .ok (.istore_n 2, 1) := by decide +kernel
theorem dX4_unwind_9 : decode cX4_unwind 9 = .ok (.aload_n 0, 1) := by decide +kernel
theorem dX4_unwind_10 : decode cX4_unwind 10 = .ok (.getfield 81, 3) := by decide +kernel
theorem dX4_unwind_13 : decode cX4_unwind 13 = .ok (.istore_n 3, 1) := by decide +kernel
theorem dX4_unwind_14 : decode cX4_unwind 14 = .ok (.iload_n 3, 1) := by decide +kernel
theorem dX4_unwind_15 : decode cX4_unwind 15 = .ok (.ifCond .lt 68, 3) := by decide +kernel
theorem dX4_unwind_18 : decode cX4_unwind 18 = .ok (.aload_n 0, 1) := by decide +kernel
theorem dX4_unwind_19 : decode cX4_unwind 19 = .ok (.getfield 34, 3) := by decide +kernel
theorem dX4_unwind_22 : decode cX4_unwind 22 = .ok (.iload_n 3, 1) := by decide +kernel
theorem dX4_unwind_23 : decode cX4_unwind 23 = .ok (.aaload, 1) := by decide +kernel
theorem dX4_unwind_24 : decode cX4_unwind 24 = .ok (.invokevirtual 315, 3) := by decide +kernel
theorem dX4_unwind_27 : decode cX4_unwind 27 = .ok (.aload_n 0, 1) := by decide +kernel
theorem dX4_unwind_28 : decode cX4_unwind 28 = .ok (.getfield 34, 3) := by decide +kernel
theorem dX4_unwind_31 : decode cX4_unwind 31 = .ok (.iload_n 3, 1) := by decide +kernel
theorem dX4_unwind_32 : decode cX4_unwind 32 = .ok (.aaload, 1) := by decide +kernel
theorem dX4_unwind_33 : decode cX4_unwind 33 = .ok (.getfield 161, 3) := by decide +kernel
theorem dX4_unwind_36 : decode cX4_unwind 36 = .ok (.iload_n 2, 1) := by decide +kernel
theorem dX4_unwind_37 : decode cX4_unwind 37 = .ok (.invokevirtual 319, 3) := by decide +kernel
theorem dX4_unwind_40 : decode cX4_unwind 40 = .ok (.istore 4, 2) := by decide +kernel
theorem dX4_unwind_42 : decode cX4_unwind 42 = .ok (.iload 4, 2) := by decide +kernel
theorem dX4_unwind_44 : decode cX4_unwind 44 = .ok (.iconst (-1), 1) := by decide +kernel
theorem dX4_unwind_45 : decode cX4_unwind 45 = .ok (.if_icmp .ne 6, 3) := by decide +kernel
theorem dX4_unwind_48 : decode cX4_unwind 48 = .ok (.goto 29, 3) := by decide +kernel
theorem dX4_unwind_51 : decode cX4_unwind 51 = .ok (.aload_n 0, 1) := by decide +kernel
theorem dX4_unwind_52 : decode cX4_unwind 52 = .ok (.iload_n 3, 1) := by decide +kernel
theorem dX4_unwind_53 : decode cX4_unwind 53 = .ok (.putfield 81, 3) := by decide +kernel
theorem dX4_unwind_56 : decode cX4_unwind 56 = .ok (.aload_n 0, 1) := by decide +kernel
theorem dX4_unwind_57 : decode cX4_unwind 57 = .ok (.aload_n 0, 1) := by decide +kernel
theorem dX4_unwind_58 : decode cX4_unwind 58 = .ok (.getfield 34, 3) := by decide +kernel
theorem dX4_unwind_61 : decode cX4_unwind 61 = .ok (.iload_n 3, 1) := by decide +kernel
theorem dX4_unwind_62 : decode cX4_unwind 62 = .ok (.aaload, 1) := by decide +kernel
theorem dX4_unwind_63 : decode cX4_unwind 63 = .ok (.putfield 46, 3) := by decide +kernel
theorem dX4_unwind_66 : decode cX4_unwind 66 = .ok (.aload_n 0, 1) := by decide +kernel
theorem dX4_unwind_67 : decode cX4_unwind 67 = .ok (.getfield 46, 3) := by decide +kernel
theorem dX4_unwind_70 : decode cX4_unwind 70 = .ok (.iload 4, 2) := by decide +kernel
theorem dX4_unwind_72 : decode cX4_unwind 72 = .ok (.iload_n 1, 1) := by decide +kernel
theorem dX4_unwind_73 : decode cX4_unwind 73 = .ok (.invokevirtual 322, 3) := by decide +kernel
theorem dX4_unwind_76 : decode cX4_unwind 76 = .ok (.return_, 1) := by decide +kernel
theorem dX4_unwind_77 : decode cX4_unwind 77 = .ok (.iinc 3 (-1), 3) := by decide +kernel
theorem dX4_unwind_80 : decode cX4_unwind 80 = .ok (.goto (-66), 3) := by decide +kernel
theorem dX4_unwind_83 : decode cX4_unwind 83 = .ok (.aload_n 0, 1) := by decide +kernel
theorem dX4_unwind_84 : decode cX4_unwind 84 = .ok (.iconst 1, 1) := by decide +kernel
theorem dX4_unwind_85 : decode cX4_unwind 85 = .ok (.putfield 66, 3) := by decide +kernel
theorem dX4_unwind_88 : decode cX4_unwind 88 = .ok (.aload_n 0, 1) := by decide +kernel
theorem dX4_unwind_89 : decode cX4_unwind 89 = .ok (.aload_n 0, 1) := by decide +kernel
theorem dX4_unwind_90 : decode cX4_unwind 90 = .ok (.getfield 28, 3) := by decide +kernel
theorem dX4_unwind_93 : decode cX4_unwind 93 = .ok (.iload_n 1, 1) := by decide +kernel
theorem dX4_unwind_94 : decode cX4_unwind 94 = .ok (.invokevirtual 205, 3) := by decide +kernel
theorem dX4_unwind_97 : decode cX4_unwind 97 = .ok (.i2l, 1) := by decide +kernel
theorem dX4_unwind_98 : decode cX4_unwind 98 = .ok (.putfield 53, 3) := by decide +kernel
theorem dX4_unwind_101 : decode cX4_unwind 101 = .ok (.return_, 1) := by decide +kernel
theorem dX4_raise_0 : decode cX4_raise 0 = .ok (.aload_n 0, 1) := by decide +kernel
theorem dX4_raise_1 : decode cX4_raise 1 = .ok (.iload_n 1, 1) := by decide +kernel
theorem dX4_raise_2 : decode cX4_raise 2 = .ok (.iconst 0, 1) := by decide +kernel
theorem dX4_raise_3 : decode cX4_raise 3 = .ok (.aload_n 0, 1) := by decide +kernel
theorem dX4_raise_4 : decode cX4_raise 4 = .ok (.getfield 28, 3) := by decide +kernel
theorem dX4_raise_7 : decode cX4_raise 7 = .ok (.iload_n 1, 1) := by decide +kernel
theorem dX4_raise_8 : decode cX4_raise 8 = .ok (.invokevirtual 280, 3) := by decide +kernel
theorem dX4_raise_11 : decode cX4_raise 11 = .ok (.i2l, 1) := by decide +kernel
theorem dX4_raise_12 : decode cX4_raise 12 = .ok (.invokevirtual 283, 3) := by decide +kernel
theorem dX4_raise_15 : decode cX4_raise 15 = .ok (.istore_n 2, 1) := by decide +kernel
theorem dX4_raise_16 : decode cX4_raise 16 = .ok (.iload_n 2, 1) := by decide +kernel
theorem dX4_raise_17 : decode cX4_raise 17 = .ok (.ifCond .eq 8, 3) := by decide +kernel
theorem dX4_raise_20 : decode cX4_raise 20 = .ok (.aload_n 0, 1) := by decide +kernel
theorem dX4_raise_21 : decode cX4_raise 21 = .ok (.iload_n 2, 1) := by decide +kernel
theorem dX4_raise_22 : decode cX4_raise 22 = .ok (.invokevirtual 312, 3) := by decide +kernel
theorem dX4_raise_25 : decode cX4_raise 25 = .ok (.return_, 1) := by decide +kernel
theorem dX1_opcode_0 : decode cX1_opcode 0 = .ok (.aload_n 0, 1) := by decide +kernel
theorem dX1_opcode_1 : decode cX1_opcode 1 = .ok (.getfield 23, 3) := by decide +kernel
theorem dX1_opcode_4 : decode cX1_opcode 4 = .ok (.aload_n 0, 1) := by decide +kernel
theorem dX1_opcode_5 : decode cX1_opcode 5 = .ok (.getfield 27, 3) := by decide +kernel
theorem dX1_opcode_8 : decode cX1_opcode 8 = .ok (.invokevirtual 36, 3) := by decide +kernel
theorem dX1_opcode_11 : decode cX1_opcode 11 = .ok (.ireturn, 1) := by decide +kernel
theorem dX1_operand_0 : decode cX1_operand 0 = .ok (.aload_n 0, 1) := by decide +kernel
theorem dX1_operand_1 : decode cX1_operand 1 = .ok (.getfield 23, 3) := by decide +kernel
theorem dX1_operand_4 : decode cX1_operand 4 = .ok (.aload_n 0, 1) := by decide +kernel
theorem dX1_operand_5 : decode cX1_operand 5 = .ok (.getfield 27, 3) := by decide +kernel
theorem dX1_operand_8 : decode cX1_operand 8 = .ok (.iload_n 1, 1) := by decide +kernel
theorem dX1_operand_9 : decode cX1_operand 9 = .ok (.iadd, 1) := by decide +kernel
theorem dX1_operand_10 : decode cX1_operand 10 = .ok (.invokevirtual 36, 3) := by decide +kernel
theorem dX1_operand_13 : decode cX1_operand 13 = .ok (.ireturn, 1) := by decide +kernel
theorem dX1_drop_0 : decode cX1_drop 0 = .ok (.aload_n 0, 1) := by decide +kernel
theorem dX1_drop_1 : decode cX1_drop 1 = .ok (.dup, 1) := by decide +kernel
theorem dX1_drop_2 : decode cX1_drop 2 = .ok (.getfield 19, 3) := by decide +kernel
theorem dX1_drop_5 : decode cX1_drop 5 = .ok (.iload_n 1, 1) := by decide +kernel
theorem dX1_drop_6 : decode cX1_drop 6 = .ok (.isub, 1) := by decide +kernel
theorem dX1_drop_7 : decode cX1_drop 7 = .ok (.putfield 19, 3) := by decide +kernel
theorem dX1_drop_10 : decode cX1_drop 10 = .ok (.return_, 1) := by decide +kernel
theorem dX1_number_0 : decode cX1_number 0 = .ok (.aload_n 0, 1) := by decide +kernel
theorem dX1_number_1 : decode cX1_number 1 = .ok (.getfield 11, 3) := by decide +kernel
theorem dX1_number_4 : decode cX1_number 4 = .ok (.aload_n 0, 1) := by decide +kernel
theorem dX1_number_5 : decode cX1_number 5 = .ok (.getfield 19, 3) := by decide +kernel
theorem dX1_number_8 : decode cX1_number 8 = .ok (.iconst 1, 1) := by decide +kernel
theorem dX1_number_9 : decode cX1_number 9 = .ok (.isub, 1) := by decide +kernel
theorem dX1_number_10 : decode cX1_number 10 = .ok (.iload_n 1, 1) := by decide +kernel
theorem dX1_number_11 : decode cX1_number 11 = .ok (.isub, 1) := by decide +kernel
theorem dX1_number_12 : decode cX1_number 12 = .ok (.laload, 1) := by decide +kernel
theorem dX1_number_13 : decode cX1_number 13 = .ok (.lreturn, 1) := by decide +kernel
theorem dX1_pair_0 : decode cX1_pair 0 = .ok (.aload_n 0, 1) := by decide +kernel
theorem dX1_pair_1 : decode cX1_pair 1 = .ok (.getfield 23, 3) := by decide +kernel
theorem dX1_pair_4 : decode cX1_pair 4 = .ok (.aload_n 0, 1) := by decide +kernel
theorem dX1_pair_5 : decode cX1_pair 5 = .ok (.getfield 27, 3) := by decide +kernel
theorem dX1_pair_8 : decode cX1_pair 8 = .ok (.iconst 1, 1) := by decide +kernel
theorem dX1_pair_9 : decode cX1_pair 9 = .ok (.iadd, 1) := by decide +kernel
theorem dX1_pair_10 : decode cX1_pair 10 = .ok (.invokevirtual 42, 3) := by decide +kernel
theorem dX1_pair_13 : decode cX1_pair 13 = .ok (.ireturn, 1) := by decide +kernel
theorem dX1_reference_0 : decode cX1_reference 0 = .ok (.aload_n 0, 1) := by decide +kernel
theorem dX1_reference_1 : decode cX1_reference 1 = .ok (.getfield 15, 3) := by decide +kernel
theorem dX1_reference_4 : decode cX1_reference 4 = .ok (.aload_n 0, 1) := by decide +kernel
theorem dX1_reference_5 : decode cX1_reference 5 = .ok (.getfield 19, 3) := by decide +kernel
theorem dX1_reference_8 : decode cX1_reference 8 = .ok (.iconst 1, 1) := by decide +kernel
theorem dX1_reference_9 : decode cX1_reference 9 = .ok (.isub, 1) := by decide +kernel
theorem dX1_reference_10 : decode cX1_reference 10 = .ok (.iload_n 1, 1) := by decide +kernel
theorem dX1_reference_11 : decode cX1_reference 11 = .ok (.isub, 1) := by decide +kernel
theorem dX1_reference_12 : decode cX1_reference 12 = .ok (.iaload, 1) := by decide +kernel
theorem dX1_reference_13 : decode cX1_reference 13 = .ok (.ireturn, 1) := by decide +kernel
theorem dX4_goOn_0 : decode cX4_goOn 0 = .ok (.aload_n 0, 1) := by decide +kernel
theorem dX4_goOn_1 : decode cX4_goOn 1 = .ok (.getfield 46, 3) := by decide +kernel
theorem dX4_goOn_4 : decode cX4_goOn 4 = .ok (.dup, 1) := by decide +kernel
theorem dX4_goOn_5 : decode cX4_goOn 5 = .ok (.getfield 161, 3) := by decide +kernel
theorem dX4_goOn_8 : decode cX4_goOn 8 = .ok (.iload_n 1, 1) := by decide +kernel
theorem dX4_goOn_9 : decode cX4_goOn 9 = .ok (.iadd, 1) := by decide +kernel
theorem dX4_goOn_10 : decode cX4_goOn 10 = .ok (.putfield 161, 3) := by decide +kernel
theorem dX4_goOn_13 : decode cX4_goOn 13 = .ok (.iconst 0, 1) := by decide +kernel
theorem dX4_goOn_14 : decode cX4_goOn 14 = .ok (.ireturn, 1) := by decide +kernel
theorem dX4_holds_0 : decode cX4_holds 0 = .ok (.iload_n 0, 1) := by decide +kernel
theorem dX4_holds_1 : decode cX4_holds 1 = .ok (.tableswitch 95 153 157 #[35, 47, 59, 71, 83], 35) := by decide +kernel
theorem dX4_holds_36 : decode cX4_holds 36 = .ok (.lload_n 1, 1) := by decide +kernel
theorem dX4_holds_37 : decode cX4_holds 37 = .ok (.lload_n 3, 1) := by decide +kernel
theorem dX4_holds_38 : decode cX4_holds 38 = .ok (.lcmp, 1) := by decide +kernel
theorem dX4_holds_39 : decode cX4_holds 39 = .ok (.ifCond .ne 7, 3) := by decide +kernel
theorem dX4_holds_42 : decode cX4_holds 42 = .ok (.iconst 1, 1) := by decide +kernel
theorem dX4_holds_43 : decode cX4_holds 43 = .ok (.goto 4, 3) := by decide +kernel
theorem dX4_holds_46 : decode cX4_holds 46 = .ok (.iconst 0, 1) := by decide +kernel
theorem dX4_holds_47 : decode cX4_holds 47 = .ok (.ireturn, 1) := by decide +kernel
theorem dX4_holds_48 : decode cX4_holds 48 = .ok (.lload_n 1, 1) := by decide +kernel
theorem dX4_holds_49 : decode cX4_holds 49 = .ok (.lload_n 3, 1) := by decide +kernel
theorem dX4_holds_50 : decode cX4_holds 50 = .ok (.lcmp, 1) := by decide +kernel
theorem dX4_holds_51 : decode cX4_holds 51 = .ok (.ifCond .eq 7, 3) := by decide +kernel
theorem dX4_holds_54 : decode cX4_holds 54 = .ok (.iconst 1, 1) := by decide +kernel
theorem dX4_holds_55 : decode cX4_holds 55 = .ok (.goto 4, 3) := by decide +kernel
theorem dX4_holds_58 : decode cX4_holds 58 = .ok (.iconst 0, 1) := by decide +kernel
theorem dX4_holds_59 : decode cX4_holds 59 = .ok (.ireturn, 1) := by decide +kernel
theorem dX4_holds_60 : decode cX4_holds 60 = .ok (.lload_n 1, 1) := by decide +kernel
theorem dX4_holds_61 : decode cX4_holds 61 = .ok (.lload_n 3, 1) := by decide +kernel
theorem dX4_holds_62 : decode cX4_holds 62 = .ok (.lcmp, 1) := by decide +kernel
theorem dX4_holds_63 : decode cX4_holds 63 = .ok (.ifCond .ge 7, 3) := by decide +kernel
theorem dX4_holds_66 : decode cX4_holds 66 = .ok (.iconst 1, 1) := by decide +kernel
theorem dX4_holds_67 : decode cX4_holds 67 = .ok (.goto 4, 3) := by decide +kernel
theorem dX4_holds_70 : decode cX4_holds 70 = .ok (.iconst 0, 1) := by decide +kernel
theorem dX4_holds_71 : decode cX4_holds 71 = .ok (.ireturn, 1) := by decide +kernel
theorem dX4_holds_72 : decode cX4_holds 72 = .ok (.lload_n 1, 1) := by decide +kernel
theorem dX4_holds_73 : decode cX4_holds 73 = .ok (.lload_n 3, 1) := by decide +kernel
theorem dX4_holds_74 : decode cX4_holds 74 = .ok (.lcmp, 1) := by decide +kernel
theorem dX4_holds_75 : decode cX4_holds 75 = .ok (.ifCond .lt 7, 3) := by decide +kernel
theorem dX4_holds_78 : decode cX4_holds 78 = .ok (.iconst 1, 1) := by decide +kernel
theorem dX4_holds_79 : decode cX4_holds 79 = .ok (.goto 4, 3) := by decide +kernel
theorem dX4_holds_82 : decode cX4_holds 82 = .ok (.iconst 0, 1) := by decide +kernel
theorem dX4_holds_83 : decode cX4_holds 83 = .ok (.ireturn, 1) := by decide +kernel
theorem dX4_holds_84 : decode cX4_holds 84 = .ok (.lload_n 1, 1) := by decide +kernel
theorem dX4_holds_85 : decode cX4_holds 85 = .ok (.lload_n 3, 1) := by decide +kernel
theorem dX4_holds_86 : decode cX4_holds 86 = .ok (.lcmp, 1) := by decide +kernel
theorem dX4_holds_87 : decode cX4_holds 87 = .ok (.ifCond .le 7, 3) := by decide +kernel
theorem dX4_holds_90 : decode cX4_holds 90 = .ok (.iconst 1, 1) := by decide +kernel
theorem dX4_holds_91 : decode cX4_holds 91 = .ok (.goto 4, 3) := by decide +kernel
theorem dX4_holds_94 : decode cX4_holds 94 = .ok (.iconst 0, 1) := by decide +kernel
theorem dX4_holds_95 : decode cX4_holds 95 = .ok (.ireturn, 1) := by decide +kernel
theorem dX4_holds_96 : decode cX4_holds 96 = .ok (.lload_n 1, 1) := by decide +kernel
theorem dX4_holds_97 : decode cX4_holds 97 = .ok (.lload_n 3, 1) := by decide +kernel
theorem dX4_holds_98 : decode cX4_holds 98 = .ok (.lcmp, 1) := by decide +kernel
theorem dX4_holds_99 : decode cX4_holds 99 = .ok (.ifCond .gt 7, 3) := by decide +kernel
theorem dX4_holds_102 : decode cX4_holds 102 = .ok (.iconst 1, 1) := by decide +kernel
theorem dX4_holds_103 : decode cX4_holds 103 = .ok (.goto 4, 3) := by decide +kernel
theorem dX4_holds_106 : decode cX4_holds 106 = .ok (.iconst 0, 1) := by decide +kernel
theorem dX4_holds_107 : decode cX4_holds 107 = .ok (.ireturn, 1) := by decide +kernel
theorem dX4_branch_0 : decode cX4_branch 0 = .ok (.iload_n 1, 1) := by decide +kernel
theorem dX4_branch_1 : decode cX4_branch 1 = .ok (.sipush 167, 3) := by decide +kernel
theorem dX4_branch_4 : decode cX4_branch 4 = .ok (.if_icmp .ne 10, 3) := by decide +kernel
theorem dX4_branch_7 : decode cX4_branch 7 = .ok (.iconst 1, 1) := by decide +kernel
theorem dX4_branch_8 : decode cX4_branch 8 = .ok (.istore_n 2, 1) := by decide +kernel
theorem dX4_branch_9 : decode cX4_branch 9 = .ok (.iconst 0, 1) := by decide +kernel
theorem dX4_branch_10 : decode cX4_branch 10 = .ok (.istore_n 3, 1) := by decide +kernel
theorem dX4_branch_11 : decode cX4_branch 11 = .ok (.goto 166, 3) := by decide +kernel
theorem dX4_branch_14 : decode cX4_branch 14 = .ok (.iload_n 1, 1) := by decide +kernel
theorem dX4_branch_15 : decode cX4_branch 15 = .ok (.sipush 158, 3) := by decide +kernel
theorem dX4_branch_18 : decode cX4_branch 18 = .ok (.if_icmp .gt 22, 3) := by decide +kernel
theorem dX4_branch_21 : decode cX4_branch 21 = .ok (.iload_n 1, 1) := by decide +kernel
theorem dX4_branch_22 : decode cX4_branch 22 = .ok (.aload_n 0, 1) := by decide +kernel
theorem dX4_branch_23 : decode cX4_branch 23 = .ok (.getfield 46, 3) := by decide +kernel
theorem dX4_branch_26 : decode cX4_branch 26 = .ok (.iconst 0, 1) := by decide +kernel
theorem dX4_branch_27 : decode cX4_branch 27 = .ok (.invokevirtual 186, 3) := by decide +kernel
theorem dX4_branch_30 : decode cX4_branch 30 = .ok (.lconst 0, 1) := by decide +kernel
theorem dX4_branch_31 : decode cX4_branch 31 = .ok (.invokestatic 245, 3) := by decide +kernel
theorem dX4_branch_34 : decode cX4_branch 34 = .ok (.istore_n 2, 1) := by decide +kernel
theorem dX4_branch_35 : decode cX4_branch 35 = .ok (.iconst 1, 1) := by decide +kernel
theorem dX4_branch_36 : decode cX4_branch 36 = .ok (.istore_n 3, 1) := by decide +kernel
theorem dX4_branch_37 : decode cX4_branch 37 = .ok (.goto 140, 3) := by decide +kernel
theorem dX4_branch_40 : decode cX4_branch 40 = .ok (.iload_n 1, 1) := by decide +kernel
theorem dX4_branch_41 : decode cX4_branch 41 = .ok (.sipush 164, 3) := by decide +kernel
theorem dX4_branch_44 : decode cX4_branch 44 = .ok (.if_icmp .gt 37, 3) := by decide +kernel
theorem dX4_branch_47 : decode cX4_branch 47 = .ok (.iload_n 1, 1) := by decide +kernel
theorem dX4_branch_48 : decode cX4_branch 48 = .ok (.sipush 159, 3) := by decide +kernel
theorem dX4_branch_51 : decode cX4_branch 51 = .ok (.isub, 1) := by decide +kernel
theorem dX4_branch_52 : decode cX4_branch 52 = .ok (.sipush 153, 3) := by decide +kernel
theorem dX4_branch_55 : decode cX4_branch 55 = .ok (.iadd, 1) := by decide +kernel
theorem dX4_branch_56 : decode cX4_branch 56 = .ok (.aload_n 0, 1) := by decide +kernel
theorem dX4_branch_57 : decode cX4_branch 57 = .ok (.getfield 46, 3) := by decide +kernel
theorem dX4_branch_60 : decode cX4_branch 60 = .ok (.iconst 1, 1) := by decide +kernel
theorem dX4_branch_61 : decode cX4_branch 61 = .ok (.invokevirtual 186, 3) := by decide +kernel
theorem dX4_branch_64 : decode cX4_branch 64 = .ok (.aload_n 0, 1) := by decide +kernel
theorem dX4_branch_65 : decode cX4_branch 65 = .ok (.getfield 46, 3) := by decide +kernel
theorem dX4_branch_68 : decode cX4_branch 68 = .ok (.iconst 0, 1) := by decide +kernel
theorem dX4_branch_69 : decode cX4_branch 69 = .ok (.invokevirtual 186, 3) := by decide +kernel
theorem dX4_branch_72 : decode cX4_branch 72 = .ok (.invokestatic 245, 3) := by decide +kernel
theorem dX4_branch_75 : decode cX4_branch 75 = .ok (.istore_n 2, 1) := by decide +kernel
theorem dX4_branch_76 : decode cX4_branch 76 = .ok (.iconst 2, 1) := by decide +kernel
theorem dX4_branch_77 : decode cX4_branch 77 = .ok (.istore_n 3, 1) := by decide +kernel
theorem dX4_branch_78 : decode cX4_branch 78 = .ok (.goto 99, 3) := by decide +kernel
theorem dX4_branch_81 : decode cX4_branch 81 = .ok (.iload_n 1, 1) := by decide +kernel
theorem dX4_branch_82 : decode cX4_branch 82 = .ok (.sipush 166, 3) := by decide +kernel
theorem dX4_branch_85 : decode cX4_branch 85 = .ok (.if_icmp .gt 53, 3) := by decide +kernel
theorem dX4_branch_88 : decode cX4_branch 88 = .ok (.aload_n 0, 1) := by decide +kernel
theorem dX4_branch_89 : decode cX4_branch 89 = .ok (.getfield 46, 3) := by decide +kernel
theorem dX4_branch_92 : decode cX4_branch 92 = .ok (.iconst 0, 1) := by decide +kernel
theorem dX4_branch_93 : decode cX4_branch 93 = .ok (.invokevirtual 183, 3) := by decide +kernel
theorem dX4_branch_96 : decode cX4_branch 96 = .ok (.aload_n 0, 1) := by decide +kernel
theorem dX4_branch_97 : decode cX4_branch 97 = .ok (.getfield 46, 3) := by decide +kernel
theorem dX4_branch_100 : decode cX4_branch 100 = .ok (.iconst 1, 1) := by decide +kernel
theorem dX4_branch_101 : decode cX4_branch 101 = .ok (.invokevirtual 183, 3) := by decide +kernel
theorem dX4_branch_104 : decode cX4_branch 104 = .ok (.if_icmp .ne 7, 3) := by decide +kernel
theorem dX4_branch_107 : decode cX4_branch 107 = .ok (.iconst 1, 1) := by decide +kernel
theorem dX4_branch_108 : decode cX4_branch 108 = .ok (.goto 4, 3) := by decide +kernel
theorem dX4_branch_111 : decode cX4_branch 111 = .ok (.iconst 0, 1) := by decide +kernel
theorem dX4_branch_112 : decode cX4_branch 112 = .ok (.iload_n 1, 1) := by decide +kernel
theorem dX4_branch_113 : decode cX4_branch 113 = .ok (.sipush 165, 3) := by decide +kernel
theorem dX4_branch_116 : decode cX4_branch 116 = .ok (.if_icmp .ne 7, 3) := by decide +kernel
theorem dX4_branch_119 : decode cX4_branch 119 = .ok (.iconst 1, 1) := by decide +kernel
theorem dX4_branch_120 : decode cX4_branch 120 = .ok (.goto 4, 3) := by decide +kernel
theorem dX4_branch_123 : decode cX4_branch 123 = .ok (.iconst 0, 1) := by decide +kernel
theorem dX4_branch_124 : decode cX4_branch 124 = .ok (.if_icmp .ne 7, 3) := by decide +kernel
theorem dX4_branch_127 : decode cX4_branch 127 = .ok (.iconst 1, 1) := by decide +kernel
theorem dX4_branch_128 : decode cX4_branch 128 = .ok (.goto 4, 3) := by decide +kernel
theorem dX4_branch_131 : decode cX4_branch 131 = .ok (.iconst 0, 1) := by decide +kernel
theorem dX4_branch_132 : decode cX4_branch 132 = .ok (.istore_n 2, 1) := by decide +kernel
theorem dX4_branch_133 : decode cX4_branch 133 = .ok (.iconst 2, 1) := by decide +kernel
theorem dX4_branch_134 : decode cX4_branch 134 = .ok (.istore_n 3, 1) := by decide +kernel
theorem dX4_branch_135 : decode cX4_branch 135 = .ok (.goto 42, 3) := by decide +kernel
theorem dX4_branch_138 : decode cX4_branch 138 = .ok (.aload_n 0, 1) := by decide +kernel
theorem dX4_branch_139 : decode cX4_branch 139 = .ok (.getfield 46, 3) := by decide +kernel
theorem dX4_branch_142 : decode cX4_branch 142 = .ok (.iconst 0, 1) := by decide +kernel
theorem dX4_branch_143 : decode cX4_branch 143 = .ok (.invokevirtual 183, 3) := by decide +kernel
theorem dX4_branch_146 : decode cX4_branch 146 = .ok (.ifCond .ne 7, 3) := by decide +kernel
theorem dX4_branch_149 : decode cX4_branch 149 = .ok (.iconst 1, 1) := by decide +kernel
theorem dX4_branch_150 : decode cX4_branch 150 = .ok (.goto 4, 3) := by decide +kernel
theorem dX4_branch_153 : decode cX4_branch 153 = .ok (.iconst 0, 1) := by decide +kernel
theorem dX4_branch_154 : decode cX4_branch 154 = .ok (.iload_n 1, 1) := by decide +kernel
theorem dX4_branch_155 : decode cX4_branch 155 = .ok (.sipush 198, 3) := by decide +kernel
theorem dX4_branch_158 : decode cX4_branch 158 = .ok (.if_icmp .ne 7, 3) := by decide +kernel
theorem dX4_branch_161 : decode cX4_branch 161 = .ok (.iconst 1, 1) := by decide +kernel
theorem dX4_branch_162 : decode cX4_branch 162 = .ok (.goto 4, 3) := by decide +kernel
theorem dX4_branch_165 : decode cX4_branch 165 = .ok (.iconst 0, 1) := by decide +kernel
theorem dX4_branch_166 : decode cX4_branch 166 = .ok (.if_icmp .ne 7, 3) := by decide +kernel
theorem dX4_branch_169 : decode cX4_branch 169 = .ok (.iconst 1, 1) := by decide +kernel
theorem dX4_branch_170 : decode cX4_branch 170 = .ok (.goto 4, 3) := by decide +kernel
theorem dX4_branch_173 : decode cX4_branch 173 = .ok (.iconst 0, 1) := by decide +kernel
theorem dX4_branch_174 : decode cX4_branch 174 = .ok (.istore_n 2, 1) := by decide +kernel
theorem dX4_branch_175 : decode cX4_branch 175 = .ok (.iconst 1, 1) := by decide +kernel
theorem dX4_branch_176 : decode cX4_branch 176 = .ok (.istore_n 3, 1) := by decide +kernel
theorem dX4_branch_177 : decode cX4_branch 177 = .ok (.aload_n 0, 1) := by decide +kernel
theorem dX4_branch_178 : decode cX4_branch 178 = .ok (.getfield 46, 3) := by decide +kernel
theorem dX4_branch_181 : decode cX4_branch 181 = .ok (.iload_n 3, 1) := by decide +kernel
theorem dX4_branch_182 : decode cX4_branch 182 = .ok (.invokevirtual 198, 3) := by decide +kernel
theorem dX4_branch_185 : decode cX4_branch 185 = .ok (.aload_n 0, 1) := by decide +kernel
theorem dX4_branch_186 : decode cX4_branch 186 = .ok (.iload_n 2, 1) := by decide +kernel
theorem dX4_branch_187 : decode cX4_branch 187 = .ok (.ifCond .eq 13, 3) := by decide +kernel
theorem dX4_branch_190 : decode cX4_branch 190 = .ok (.aload_n 0, 1) := by decide +kernel
theorem dX4_branch_191 : decode cX4_branch 191 = .ok (.getfield 46, 3) := by decide +kernel
theorem dX4_branch_194 : decode cX4_branch 194 = .ok (.invokevirtual 174, 3) := by decide +kernel
theorem dX4_branch_197 : decode cX4_branch 197 = .ok (.goto 4, 3) := by decide +kernel
theorem dX4_branch_200 : decode cX4_branch 200 = .ok (.iconst 3, 1) := by decide +kernel
theorem dX4_branch_201 : decode cX4_branch 201 = .ok (.invokevirtual 164, 3) := by decide +kernel
theorem dX4_branch_204 : decode cX4_branch 204 = .ok (.ireturn, 1) := by decide +kernel
theorem dX1_copySlot_0 : decode cX1_copySlot 0 = .ok (.aload_n 0, 1) := by decide +kernel
theorem dX1_copySlot_1 : decode cX1_copySlot 1 = .ok (.getfield 11, 3) := by decide +kernel
theorem dX1_copySlot_4 : decode cX1_copySlot 4 = .ok (.iload_n 3, 1) := by decide +kernel
theorem dX1_copySlot_5 : decode cX1_copySlot 5 = .ok (.aload_n 1, 1) := by decide +kernel
theorem dX1_copySlot_6 : decode cX1_copySlot 6 = .ok (.getfield 11, 3) := by decide +kernel
theorem dX1_copySlot_9 : decode cX1_copySlot 9 = .ok (.iload_n 2, 1) := by decide +kernel
theorem dX1_copySlot_10 : decode cX1_copySlot 10 = .ok (.laload, 1) := by decide +kernel
theorem dX1_copySlot_11 : decode cX1_copySlot 11 = .ok (.lastore, 1) := by decide +kernel
theorem dX1_copySlot_12 : decode cX1_copySlot 12 = .ok (.aload_n 0, 1) := by decide +kernel
theorem dX1_copySlot_13 : decode cX1_copySlot 13 = .ok (.getfield 15, 3) := by decide +kernel
theorem dX1_copySlot_16 : decode cX1_copySlot 16 = .ok (.iload_n 3, 1) := by decide +kernel
theorem dX1_copySlot_17 : decode cX1_copySlot 17 = .ok (.aload_n 1, 1) := by decide +kernel
theorem dX1_copySlot_18 : decode cX1_copySlot 18 = .ok (.getfield 15, 3) := by decide +kernel
theorem dX1_copySlot_21 : decode cX1_copySlot 21 = .ok (.iload_n 2, 1) := by decide +kernel
theorem dX1_copySlot_22 : decode cX1_copySlot 22 = .ok (.iaload, 1) := by decide +kernel
theorem dX1_copySlot_23 : decode cX1_copySlot 23 = .ok (.iastore, 1) := by decide +kernel
theorem dX1_copySlot_24 : decode cX1_copySlot 24 = .ok (.return_, 1) := by decide +kernel
theorem dX1_takeArguments_0 : decode cX1_takeArguments 0 = .ok (.aload_n 0, 1) := by decide +kernel
theorem dX1_takeArguments_1 : decode cX1_takeArguments 1 = .ok (.getfield 23, 3) := by decide +kernel
theorem dX1_takeArguments_4 : decode cX1_takeArguments 4 = .ok (.getfield 53, 3) := by decide +kernel
theorem dX1_takeArguments_7 : decode cX1_takeArguments 7 = .ok (.istore_n 2, 1) := by decide +kernel
theorem dX1_takeArguments_8 : decode cX1_takeArguments 8 = .ok (.aload_n 1, 1) := by decide +kernel
theorem dX1_takeArguments_9 : decode cX1_takeArguments 9 = .ok (.iload_n 2, 1) := by decide +kernel
theorem dX1_takeArguments_10 : decode cX1_takeArguments 10 = .ok (.invokevirtual 56, 3) := by decide +kernel
theorem dX1_takeArguments_13 : decode cX1_takeArguments 13 = .ok (.iconst 0, 1) := by decide +kernel
theorem dX1_takeArguments_14 : decode cX1_takeArguments 14 = .ok (.istore_n 3, 1) := by decide +kernel
theorem dX1_takeArguments_15 : decode cX1_takeArguments 15 = .ok (.iload_n 3, 1) := by decide +kernel
theorem dX1_takeArguments_16 : decode cX1_takeArguments 16 = .ok (.iload_n 2, 1) := by decide +kernel
theorem dX1_takeArguments_17 : decode cX1_takeArguments 17 = .ok (.if_icmp .ge 21, 3) := by decide +kernel
theorem dX1_takeArguments_20 : decode cX1_takeArguments 20 = .ok (.aload_n 0, 1) := by decide +kernel
theorem dX1_takeArguments_21 : decode cX1_takeArguments 21 = .ok (.aload_n 1, 1) := by decide +kernel
theorem dX1_takeArguments_22 : decode cX1_takeArguments 22 = .ok (.aload_n 1, 1) := by decide +kernel
theorem dX1_takeArguments_23 : decode cX1_takeArguments 23 = .ok (.getfield 19, 3) := by decide +kernel
theorem dX1_takeArguments_26 : decode cX1_takeArguments 26 = .ok (.iload_n 3, 1) := by decide +kernel
theorem dX1_takeArguments_27 : decode cX1_takeArguments 27 = .ok (.iadd, 1) := by decide +kernel
theorem dX1_takeArguments_28 : decode cX1_takeArguments 28 = .ok (.iload_n 3, 1) := by decide +kernel
theorem dX1_takeArguments_29 : decode cX1_takeArguments 29 = .ok (.invokevirtual 49, 3) := by decide +kernel
theorem dX1_takeArguments_32 : decode cX1_takeArguments 32 = .ok (.iinc 3 1, 3) := by decide +kernel
theorem dX1_takeArguments_35 : decode cX1_takeArguments 35 = .ok (.goto (-20), 3) := by decide +kernel
theorem dX1_takeArguments_38 : decode cX1_takeArguments 38 = .ok (.return_, 1) := by decide +kernel
theorem dX4_call_0 : decode cX4_call 0 = .ok (.aload_n 0, 1) := by decide +kernel
theorem dX4_call_1 : decode cX4_call 1 = .ok (.getfield 46, 3) := by decide +kernel
theorem dX4_call_4 : decode cX4_call 4 = .ok (.iconst 1, 1) := by decide +kernel
theorem dX4_call_5 : decode cX4_call 5 = .ok (.invokevirtual 142, 3) := by decide +kernel
theorem dX4_call_8 : decode cX4_call 8 = .ok (.istore_n 1, 1) := by decide +kernel
theorem dX4_call_9 : decode cX4_call 9 = .ok (.aload_n 0, 1) := by decide +kernel
theorem dX4_call_10 : decode cX4_call 10 = .ok (.getfield 81, 3) := by decide +kernel
theorem dX4_call_13 : decode cX4_call 13 = .ok (.iconst 1, 1) := by decide +kernel
theorem dX4_call_14 : decode cX4_call 14 = .ok (.iadd, 1) := by decide +kernel
theorem dX4_call_15 : decode cX4_call 15 = .ok (.bipush 16, 2) := by decide +kernel
theorem dX4_call_17 : decode cX4_call 17 = .ok (.if_icmp .ne 6, 3) := by decide +kernel
theorem dX4_call_20 : decode cX4_call 20 = .ok (.bipush 6, 2) := by decide +kernel
theorem dX4_call_22 : decode cX4_call 22 = .ok (.ireturn, 1) := by decide +kernel
theorem dX4_call_23 : decode cX4_call 23 = .ok (.aload_n 0, 1) := by decide +kernel
theorem dX4_call_24 : decode cX4_call 24 = .ok (.getfield 46, 3) := by decide +kernel
theorem dX4_call_27 : decode cX4_call 27 = .ok (.astore_n 2, 1) := by decide +kernel
theorem dX4_call_28 : decode cX4_call 28 = .ok (.aload_n 0, 1) := by decide +kernel
theorem dX4_call_29 : decode cX4_call 29 = .ok (.dup, 1) := by decide +kernel
theorem dX4_call_30 : decode cX4_call 30 = .ok (.getfield 81, 3) := by decide +kernel
theorem dX4_call_33 : decode cX4_call 33 = .ok (.iconst 1, 1) := by decide +kernel
theorem dX4_call_34 : decode cX4_call 34 = .ok (.iadd, 1) := by decide +kernel
theorem dX4_call_35 : decode cX4_call 35 = .ok (.putfield 81, 3) := by decide +kernel
theorem dX4_call_38 : decode cX4_call 38 = .ok (.aload_n 0, 1) := by decide +kernel
theorem dX4_call_39 : decode cX4_call 39 = .ok (.aload_n 0, 1) := by decide +kernel
theorem dX4_call_40 : decode cX4_call 40 = .ok (.getfield 34, 3) := by decide +kernel
theorem dX4_call_43 : decode cX4_call 43 = .ok (.aload_n 0, 1) := by decide +kernel
theorem dX4_call_44 : decode cX4_call 44 = .ok (.getfield 81, 3) := by decide +kernel
theorem dX4_call_47 : decode cX4_call 47 = .ok (.aaload, 1) := by decide +kernel
theorem dX4_call_48 : decode cX4_call 48 = .ok (.putfield 46, 3) := by decide +kernel
theorem dX4_call_51 : decode cX4_call 51 = .ok (.aload_n 0, 1) := by decide +kernel
theorem dX4_call_52 : decode cX4_call 52 = .ok (.getfield 46, 3) := by decide +kernel
theorem dX4_call_55 : decode cX4_call 55 = .ok (.aload_n 0, 1) := by decide +kernel
theorem dX4_call_56 : decode cX4_call 56 = .ok (.getfield 15, 3) := by decide +kernel
theorem dX4_call_59 : decode cX4_call 59 = .ok (.iload_n 1, 1) := by decide +kernel
theorem dX4_call_60 : decode cX4_call 60 = .ok (.invokevirtual 249, 3) := by decide +kernel
theorem dX4_call_63 : decode cX4_call 63 = .ok (.checkcast 38, 3) := by decide +kernel
theorem dX4_call_66 : decode cX4_call 66 = .ok (.invokevirtual 84, 3) := by decide +kernel
theorem dX4_call_69 : decode cX4_call 69 = .ok (.aload_n 0, 1) := by decide +kernel
theorem dX4_call_70 : decode cX4_call 70 = .ok (.getfield 46, 3) := by decide +kernel
theorem dX4_call_73 : decode cX4_call 73 = .ok (.aload_n 2, 1) := by decide +kernel
theorem dX4_call_74 : decode cX4_call 74 = .ok (.invokevirtual 255, 3) := by decide +kernel
theorem dX4_call_77 : decode cX4_call 77 = .ok (.iconst 0, 1) := by decide +kernel
theorem dX4_call_78 : decode cX4_call 78 = .ok (.ireturn, 1) := by decide +kernel
theorem dX4_isOf_0 : decode cX4_isOf 0 = .ok (.aload_n 0, 1) := by decide +kernel
theorem dX4_isOf_1 : decode cX4_isOf 1 = .ok (.getfield 28, 3) := by decide +kernel
theorem dX4_isOf_4 : decode cX4_isOf 4 = .ok (.iload_n 1, 1) := by decide +kernel
theorem dX4_isOf_5 : decode cX4_isOf 5 = .ok (.invokevirtual 277, 3) := by decide +kernel
theorem dX4_isOf_8 : decode cX4_isOf 8 = .ok (.iload_n 2, 1) := by decide +kernel
theorem dX4_isOf_9 : decode cX4_isOf 9 = .ok (.ishr, 1) := by decide +kernel
theorem dX4_isOf_10 : decode cX4_isOf 10 = .ok (.iconst 1, 1) := by decide +kernel
theorem dX4_isOf_11 : decode cX4_isOf 11 = .ok (.iand, 1) := by decide +kernel
theorem dX4_isOf_12 : decode cX4_isOf 12 = .ok (.iconst 1, 1) := by decide +kernel
theorem dX4_isOf_13 : decode cX4_isOf 13 = .ok (.if_icmp .ne 7, 3) := by decide +kernel
theorem dX4_isOf_16 : decode cX4_isOf 16 = .ok (.iconst 1, 1) := by decide +kernel
theorem dX4_isOf_17 : decode cX4_isOf 17 = .ok (.goto 4, 3) := by decide +kernel
theorem dX4_isOf_20 : decode cX4_isOf 20 = .ok (.iconst 0, 1) := by decide +kernel
theorem dX4_isOf_21 : decode cX4_isOf 21 = .ok (.ireturn, 1) := by decide +kernel
theorem dX4_cast_0 : decode cX4_cast 0 = .ok (.aload_n 0, 1) := by decide +kernel
theorem dX4_cast_1 : decode cX4_cast 1 = .ok (.getfield 46, 3) := by decide +kernel
theorem dX4_cast_4 : decode cX4_cast 4 = .ok (.iconst 0, 1) := by decide +kernel
theorem dX4_cast_5 : decode cX4_cast 5 = .ok (.invokevirtual 183, 3) := by decide +kernel
theorem dX4_cast_8 : decode cX4_cast 8 = .ok (.istore_n 1, 1) := by decide +kernel
theorem dX4_cast_9 : decode cX4_cast 9 = .ok (.iload_n 1, 1) := by decide +kernel
theorem dX4_cast_10 : decode cX4_cast 10 = .ok (.ifCond .eq 19, 3) := by decide +kernel
theorem dX4_cast_13 : decode cX4_cast 13 = .ok (.aload_n 0, 1) := by decide +kernel
theorem dX4_cast_14 : decode cX4_cast 14 = .ok (.iload_n 1, 1) := by decide +kernel
theorem dX4_cast_15 : decode cX4_cast 15 = .ok (.aload_n 0, 1) := by decide +kernel
theorem dX4_cast_16 : decode cX4_cast 16 = .ok (.getfield 46, 3) := by decide +kernel
theorem dX4_cast_19 : decode cX4_cast 19 = .ok (.iconst 1, 1) := by decide +kernel
theorem dX4_cast_20 : decode cX4_cast 20 = .ok (.invokevirtual 142, 3) := by decide +kernel
theorem dX4_cast_23 : decode cX4_cast 23 = .ok (.invokevirtual 274, 3) := by decide +kernel
theorem dX4_cast_26 : decode cX4_cast 26 = .ok (.ifCond .eq 11, 3) := by decide +kernel
theorem dX4_cast_29 : decode cX4_cast 29 = .ok (.aload_n 0, 1) := by decide +kernel
theorem dX4_cast_30 : decode cX4_cast 30 = .ok (.iconst 2, 1) := by decide +kernel
theorem dX4_cast_31 : decode cX4_cast 31 = .ok (.invokevirtual 164, 3) := by decide +kernel
theorem dX4_cast_34 : decode cX4_cast 34 = .ok (.goto 4, 3) := by decide +kernel
theorem dX4_cast_37 : decode cX4_cast 37 = .ok (.iconst 5, 1) := by decide +kernel
theorem dX4_cast_38 : decode cX4_cast 38 = .ok (.ireturn, 1) := by decide +kernel
theorem dJ13_compare_74951_0 : decode cJ13_compare_74951 0 = .ok (.lload_n 0, 1) := by decide +kernel
theorem dJ13_compare_74951_1 : decode cJ13_compare_74951 1 = .ok (.lload_n 2, 1) := by decide +kernel
theorem dJ13_compare_74951_2 : decode cJ13_compare_74951 2 = .ok (.lcmp, 1) := by decide +kernel
theorem dJ13_compare_74951_3 : decode cJ13_compare_74951 3 = .ok (.ifCond .ge 7, 3) := by decide +kernel
theorem dJ13_compare_74951_6 : decode cJ13_compare_74951 6 = .ok (.iconst (-1), 1) := by decide +kernel
theorem dJ13_compare_74951_7 : decode cJ13_compare_74951 7 = .ok (.goto 14, 3) := by decide +kernel
theorem dJ13_compare_74951_10 : decode cJ13_compare_74951 10 = .ok (.lload_n 0, 1) := by decide +kernel
theorem dJ13_compare_74951_11 : decode cJ13_compare_74951 11 = .ok (.lload_n 2, 1) := by decide +kernel
theorem dJ13_compare_74951_12 : decode cJ13_compare_74951 12 = .ok (.lcmp, 1) := by decide +kernel
theorem dJ13_compare_74951_13 : decode cJ13_compare_74951 13 = .ok (.ifCond .ne 7, 3) := by decide +kernel
theorem dJ13_compare_74951_16 : decode cJ13_compare_74951 16 = .ok (.iconst 0, 1) := by decide +kernel
theorem dJ13_compare_74951_17 : decode cJ13_compare_74951 17 = .ok (.goto 4, 3) := by decide +kernel
theorem dJ13_compare_74951_20 : decode cJ13_compare_74951 20 = .ok (.iconst 1, 1) := by decide +kernel
theorem dJ13_compare_74951_21 : decode cJ13_compare_74951 21 = .ok (.ireturn, 1) := by decide +kernel
theorem dX1_increase_0 : decode cX1_increase 0 = .ok (.aload_n 0, 1) := by decide +kernel
theorem dX1_increase_1 : decode cX1_increase 1 = .ok (.getfield 11, 3) := by decide +kernel
theorem dX1_increase_4 : decode cX1_increase 4 = .ok (.iload_n 1, 1) := by decide +kernel
theorem dX1_increase_5 : decode cX1_increase 5 = .ok (.aload_n 0, 1) := by decide +kernel
theorem dX1_increase_6 : decode cX1_increase 6 = .ok (.getfield 11, 3) := by decide +kernel
theorem dX1_increase_9 : decode cX1_increase 9 = .ok (.iload_n 1, 1) := by decide +kernel
theorem dX1_increase_10 : decode cX1_increase 10 = .ok (.laload, 1) := by decide +kernel
theorem dX1_increase_11 : decode cX1_increase 11 = .ok (.iload_n 2, 1) := by decide +kernel
theorem dX1_increase_12 : decode cX1_increase 12 = .ok (.i2l, 1) := by decide +kernel
theorem dX1_increase_13 : decode cX1_increase 13 = .ok (.ladd, 1) := by decide +kernel
theorem dX1_increase_14 : decode cX1_increase 14 = .ok (.l2i, 1) := by decide +kernel
theorem dX1_increase_15 : decode cX1_increase 15 = .ok (.i2l, 1) := by decide +kernel
theorem dX1_increase_16 : decode cX1_increase 16 = .ok (.lastore, 1) := by decide +kernel
theorem dX1_increase_17 : decode cX1_increase 17 = .ok (.return_, 1) := by decide +kernel
theorem dX1_pushNumber_0 : decode cX1_pushNumber 0 = .ok (.aload_n 0, 1) := by decide +kernel
theorem dX1_pushNumber_1 : decode cX1_pushNumber 1 = .ok (.aload_n 0, 1) := by decide +kernel
theorem dX1_pushNumber_2 : decode cX1_pushNumber 2 = .ok (.getfield 19, 3) := by decide +kernel
theorem dX1_pushNumber_5 : decode cX1_pushNumber 5 = .ok (.lload_n 1, 1) := by decide +kernel
theorem dX1_pushNumber_6 : decode cX1_pushNumber 6 = .ok (.invokevirtual 45, 3) := by decide +kernel
theorem dX1_pushNumber_9 : decode cX1_pushNumber 9 = .ok (.aload_n 0, 1) := by decide +kernel
theorem dX1_pushNumber_10 : decode cX1_pushNumber 10 = .ok (.dup, 1) := by decide +kernel
theorem dX1_pushNumber_11 : decode cX1_pushNumber 11 = .ok (.getfield 19, 3) := by decide +kernel
theorem dX1_pushNumber_14 : decode cX1_pushNumber 14 = .ok (.iconst 1, 1) := by decide +kernel
theorem dX1_pushNumber_15 : decode cX1_pushNumber 15 = .ok (.iadd, 1) := by decide +kernel
theorem dX1_pushNumber_16 : decode cX1_pushNumber 16 = .ok (.putfield 19, 3) := by decide +kernel
theorem dX1_pushNumber_19 : decode cX1_pushNumber 19 = .ok (.return_, 1) := by decide +kernel
theorem dX4_converted_0 : decode cX4_converted 0 = .ok (.iload_n 0, 1) := by decide +kernel
theorem dX4_converted_1 : decode cX4_converted 1 = .ok (.lookupswitch 62 #[(136, 43), (145, 47), (146, 52), (147, 57)], 43) := by decide +kernel
theorem dX4_converted_44 : decode cX4_converted 44 = .ok (.lload_n 1, 1) := by decide +kernel
theorem dX4_converted_45 : decode cX4_converted 45 = .ok (.l2i, 1) := by decide +kernel
