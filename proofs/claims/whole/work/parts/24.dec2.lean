theorem d_L_law_295 : decode code 295 = .ok (.lor, 1) := by decide +kernel
theorem d_L_law_296 : decode code 296 = .ok (.aload_n 0, 1) := by decide +kernel
theorem d_L_law_297 : decode code 297 = .ok (.iload_n 3, 1) := by decide +kernel
theorem d_L_law_298 : decode code 298 = .ok (.iconst 5, 1) := by decide +kernel
theorem d_L_law_299 : decode code 299 = .ok (.iadd, 1) := by decide +kernel
theorem d_L_law_300 : decode code 300 = .ok (.iaload, 1) := by decide +kernel
theorem d_L_law_301 : decode code 301 = .ok (.i2l, 1) := by decide +kernel
theorem d_L_law_302 : decode code 302 = .ok (.bipush 32, 2) := by decide +kernel
theorem d_L_law_304 : decode code 304 = .ok (.lshl, 1) := by decide +kernel
theorem d_L_law_305 : decode code 305 = .ok (.aload_n 0, 1) := by decide +kernel
theorem d_L_law_306 : decode code 306 = .ok (.iload_n 3, 1) := by decide +kernel
theorem d_L_law_307 : decode code 307 = .ok (.bipush 6, 2) := by decide +kernel
theorem d_L_law_309 : decode code 309 = .ok (.iadd, 1) := by decide +kernel
theorem d_L_law_310 : decode code 310 = .ok (.iaload, 1) := by decide +kernel
theorem d_L_law_311 : decode code 311 = .ok (.i2l, 1) := by decide +kernel
theorem d_L_law_312 : decode code 312 = .ok (.ldc2_w 26, 3) := by decide +kernel
theorem d_L_law_315 : decode code 315 = .ok (.land, 1) := by decide +kernel
theorem d_L_law_316 : decode code 316 = .ok (.lor, 1) := by decide +kernel
theorem d_L_law_317 : decode code 317 = .ok (.invokevirtual 38, 3) := by decide +kernel
theorem d_L_law_320 : decode code 320 = .ok (.aload_n 2, 1) := by decide +kernel
theorem d_L_law_321 : decode code 321 = .ok (.aload_n 0, 1) := by decide +kernel
theorem d_L_law_322 : decode code 322 = .ok (.iload_n 3, 1) := by decide +kernel
theorem d_L_law_323 : decode code 323 = .ok (.iconst 1, 1) := by decide +kernel
theorem d_L_law_324 : decode code 324 = .ok (.iadd, 1) := by decide +kernel
theorem d_L_law_325 : decode code 325 = .ok (.iaload, 1) := by decide +kernel
theorem d_L_law_326 : decode code 326 = .ok (.aload_n 0, 1) := by decide +kernel
theorem d_L_law_327 : decode code 327 = .ok (.iload_n 3, 1) := by decide +kernel
theorem d_L_law_328 : decode code 328 = .ok (.iconst 2, 1) := by decide +kernel
theorem d_L_law_329 : decode code 329 = .ok (.iadd, 1) := by decide +kernel
theorem d_L_law_330 : decode code 330 = .ok (.iaload, 1) := by decide +kernel
theorem d_L_law_331 : decode code 331 = .ok (.aload_n 0, 1) := by decide +kernel
theorem d_L_law_332 : decode code 332 = .ok (.iload_n 3, 1) := by decide +kernel
theorem d_L_law_333 : decode code 333 = .ok (.iconst 3, 1) := by decide +kernel
theorem d_L_law_334 : decode code 334 = .ok (.iadd, 1) := by decide +kernel
theorem d_L_law_335 : decode code 335 = .ok (.iaload, 1) := by decide +kernel
theorem d_L_law_336 : decode code 336 = .ok (.i2l, 1) := by decide +kernel
theorem d_L_law_337 : decode code 337 = .ok (.bipush 32, 2) := by decide +kernel
theorem d_L_law_339 : decode code 339 = .ok (.lshl, 1) := by decide +kernel
theorem d_L_law_340 : decode code 340 = .ok (.aload_n 0, 1) := by decide +kernel
theorem d_L_law_341 : decode code 341 = .ok (.iload_n 3, 1) := by decide +kernel
theorem d_L_law_342 : decode code 342 = .ok (.iconst 4, 1) := by decide +kernel
theorem d_L_law_343 : decode code 343 = .ok (.iadd, 1) := by decide +kernel
theorem d_L_law_344 : decode code 344 = .ok (.iaload, 1) := by decide +kernel
theorem d_L_law_345 : decode code 345 = .ok (.i2l, 1) := by decide +kernel
theorem d_L_law_346 : decode code 346 = .ok (.ldc2_w 26, 3) := by decide +kernel
theorem d_L_law_349 : decode code 349 = .ok (.land, 1) := by decide +kernel
theorem d_L_law_350 : decode code 350 = .ok (.lor, 1) := by decide +kernel
theorem d_L_law_351 : decode code 351 = .ok (.aload_n 0, 1) := by decide +kernel
theorem d_L_law_352 : decode code 352 = .ok (.iload_n 3, 1) := by decide +kernel
theorem d_L_law_353 : decode code 353 = .ok (.iconst 5, 1) := by decide +kernel
theorem d_L_law_354 : decode code 354 = .ok (.iadd, 1) := by decide +kernel
theorem d_L_law_355 : decode code 355 = .ok (.iaload, 1) := by decide +kernel
theorem d_L_law_356 : decode code 356 = .ok (.i2l, 1) := by decide +kernel
theorem d_L_law_357 : decode code 357 = .ok (.bipush 32, 2) := by decide +kernel
theorem d_L_law_359 : decode code 359 = .ok (.lshl, 1) := by decide +kernel
theorem d_L_law_360 : decode code 360 = .ok (.aload_n 0, 1) := by decide +kernel
theorem d_L_law_361 : decode code 361 = .ok (.iload_n 3, 1) := by decide +kernel
theorem d_L_law_362 : decode code 362 = .ok (.bipush 6, 2) := by decide +kernel
theorem d_L_law_364 : decode code 364 = .ok (.iadd, 1) := by decide +kernel
theorem d_L_law_365 : decode code 365 = .ok (.iaload, 1) := by decide +kernel
theorem d_L_law_366 : decode code 366 = .ok (.i2l, 1) := by decide +kernel
theorem d_L_law_367 : decode code 367 = .ok (.ldc2_w 26, 3) := by decide +kernel
theorem d_L_law_370 : decode code 370 = .ok (.land, 1) := by decide +kernel
theorem d_L_law_371 : decode code 371 = .ok (.lor, 1) := by decide +kernel
theorem d_L_law_372 : decode code 372 = .ok (.invokevirtual 42, 3) := by decide +kernel
theorem d_L_law_375 : decode code 375 = .ok (.if_icmp .eq 257, 3) := by decide +kernel
theorem d_L_law_378 : decode code 378 = .ok (.iconst 0, 1) := by decide +kernel
theorem d_L_law_379 : decode code 379 = .ok (.ireturn, 1) := by decide +kernel
theorem d_L_law_380 : decode code 380 = .ok (.aload_n 1, 1) := by decide +kernel
theorem d_L_law_381 : decode code 381 = .ok (.aload_n 0, 1) := by decide +kernel
theorem d_L_law_382 : decode code 382 = .ok (.iload_n 3, 1) := by decide +kernel
theorem d_L_law_383 : decode code 383 = .ok (.iconst 1, 1) := by decide +kernel
theorem d_L_law_384 : decode code 384 = .ok (.iadd, 1) := by decide +kernel
theorem d_L_law_385 : decode code 385 = .ok (.iaload, 1) := by decide +kernel
theorem d_L_law_386 : decode code 386 = .ok (.ifCond .eq 7, 3) := by decide +kernel
theorem d_L_law_389 : decode code 389 = .ok (.iconst 1, 1) := by decide +kernel
theorem d_L_law_390 : decode code 390 = .ok (.goto 4, 3) := by decide +kernel
theorem d_L_law_393 : decode code 393 = .ok (.iconst 0, 1) := by decide +kernel
theorem d_L_law_394 : decode code 394 = .ok (.aload_n 0, 1) := by decide +kernel
theorem d_L_law_395 : decode code 395 = .ok (.iload_n 3, 1) := by decide +kernel
theorem d_L_law_396 : decode code 396 = .ok (.iconst 2, 1) := by decide +kernel
theorem d_L_law_397 : decode code 397 = .ok (.iadd, 1) := by decide +kernel
theorem d_L_law_398 : decode code 398 = .ok (.iaload, 1) := by decide +kernel
theorem d_L_law_399 : decode code 399 = .ok (.aload_n 0, 1) := by decide +kernel
theorem d_L_law_400 : decode code 400 = .ok (.iload_n 3, 1) := by decide +kernel
theorem d_L_law_401 : decode code 401 = .ok (.iconst 3, 1) := by decide +kernel
theorem d_L_law_402 : decode code 402 = .ok (.iadd, 1) := by decide +kernel
theorem d_L_law_403 : decode code 403 = .ok (.iaload, 1) := by decide +kernel
theorem d_L_law_404 : decode code 404 = .ok (.invokevirtual 43, 3) := by decide +kernel
theorem d_L_law_407 : decode code 407 = .ok (.aload_n 2, 1) := by decide +kernel
