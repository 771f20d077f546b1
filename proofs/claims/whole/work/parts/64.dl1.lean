theorem dL_law_291 : decode code 291 = .ok (.if_icmp .eq 560, 3) := by decide +kernel
theorem dL_law_294 : decode code 294 = .ok (.iconst 0, 1) := by decide +kernel
theorem dL_law_295 : decode code 295 = .ok (.ireturn, 1) := by decide +kernel
theorem dL_law_296 : decode code 296 = .ok (.aload_n 1, 1) := by decide +kernel
theorem dL_law_297 : decode code 297 = .ok (.invokevirtual 39, 3) := by decide +kernel
theorem dL_law_300 : decode code 300 = .ok (.aload_n 2, 1) := by decide +kernel
theorem dL_law_301 : decode code 301 = .ok (.invokevirtual 43, 3) := by decide +kernel
theorem dL_law_304 : decode code 304 = .ok (.if_icmp .eq 547, 3) := by decide +kernel
theorem dL_law_307 : decode code 307 = .ok (.iconst 0, 1) := by decide +kernel
theorem dL_law_308 : decode code 308 = .ok (.ireturn, 1) := by decide +kernel
theorem dL_law_309 : decode code 309 = .ok (.aload_n 1, 1) := by decide +kernel
theorem dL_law_310 : decode code 310 = .ok (.invokevirtual 44, 3) := by decide +kernel
theorem dL_law_313 : decode code 313 = .ok (.aload_n 2, 1) := by decide +kernel
theorem dL_law_314 : decode code 314 = .ok (.invokevirtual 47, 3) := by decide +kernel
theorem dL_law_317 : decode code 317 = .ok (.if_icmp .eq 534, 3) := by decide +kernel
theorem dL_law_320 : decode code 320 = .ok (.iconst 0, 1) := by decide +kernel
theorem dL_law_321 : decode code 321 = .ok (.ireturn, 1) := by decide +kernel
theorem dL_law_322 : decode code 322 = .ok (.aload_n 1, 1) := by decide +kernel
theorem dL_law_323 : decode code 323 = .ok (.aload_n 0, 1) := by decide +kernel
theorem dL_law_324 : decode code 324 = .ok (.iload 4, 2) := by decide +kernel
theorem dL_law_326 : decode code 326 = .ok (.iconst 1, 1) := by decide +kernel
theorem dL_law_327 : decode code 327 = .ok (.iadd, 1) := by decide +kernel
theorem dL_law_328 : decode code 328 = .ok (.iaload, 1) := by decide +kernel
theorem dL_law_329 : decode code 329 = .ok (.aload_n 0, 1) := by decide +kernel
theorem dL_law_330 : decode code 330 = .ok (.iload 4, 2) := by decide +kernel
theorem dL_law_332 : decode code 332 = .ok (.iconst 2, 1) := by decide +kernel
theorem dL_law_333 : decode code 333 = .ok (.iadd, 1) := by decide +kernel
theorem dL_law_334 : decode code 334 = .ok (.iaload, 1) := by decide +kernel
theorem dL_law_335 : decode code 335 = .ok (.aload_n 0, 1) := by decide +kernel
theorem dL_law_336 : decode code 336 = .ok (.iload 4, 2) := by decide +kernel
theorem dL_law_338 : decode code 338 = .ok (.iconst 3, 1) := by decide +kernel
theorem dL_law_339 : decode code 339 = .ok (.iadd, 1) := by decide +kernel
theorem dL_law_340 : decode code 340 = .ok (.iaload, 1) := by decide +kernel
theorem dL_law_341 : decode code 341 = .ok (.invokevirtual 48, 3) := by decide +kernel
theorem dL_law_344 : decode code 344 = .ok (.aload_n 2, 1) := by decide +kernel
theorem dL_law_345 : decode code 345 = .ok (.aload_n 0, 1) := by decide +kernel
theorem dL_law_346 : decode code 346 = .ok (.iload 4, 2) := by decide +kernel
theorem dL_law_348 : decode code 348 = .ok (.iconst 1, 1) := by decide +kernel
theorem dL_law_349 : decode code 349 = .ok (.iadd, 1) := by decide +kernel
theorem dL_law_350 : decode code 350 = .ok (.iaload, 1) := by decide +kernel
theorem dL_law_351 : decode code 351 = .ok (.aload_n 0, 1) := by decide +kernel
theorem dL_law_352 : decode code 352 = .ok (.iload 4, 2) := by decide +kernel
theorem dL_law_354 : decode code 354 = .ok (.iconst 2, 1) := by decide +kernel
theorem dL_law_355 : decode code 355 = .ok (.iadd, 1) := by decide +kernel
theorem dL_law_356 : decode code 356 = .ok (.iaload, 1) := by decide +kernel
theorem dL_law_357 : decode code 357 = .ok (.aload_n 0, 1) := by decide +kernel
theorem dL_law_358 : decode code 358 = .ok (.iload 4, 2) := by decide +kernel
theorem dL_law_360 : decode code 360 = .ok (.iconst 3, 1) := by decide +kernel
theorem dL_law_361 : decode code 361 = .ok (.iadd, 1) := by decide +kernel
theorem dL_law_362 : decode code 362 = .ok (.iaload, 1) := by decide +kernel
theorem dL_law_363 : decode code 363 = .ok (.invokevirtual 51, 3) := by decide +kernel
theorem dL_law_366 : decode code 366 = .ok (.if_icmp .eq 485, 3) := by decide +kernel
theorem dL_law_369 : decode code 369 = .ok (.iconst 0, 1) := by decide +kernel
theorem dL_law_370 : decode code 370 = .ok (.ireturn, 1) := by decide +kernel
theorem dL_law_371 : decode code 371 = .ok (.aload_n 1, 1) := by decide +kernel
theorem dL_law_372 : decode code 372 = .ok (.aload_n 0, 1) := by decide +kernel
theorem dL_law_373 : decode code 373 = .ok (.iload 4, 2) := by decide +kernel
theorem dL_law_375 : decode code 375 = .ok (.iconst 1, 1) := by decide +kernel
theorem dL_law_376 : decode code 376 = .ok (.iadd, 1) := by decide +kernel
theorem dL_law_377 : decode code 377 = .ok (.iaload, 1) := by decide +kernel
theorem dL_law_378 : decode code 378 = .ok (.aload_n 0, 1) := by decide +kernel
theorem dL_law_379 : decode code 379 = .ok (.iload 4, 2) := by decide +kernel
theorem dL_law_381 : decode code 381 = .ok (.iconst 2, 1) := by decide +kernel
theorem dL_law_382 : decode code 382 = .ok (.iadd, 1) := by decide +kernel
theorem dL_law_383 : decode code 383 = .ok (.iaload, 1) := by decide +kernel
theorem dL_law_384 : decode code 384 = .ok (.aload_n 0, 1) := by decide +kernel
theorem dL_law_385 : decode code 385 = .ok (.iload 4, 2) := by decide +kernel
theorem dL_law_387 : decode code 387 = .ok (.iconst 3, 1) := by decide +kernel
theorem dL_law_388 : decode code 388 = .ok (.iadd, 1) := by decide +kernel
theorem dL_law_389 : decode code 389 = .ok (.iaload, 1) := by decide +kernel
theorem dL_law_390 : decode code 390 = .ok (.ifCond .eq 7, 3) := by decide +kernel
theorem dL_law_393 : decode code 393 = .ok (.iconst 1, 1) := by decide +kernel
theorem dL_law_394 : decode code 394 = .ok (.goto 4, 3) := by decide +kernel
theorem dL_law_397 : decode code 397 = .ok (.iconst 0, 1) := by decide +kernel
theorem dL_law_398 : decode code 398 = .ok (.invokevirtual 52, 3) := by decide +kernel
theorem dL_law_401 : decode code 401 = .ok (.aload_n 2, 1) := by decide +kernel
theorem dL_law_402 : decode code 402 = .ok (.aload_n 0, 1) := by decide +kernel
theorem dL_law_403 : decode code 403 = .ok (.iload 4, 2) := by decide +kernel
theorem dL_law_405 : decode code 405 = .ok (.iconst 1, 1) := by decide +kernel
theorem dL_law_406 : decode code 406 = .ok (.iadd, 1) := by decide +kernel
theorem dL_law_407 : decode code 407 = .ok (.iaload, 1) := by decide +kernel
theorem dL_law_408 : decode code 408 = .ok (.aload_n 0, 1) := by decide +kernel
theorem dL_law_409 : decode code 409 = .ok (.iload 4, 2) := by decide +kernel
theorem dL_law_411 : decode code 411 = .ok (.iconst 2, 1) := by decide +kernel
theorem dL_law_412 : decode code 412 = .ok (.iadd, 1) := by decide +kernel
theorem dL_law_413 : decode code 413 = .ok (.iaload, 1) := by decide +kernel
theorem dL_law_414 : decode code 414 = .ok (.aload_n 0, 1) := by decide +kernel
theorem dL_law_415 : decode code 415 = .ok (.iload 4, 2) := by decide +kernel
theorem dL_law_417 : decode code 417 = .ok (.iconst 3, 1) := by decide +kernel
theorem dL_law_418 : decode code 418 = .ok (.iadd, 1) := by decide +kernel
theorem dL_law_419 : decode code 419 = .ok (.iaload, 1) := by decide +kernel
theorem dL_law_420 : decode code 420 = .ok (.ifCond .eq 7, 3) := by decide +kernel
theorem dL_law_423 : decode code 423 = .ok (.iconst 1, 1) := by decide +kernel
theorem dL_law_424 : decode code 424 = .ok (.goto 4, 3) := by decide +kernel
theorem dL_law_427 : decode code 427 = .ok (.iconst 0, 1) := by decide +kernel
theorem dL_law_428 : decode code 428 = .ok (.invokevirtual 56, 3) := by decide +kernel
theorem dL_law_431 : decode code 431 = .ok (.if_icmp .eq 420, 3) := by decide +kernel
theorem dL_law_434 : decode code 434 = .ok (.iconst 0, 1) := by decide +kernel
theorem dL_law_435 : decode code 435 = .ok (.ireturn, 1) := by decide +kernel
theorem dL_law_436 : decode code 436 = .ok (.aload_n 1, 1) := by decide +kernel
theorem dL_law_437 : decode code 437 = .ok (.aload_n 0, 1) := by decide +kernel
theorem dL_law_438 : decode code 438 = .ok (.iload 4, 2) := by decide +kernel
theorem dL_law_440 : decode code 440 = .ok (.iconst 1, 1) := by decide +kernel
theorem dL_law_441 : decode code 441 = .ok (.iadd, 1) := by decide +kernel
theorem dL_law_442 : decode code 442 = .ok (.iaload, 1) := by decide +kernel
theorem dL_law_443 : decode code 443 = .ok (.invokevirtual 57, 3) := by decide +kernel
theorem dL_law_446 : decode code 446 = .ok (.aload_n 2, 1) := by decide +kernel
theorem dL_law_447 : decode code 447 = .ok (.aload_n 0, 1) := by decide +kernel
theorem dL_law_448 : decode code 448 = .ok (.iload 4, 2) := by decide +kernel
theorem dL_law_450 : decode code 450 = .ok (.iconst 1, 1) := by decide +kernel
theorem dL_law_451 : decode code 451 = .ok (.iadd, 1) := by decide +kernel
theorem dL_law_452 : decode code 452 = .ok (.iaload, 1) := by decide +kernel
theorem dL_law_453 : decode code 453 = .ok (.invokevirtual 60, 3) := by decide +kernel
theorem dL_law_456 : decode code 456 = .ok (.if_icmp .eq 395, 3) := by decide +kernel
theorem dL_law_459 : decode code 459 = .ok (.iconst 0, 1) := by decide +kernel
theorem dL_law_460 : decode code 460 = .ok (.ireturn, 1) := by decide +kernel
theorem dL_law_461 : decode code 461 = .ok (.aload_n 1, 1) := by decide +kernel
theorem dL_law_462 : decode code 462 = .ok (.aload_n 0, 1) := by decide +kernel
theorem dL_law_463 : decode code 463 = .ok (.iload 4, 2) := by decide +kernel
theorem dL_law_465 : decode code 465 = .ok (.iconst 1, 1) := by decide +kernel
theorem dL_law_466 : decode code 466 = .ok (.iadd, 1) := by decide +kernel
theorem dL_law_467 : decode code 467 = .ok (.iaload, 1) := by decide +kernel
theorem dL_law_468 : decode code 468 = .ok (.aload_n 0, 1) := by decide +kernel
theorem dL_law_469 : decode code 469 = .ok (.iload 4, 2) := by decide +kernel
theorem dL_law_471 : decode code 471 = .ok (.iconst 2, 1) := by decide +kernel
theorem dL_law_472 : decode code 472 = .ok (.iadd, 1) := by decide +kernel
theorem dL_law_473 : decode code 473 = .ok (.iaload, 1) := by decide +kernel
theorem dL_law_474 : decode code 474 = .ok (.invokevirtual 61, 3) := by decide +kernel
theorem dL_law_477 : decode code 477 = .ok (.aload_n 2, 1) := by decide +kernel
theorem dL_law_478 : decode code 478 = .ok (.aload_n 0, 1) := by decide +kernel
theorem dL_law_479 : decode code 479 = .ok (.iload 4, 2) := by decide +kernel
theorem dL_law_481 : decode code 481 = .ok (.iconst 1, 1) := by decide +kernel
theorem dL_law_482 : decode code 482 = .ok (.iadd, 1) := by decide +kernel
theorem dL_law_483 : decode code 483 = .ok (.iaload, 1) := by decide +kernel
theorem dL_law_484 : decode code 484 = .ok (.aload_n 0, 1) := by decide +kernel
theorem dL_law_485 : decode code 485 = .ok (.iload 4, 2) := by decide +kernel
theorem dL_law_487 : decode code 487 = .ok (.iconst 2, 1) := by decide +kernel
theorem dL_law_488 : decode code 488 = .ok (.iadd, 1) := by decide +kernel
theorem dL_law_489 : decode code 489 = .ok (.iaload, 1) := by decide +kernel
theorem dL_law_490 : decode code 490 = .ok (.invokevirtual 65, 3) := by decide +kernel
