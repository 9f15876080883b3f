theorem dL_326 : decode code 326 = .ok (.aload_n 1, 1) := by decide +kernel
theorem dL_327 : decode code 327 = .ok (.aload_n 0, 1) := by decide +kernel
theorem dL_328 : decode code 328 = .ok (.iload_n 3, 1) := by decide +kernel
theorem dL_329 : decode code 329 = .ok (.iconst 1, 1) := by decide +kernel
theorem dL_330 : decode code 330 = .ok (.iadd, 1) := by decide +kernel
theorem dL_331 : decode code 331 = .ok (.iaload, 1) := by decide +kernel
theorem dL_332 : decode code 332 = .ok (.aload_n 0, 1) := by decide +kernel
theorem dL_333 : decode code 333 = .ok (.iload_n 3, 1) := by decide +kernel
theorem dL_334 : decode code 334 = .ok (.iconst 2, 1) := by decide +kernel
theorem dL_335 : decode code 335 = .ok (.iadd, 1) := by decide +kernel
theorem dL_336 : decode code 336 = .ok (.iaload, 1) := by decide +kernel
theorem dL_337 : decode code 337 = .ok (.invokevirtual 31, 3) := by decide +kernel
theorem dL_340 : decode code 340 = .ok (.aload_n 2, 1) := by decide +kernel
theorem dL_341 : decode code 341 = .ok (.aload_n 0, 1) := by decide +kernel
theorem dL_342 : decode code 342 = .ok (.iload_n 3, 1) := by decide +kernel
theorem dL_343 : decode code 343 = .ok (.iconst 1, 1) := by decide +kernel
theorem dL_344 : decode code 344 = .ok (.iadd, 1) := by decide +kernel
theorem dL_345 : decode code 345 = .ok (.iaload, 1) := by decide +kernel
theorem dL_346 : decode code 346 = .ok (.aload_n 0, 1) := by decide +kernel
theorem dL_347 : decode code 347 = .ok (.iload_n 3, 1) := by decide +kernel
theorem dL_348 : decode code 348 = .ok (.iconst 2, 1) := by decide +kernel
theorem dL_349 : decode code 349 = .ok (.iadd, 1) := by decide +kernel
theorem dL_350 : decode code 350 = .ok (.iaload, 1) := by decide +kernel
theorem dL_351 : decode code 351 = .ok (.invokevirtual 34, 3) := by decide +kernel
theorem dL_354 : decode code 354 = .ok (.if_icmp .eq 1049, 3) := by decide +kernel
theorem dL_357 : decode code 357 = .ok (.iconst 0, 1) := by decide +kernel
theorem dL_358 : decode code 358 = .ok (.ireturn, 1) := by decide +kernel
theorem dL_359 : decode code 359 = .ok (.aload_n 1, 1) := by decide +kernel
theorem dL_360 : decode code 360 = .ok (.aload_n 0, 1) := by decide +kernel
theorem dL_361 : decode code 361 = .ok (.iload_n 3, 1) := by decide +kernel
theorem dL_362 : decode code 362 = .ok (.iconst 1, 1) := by decide +kernel
theorem dL_363 : decode code 363 = .ok (.iadd, 1) := by decide +kernel
theorem dL_364 : decode code 364 = .ok (.iaload, 1) := by decide +kernel
theorem dL_365 : decode code 365 = .ok (.aload_n 0, 1) := by decide +kernel
theorem dL_366 : decode code 366 = .ok (.iload_n 3, 1) := by decide +kernel
theorem dL_367 : decode code 367 = .ok (.iconst 2, 1) := by decide +kernel
theorem dL_368 : decode code 368 = .ok (.iadd, 1) := by decide +kernel
theorem dL_369 : decode code 369 = .ok (.iaload, 1) := by decide +kernel
theorem dL_370 : decode code 370 = .ok (.invokevirtual 35, 3) := by decide +kernel
theorem dL_373 : decode code 373 = .ok (.aload_n 2, 1) := by decide +kernel
theorem dL_374 : decode code 374 = .ok (.aload_n 0, 1) := by decide +kernel
theorem dL_375 : decode code 375 = .ok (.iload_n 3, 1) := by decide +kernel
theorem dL_376 : decode code 376 = .ok (.iconst 1, 1) := by decide +kernel
theorem dL_377 : decode code 377 = .ok (.iadd, 1) := by decide +kernel
theorem dL_378 : decode code 378 = .ok (.iaload, 1) := by decide +kernel
theorem dL_379 : decode code 379 = .ok (.aload_n 0, 1) := by decide +kernel
theorem dL_380 : decode code 380 = .ok (.iload_n 3, 1) := by decide +kernel
theorem dL_381 : decode code 381 = .ok (.iconst 2, 1) := by decide +kernel
theorem dL_382 : decode code 382 = .ok (.iadd, 1) := by decide +kernel
theorem dL_383 : decode code 383 = .ok (.iaload, 1) := by decide +kernel
theorem dL_384 : decode code 384 = .ok (.invokevirtual 38, 3) := by decide +kernel
theorem dL_387 : decode code 387 = .ok (.if_icmp .eq 1016, 3) := by decide +kernel
theorem dL_390 : decode code 390 = .ok (.iconst 0, 1) := by decide +kernel
theorem dL_391 : decode code 391 = .ok (.ireturn, 1) := by decide +kernel
theorem dL_392 : decode code 392 = .ok (.aload_n 1, 1) := by decide +kernel
theorem dL_393 : decode code 393 = .ok (.aload_n 0, 1) := by decide +kernel
theorem dL_394 : decode code 394 = .ok (.iload_n 3, 1) := by decide +kernel
theorem dL_395 : decode code 395 = .ok (.iconst 1, 1) := by decide +kernel
theorem dL_396 : decode code 396 = .ok (.iadd, 1) := by decide +kernel
theorem dL_397 : decode code 397 = .ok (.iaload, 1) := by decide +kernel
theorem dL_398 : decode code 398 = .ok (.aload_n 0, 1) := by decide +kernel
theorem dL_399 : decode code 399 = .ok (.iload_n 3, 1) := by decide +kernel
theorem dL_400 : decode code 400 = .ok (.iconst 2, 1) := by decide +kernel
theorem dL_401 : decode code 401 = .ok (.iadd, 1) := by decide +kernel
theorem dL_402 : decode code 402 = .ok (.iaload, 1) := by decide +kernel
theorem dL_403 : decode code 403 = .ok (.invokevirtual 39, 3) := by decide +kernel
theorem dL_406 : decode code 406 = .ok (.aload_n 2, 1) := by decide +kernel
theorem dL_407 : decode code 407 = .ok (.aload_n 0, 1) := by decide +kernel
theorem dL_408 : decode code 408 = .ok (.iload_n 3, 1) := by decide +kernel
theorem dL_409 : decode code 409 = .ok (.iconst 1, 1) := by decide +kernel
theorem dL_410 : decode code 410 = .ok (.iadd, 1) := by decide +kernel
theorem dL_411 : decode code 411 = .ok (.iaload, 1) := by decide +kernel
theorem dL_412 : decode code 412 = .ok (.aload_n 0, 1) := by decide +kernel
theorem dL_413 : decode code 413 = .ok (.iload_n 3, 1) := by decide +kernel
theorem dL_414 : decode code 414 = .ok (.iconst 2, 1) := by decide +kernel
theorem dL_415 : decode code 415 = .ok (.iadd, 1) := by decide +kernel
theorem dL_416 : decode code 416 = .ok (.iaload, 1) := by decide +kernel
theorem dL_417 : decode code 417 = .ok (.invokevirtual 42, 3) := by decide +kernel
theorem dL_420 : decode code 420 = .ok (.if_icmp .eq 983, 3) := by decide +kernel
theorem dL_423 : decode code 423 = .ok (.iconst 0, 1) := by decide +kernel
theorem dL_424 : decode code 424 = .ok (.ireturn, 1) := by decide +kernel
theorem dL_425 : decode code 425 = .ok (.aload_n 1, 1) := by decide +kernel
theorem dL_426 : decode code 426 = .ok (.aload_n 0, 1) := by decide +kernel
theorem dL_427 : decode code 427 = .ok (.iload_n 3, 1) := by decide +kernel
theorem dL_428 : decode code 428 = .ok (.iconst 1, 1) := by decide +kernel
theorem dL_429 : decode code 429 = .ok (.iadd, 1) := by decide +kernel
theorem dL_430 : decode code 430 = .ok (.iaload, 1) := by decide +kernel
theorem dL_431 : decode code 431 = .ok (.aload_n 0, 1) := by decide +kernel
theorem dL_432 : decode code 432 = .ok (.iload_n 3, 1) := by decide +kernel
theorem dL_433 : decode code 433 = .ok (.iconst 2, 1) := by decide +kernel
theorem dL_434 : decode code 434 = .ok (.iadd, 1) := by decide +kernel
theorem dL_435 : decode code 435 = .ok (.iaload, 1) := by decide +kernel
theorem dL_436 : decode code 436 = .ok (.aload_n 0, 1) := by decide +kernel
theorem dL_437 : decode code 437 = .ok (.iload_n 3, 1) := by decide +kernel
theorem dL_438 : decode code 438 = .ok (.iconst 3, 1) := by decide +kernel
theorem dL_439 : decode code 439 = .ok (.iadd, 1) := by decide +kernel
theorem dL_440 : decode code 440 = .ok (.iaload, 1) := by decide +kernel
theorem dL_441 : decode code 441 = .ok (.invokevirtual 43, 3) := by decide +kernel
theorem dL_444 : decode code 444 = .ok (.aload_n 2, 1) := by decide +kernel
theorem dL_445 : decode code 445 = .ok (.aload_n 0, 1) := by decide +kernel
theorem dL_446 : decode code 446 = .ok (.iload_n 3, 1) := by decide +kernel
theorem dL_447 : decode code 447 = .ok (.iconst 1, 1) := by decide +kernel
theorem dL_448 : decode code 448 = .ok (.iadd, 1) := by decide +kernel
theorem dL_449 : decode code 449 = .ok (.iaload, 1) := by decide +kernel
theorem dL_450 : decode code 450 = .ok (.aload_n 0, 1) := by decide +kernel
theorem dL_451 : decode code 451 = .ok (.iload_n 3, 1) := by decide +kernel
theorem dL_452 : decode code 452 = .ok (.iconst 2, 1) := by decide +kernel
theorem dL_453 : decode code 453 = .ok (.iadd, 1) := by decide +kernel
theorem dL_454 : decode code 454 = .ok (.iaload, 1) := by decide +kernel
theorem dL_455 : decode code 455 = .ok (.aload_n 0, 1) := by decide +kernel
theorem dL_456 : decode code 456 = .ok (.iload_n 3, 1) := by decide +kernel
theorem dL_457 : decode code 457 = .ok (.iconst 3, 1) := by decide +kernel
theorem dL_458 : decode code 458 = .ok (.iadd, 1) := by decide +kernel
theorem dL_459 : decode code 459 = .ok (.iaload, 1) := by decide +kernel
theorem dL_460 : decode code 460 = .ok (.invokevirtual 47, 3) := by decide +kernel
theorem dL_463 : decode code 463 = .ok (.if_icmp .eq 940, 3) := by decide +kernel
theorem dL_466 : decode code 466 = .ok (.iconst 0, 1) := by decide +kernel
theorem dL_467 : decode code 467 = .ok (.ireturn, 1) := by decide +kernel
theorem dL_468 : decode code 468 = .ok (.aload_n 1, 1) := by decide +kernel
theorem dL_469 : decode code 469 = .ok (.aload_n 0, 1) := by decide +kernel
