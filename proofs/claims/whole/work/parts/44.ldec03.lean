theorem dL_law_363 : decode code 363 = .ok (.iload 4, 2) := by decide +kernel
theorem dL_law_365 : decode code 365 = .ok (.iconst 1, 1) := by decide +kernel
theorem dL_law_366 : decode code 366 = .ok (.iadd, 1) := by decide +kernel
theorem dL_law_367 : decode code 367 = .ok (.iaload, 1) := by decide +kernel
theorem dL_law_368 : decode code 368 = .ok (.invokevirtual 99, 3) := by decide +kernel
theorem dL_law_371 : decode code 371 = .ok (.aload_n 2, 1) := by decide +kernel
theorem dL_law_372 : decode code 372 = .ok (.invokevirtual 75, 3) := by decide +kernel
theorem dL_law_375 : decode code 375 = .ok (.iload 5, 2) := by decide +kernel
theorem dL_law_377 : decode code 377 = .ok (.if_icmp .eq 5, 3) := by decide +kernel
theorem dL_law_380 : decode code 380 = .ok (.iconst 0, 1) := by decide +kernel
theorem dL_law_381 : decode code 381 = .ok (.ireturn, 1) := by decide +kernel
theorem dL_law_382 : decode code 382 = .ok (.goto 698, 3) := by decide +kernel
theorem dL_law_385 : decode code 385 = .ok (.aload_n 1, 1) := by decide +kernel
theorem dL_law_386 : decode code 386 = .ok (.aload_n 0, 1) := by decide +kernel
theorem dL_law_387 : decode code 387 = .ok (.iload 4, 2) := by decide +kernel
theorem dL_law_389 : decode code 389 = .ok (.iconst 1, 1) := by decide +kernel
theorem dL_law_390 : decode code 390 = .ok (.iadd, 1) := by decide +kernel
theorem dL_law_391 : decode code 391 = .ok (.iaload, 1) := by decide +kernel
theorem dL_law_392 : decode code 392 = .ok (.i2l, 1) := by decide +kernel
theorem dL_law_393 : decode code 393 = .ok (.bipush 32, 2) := by decide +kernel
theorem dL_law_395 : decode code 395 = .ok (.lshl, 1) := by decide +kernel
theorem dL_law_396 : decode code 396 = .ok (.aload_n 0, 1) := by decide +kernel
theorem dL_law_397 : decode code 397 = .ok (.iload 4, 2) := by decide +kernel
theorem dL_law_399 : decode code 399 = .ok (.iconst 2, 1) := by decide +kernel
theorem dL_law_400 : decode code 400 = .ok (.iadd, 1) := by decide +kernel
theorem dL_law_401 : decode code 401 = .ok (.iaload, 1) := by decide +kernel
theorem dL_law_402 : decode code 402 = .ok (.i2l, 1) := by decide +kernel
theorem dL_law_403 : decode code 403 = .ok (.ldc2_w 91, 3) := by decide +kernel
theorem dL_law_406 : decode code 406 = .ok (.land, 1) := by decide +kernel
theorem dL_law_407 : decode code 407 = .ok (.lor, 1) := by decide +kernel
theorem dL_law_408 : decode code 408 = .ok (.aload_n 0, 1) := by decide +kernel
theorem dL_law_409 : decode code 409 = .ok (.iload 4, 2) := by decide +kernel
theorem dL_law_411 : decode code 411 = .ok (.iconst 3, 1) := by decide +kernel
theorem dL_law_412 : decode code 412 = .ok (.iadd, 1) := by decide +kernel
theorem dL_law_413 : decode code 413 = .ok (.iaload, 1) := by decide +kernel
theorem dL_law_414 : decode code 414 = .ok (.i2l, 1) := by decide +kernel
theorem dL_law_415 : decode code 415 = .ok (.bipush 32, 2) := by decide +kernel
theorem dL_law_417 : decode code 417 = .ok (.lshl, 1) := by decide +kernel
theorem dL_law_418 : decode code 418 = .ok (.aload_n 0, 1) := by decide +kernel
theorem dL_law_419 : decode code 419 = .ok (.iload 4, 2) := by decide +kernel
theorem dL_law_421 : decode code 421 = .ok (.iconst 4, 1) := by decide +kernel
theorem dL_law_422 : decode code 422 = .ok (.iadd, 1) := by decide +kernel
theorem dL_law_423 : decode code 423 = .ok (.iaload, 1) := by decide +kernel
theorem dL_law_424 : decode code 424 = .ok (.i2l, 1) := by decide +kernel
theorem dL_law_425 : decode code 425 = .ok (.ldc2_w 91, 3) := by decide +kernel
theorem dL_law_428 : decode code 428 = .ok (.land, 1) := by decide +kernel
theorem dL_law_429 : decode code 429 = .ok (.lor, 1) := by decide +kernel
theorem dL_law_430 : decode code 430 = .ok (.invokestatic 100, 3) := by decide +kernel
theorem dL_law_433 : decode code 433 = .ok (.istore 5, 2) := by decide +kernel
theorem dL_law_435 : decode code 435 = .ok (.aload_n 2, 1) := by decide +kernel
theorem dL_law_436 : decode code 436 = .ok (.aload_n 0, 1) := by decide +kernel
theorem dL_law_437 : decode code 437 = .ok (.iload 4, 2) := by decide +kernel
theorem dL_law_439 : decode code 439 = .ok (.iconst 1, 1) := by decide +kernel
theorem dL_law_440 : decode code 440 = .ok (.iadd, 1) := by decide +kernel
theorem dL_law_441 : decode code 441 = .ok (.iaload, 1) := by decide +kernel
theorem dL_law_442 : decode code 442 = .ok (.i2l, 1) := by decide +kernel
theorem dL_law_443 : decode code 443 = .ok (.bipush 32, 2) := by decide +kernel
theorem dL_law_445 : decode code 445 = .ok (.lshl, 1) := by decide +kernel
theorem dL_law_446 : decode code 446 = .ok (.aload_n 0, 1) := by decide +kernel
theorem dL_law_447 : decode code 447 = .ok (.iload 4, 2) := by decide +kernel
