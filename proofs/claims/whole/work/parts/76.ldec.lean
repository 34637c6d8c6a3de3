theorem dl_372 : decode code 372 = .ok (.iconst 1, 1) := by decide +kernel
theorem dl_373 : decode code 373 = .ok (.iadd, 1) := by decide +kernel
theorem dl_374 : decode code 374 = .ok (.iaload, 1) := by decide +kernel
theorem dl_375 : decode code 375 = .ok (.aload_n 0, 1) := by decide +kernel
theorem dl_376 : decode code 376 = .ok (.iload_n 3, 1) := by decide +kernel
theorem dl_377 : decode code 377 = .ok (.iconst 2, 1) := by decide +kernel
theorem dl_378 : decode code 378 = .ok (.iadd, 1) := by decide +kernel
theorem dl_379 : decode code 379 = .ok (.iaload, 1) := by decide +kernel
theorem dl_380 : decode code 380 = .ok (.aload_n 0, 1) := by decide +kernel
theorem dl_381 : decode code 381 = .ok (.iload_n 3, 1) := by decide +kernel
theorem dl_382 : decode code 382 = .ok (.iconst 3, 1) := by decide +kernel
theorem dl_383 : decode code 383 = .ok (.iadd, 1) := by decide +kernel
theorem dl_384 : decode code 384 = .ok (.iaload, 1) := by decide +kernel
theorem dl_385 : decode code 385 = .ok (.aload_n 0, 1) := by decide +kernel
theorem dl_386 : decode code 386 = .ok (.iload_n 3, 1) := by decide +kernel
theorem dl_387 : decode code 387 = .ok (.iconst 4, 1) := by decide +kernel
theorem dl_388 : decode code 388 = .ok (.iadd, 1) := by decide +kernel
theorem dl_389 : decode code 389 = .ok (.iaload, 1) := by decide +kernel
theorem dl_390 : decode code 390 = .ok (.invokevirtual 46, 3) := by decide +kernel
theorem dl_393 : decode code 393 = .ok (.aload_n 2, 1) := by decide +kernel
theorem dl_394 : decode code 394 = .ok (.aload_n 0, 1) := by decide +kernel
theorem dl_395 : decode code 395 = .ok (.iload_n 3, 1) := by decide +kernel
theorem dl_396 : decode code 396 = .ok (.iconst 1, 1) := by decide +kernel
theorem dl_397 : decode code 397 = .ok (.iadd, 1) := by decide +kernel
theorem dl_398 : decode code 398 = .ok (.iaload, 1) := by decide +kernel
theorem dl_399 : decode code 399 = .ok (.aload_n 0, 1) := by decide +kernel
theorem dl_400 : decode code 400 = .ok (.iload_n 3, 1) := by decide +kernel
theorem dl_401 : decode code 401 = .ok (.iconst 2, 1) := by decide +kernel
theorem dl_402 : decode code 402 = .ok (.iadd, 1) := by decide +kernel
theorem dl_403 : decode code 403 = .ok (.iaload, 1) := by decide +kernel
theorem dl_404 : decode code 404 = .ok (.aload_n 0, 1) := by decide +kernel
theorem dl_405 : decode code 405 = .ok (.iload_n 3, 1) := by decide +kernel
theorem dl_406 : decode code 406 = .ok (.iconst 3, 1) := by decide +kernel
theorem dl_407 : decode code 407 = .ok (.iadd, 1) := by decide +kernel
theorem dl_408 : decode code 408 = .ok (.iaload, 1) := by decide +kernel
theorem dl_409 : decode code 409 = .ok (.aload_n 0, 1) := by decide +kernel
theorem dl_410 : decode code 410 = .ok (.iload_n 3, 1) := by decide +kernel
theorem dl_411 : decode code 411 = .ok (.iconst 4, 1) := by decide +kernel
theorem dl_412 : decode code 412 = .ok (.iadd, 1) := by decide +kernel
theorem dl_413 : decode code 413 = .ok (.iaload, 1) := by decide +kernel
theorem dl_414 : decode code 414 = .ok (.invokevirtual 50, 3) := by decide +kernel
theorem dl_417 : decode code 417 = .ok (.if_icmp .eq 439, 3) := by decide +kernel
theorem dl_420 : decode code 420 = .ok (.iconst 0, 1) := by decide +kernel
theorem dl_421 : decode code 421 = .ok (.ireturn, 1) := by decide +kernel
theorem dl_422 : decode code 422 = .ok (.aload_n 1, 1) := by decide +kernel
theorem dl_423 : decode code 423 = .ok (.aload_n 0, 1) := by decide +kernel
theorem dl_424 : decode code 424 = .ok (.iload_n 3, 1) := by decide +kernel
theorem dl_425 : decode code 425 = .ok (.iconst 1, 1) := by decide +kernel
theorem dl_426 : decode code 426 = .ok (.iadd, 1) := by decide +kernel
theorem dl_427 : decode code 427 = .ok (.iaload, 1) := by decide +kernel
theorem dl_428 : decode code 428 = .ok (.aload_n 0, 1) := by decide +kernel
theorem dl_429 : decode code 429 = .ok (.iload_n 3, 1) := by decide +kernel
theorem dl_430 : decode code 430 = .ok (.iconst 2, 1) := by decide +kernel
theorem dl_431 : decode code 431 = .ok (.iadd, 1) := by decide +kernel
theorem dl_432 : decode code 432 = .ok (.iaload, 1) := by decide +kernel
theorem dl_433 : decode code 433 = .ok (.aload_n 0, 1) := by decide +kernel
theorem dl_434 : decode code 434 = .ok (.iload_n 3, 1) := by decide +kernel
theorem dl_435 : decode code 435 = .ok (.iconst 3, 1) := by decide +kernel
theorem dl_436 : decode code 436 = .ok (.iadd, 1) := by decide +kernel
theorem dl_437 : decode code 437 = .ok (.iaload, 1) := by decide +kernel
