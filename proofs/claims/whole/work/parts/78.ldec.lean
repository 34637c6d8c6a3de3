theorem dl_506 : decode code 506 = .ok (.iload_n 3, 1) := by decide +kernel
theorem dl_507 : decode code 507 = .ok (.iconst 2, 1) := by decide +kernel
theorem dl_508 : decode code 508 = .ok (.iadd, 1) := by decide +kernel
theorem dl_509 : decode code 509 = .ok (.iaload, 1) := by decide +kernel
theorem dl_510 : decode code 510 = .ok (.aload_n 0, 1) := by decide +kernel
theorem dl_511 : decode code 511 = .ok (.iload_n 3, 1) := by decide +kernel
theorem dl_512 : decode code 512 = .ok (.iconst 3, 1) := by decide +kernel
theorem dl_513 : decode code 513 = .ok (.iadd, 1) := by decide +kernel
theorem dl_514 : decode code 514 = .ok (.iaload, 1) := by decide +kernel
theorem dl_515 : decode code 515 = .ok (.aload_n 0, 1) := by decide +kernel
theorem dl_516 : decode code 516 = .ok (.iload_n 3, 1) := by decide +kernel
theorem dl_517 : decode code 517 = .ok (.iconst 4, 1) := by decide +kernel
theorem dl_518 : decode code 518 = .ok (.iadd, 1) := by decide +kernel
theorem dl_519 : decode code 519 = .ok (.iaload, 1) := by decide +kernel
theorem dl_520 : decode code 520 = .ok (.invokevirtual 58, 3) := by decide +kernel
theorem dl_523 : decode code 523 = .ok (.if_icmp .eq 333, 3) := by decide +kernel
theorem dl_526 : decode code 526 = .ok (.iconst 0, 1) := by decide +kernel
theorem dl_527 : decode code 527 = .ok (.ireturn, 1) := by decide +kernel
theorem dl_528 : decode code 528 = .ok (.aload_n 1, 1) := by decide +kernel
theorem dl_529 : decode code 529 = .ok (.aload_n 0, 1) := by decide +kernel
theorem dl_530 : decode code 530 = .ok (.iload_n 3, 1) := by decide +kernel
theorem dl_531 : decode code 531 = .ok (.iconst 1, 1) := by decide +kernel
theorem dl_532 : decode code 532 = .ok (.iadd, 1) := by decide +kernel
theorem dl_533 : decode code 533 = .ok (.iaload, 1) := by decide +kernel
theorem dl_534 : decode code 534 = .ok (.aload_n 0, 1) := by decide +kernel
theorem dl_535 : decode code 535 = .ok (.iload_n 3, 1) := by decide +kernel
theorem dl_536 : decode code 536 = .ok (.iconst 2, 1) := by decide +kernel
theorem dl_537 : decode code 537 = .ok (.iadd, 1) := by decide +kernel
theorem dl_538 : decode code 538 = .ok (.iaload, 1) := by decide +kernel
theorem dl_539 : decode code 539 = .ok (.aload_n 0, 1) := by decide +kernel
theorem dl_540 : decode code 540 = .ok (.iload_n 3, 1) := by decide +kernel
theorem dl_541 : decode code 541 = .ok (.iconst 3, 1) := by decide +kernel
theorem dl_542 : decode code 542 = .ok (.iadd, 1) := by decide +kernel
theorem dl_543 : decode code 543 = .ok (.iaload, 1) := by decide +kernel
theorem dl_544 : decode code 544 = .ok (.aload_n 0, 1) := by decide +kernel
theorem dl_545 : decode code 545 = .ok (.iload_n 3, 1) := by decide +kernel
theorem dl_546 : decode code 546 = .ok (.iconst 4, 1) := by decide +kernel
theorem dl_547 : decode code 547 = .ok (.iadd, 1) := by decide +kernel
theorem dl_548 : decode code 548 = .ok (.iaload, 1) := by decide +kernel
theorem dl_549 : decode code 549 = .ok (.invokevirtual 59, 3) := by decide +kernel
theorem dl_552 : decode code 552 = .ok (.aload_n 2, 1) := by decide +kernel
theorem dl_553 : decode code 553 = .ok (.aload_n 0, 1) := by decide +kernel
theorem dl_554 : decode code 554 = .ok (.iload_n 3, 1) := by decide +kernel
theorem dl_555 : decode code 555 = .ok (.iconst 1, 1) := by decide +kernel
theorem dl_556 : decode code 556 = .ok (.iadd, 1) := by decide +kernel
theorem dl_557 : decode code 557 = .ok (.iaload, 1) := by decide +kernel
theorem dl_558 : decode code 558 = .ok (.aload_n 0, 1) := by decide +kernel
theorem dl_559 : decode code 559 = .ok (.iload_n 3, 1) := by decide +kernel
theorem dl_560 : decode code 560 = .ok (.iconst 2, 1) := by decide +kernel
theorem dl_561 : decode code 561 = .ok (.iadd, 1) := by decide +kernel
theorem dl_562 : decode code 562 = .ok (.iaload, 1) := by decide +kernel
theorem dl_563 : decode code 563 = .ok (.aload_n 0, 1) := by decide +kernel
theorem dl_564 : decode code 564 = .ok (.iload_n 3, 1) := by decide +kernel
theorem dl_565 : decode code 565 = .ok (.iconst 3, 1) := by decide +kernel
theorem dl_566 : decode code 566 = .ok (.iadd, 1) := by decide +kernel
theorem dl_567 : decode code 567 = .ok (.iaload, 1) := by decide +kernel
theorem dl_568 : decode code 568 = .ok (.aload_n 0, 1) := by decide +kernel
theorem dl_569 : decode code 569 = .ok (.iload_n 3, 1) := by decide +kernel
theorem dl_570 : decode code 570 = .ok (.iconst 4, 1) := by decide +kernel
theorem dl_571 : decode code 571 = .ok (.iadd, 1) := by decide +kernel
