theorem dl_572 : decode code 572 = .ok (.iaload, 1) := by decide +kernel
theorem dl_573 : decode code 573 = .ok (.invokevirtual 62, 3) := by decide +kernel
theorem dl_576 : decode code 576 = .ok (.if_icmp .eq 280, 3) := by decide +kernel
theorem dl_579 : decode code 579 = .ok (.iconst 0, 1) := by decide +kernel
theorem dl_580 : decode code 580 = .ok (.ireturn, 1) := by decide +kernel
theorem dl_581 : decode code 581 = .ok (.aload_n 1, 1) := by decide +kernel
theorem dl_582 : decode code 582 = .ok (.aload_n 0, 1) := by decide +kernel
theorem dl_583 : decode code 583 = .ok (.iload_n 3, 1) := by decide +kernel
theorem dl_584 : decode code 584 = .ok (.iconst 1, 1) := by decide +kernel
theorem dl_585 : decode code 585 = .ok (.iadd, 1) := by decide +kernel
theorem dl_586 : decode code 586 = .ok (.iaload, 1) := by decide +kernel
theorem dl_587 : decode code 587 = .ok (.aload_n 0, 1) := by decide +kernel
theorem dl_588 : decode code 588 = .ok (.iload_n 3, 1) := by decide +kernel
theorem dl_589 : decode code 589 = .ok (.iconst 2, 1) := by decide +kernel
theorem dl_590 : decode code 590 = .ok (.iadd, 1) := by decide +kernel
theorem dl_591 : decode code 591 = .ok (.iaload, 1) := by decide +kernel
theorem dl_592 : decode code 592 = .ok (.aload_n 0, 1) := by decide +kernel
theorem dl_593 : decode code 593 = .ok (.iload_n 3, 1) := by decide +kernel
theorem dl_594 : decode code 594 = .ok (.iconst 3, 1) := by decide +kernel
theorem dl_595 : decode code 595 = .ok (.iadd, 1) := by decide +kernel
theorem dl_596 : decode code 596 = .ok (.iaload, 1) := by decide +kernel
theorem dl_597 : decode code 597 = .ok (.invokevirtual 63, 3) := by decide +kernel
theorem dl_600 : decode code 600 = .ok (.aload_n 2, 1) := by decide +kernel
theorem dl_601 : decode code 601 = .ok (.aload_n 0, 1) := by decide +kernel
theorem dl_602 : decode code 602 = .ok (.iload_n 3, 1) := by decide +kernel
theorem dl_603 : decode code 603 = .ok (.iconst 1, 1) := by decide +kernel
theorem dl_604 : decode code 604 = .ok (.iadd, 1) := by decide +kernel
theorem dl_605 : decode code 605 = .ok (.iaload, 1) := by decide +kernel
theorem dl_606 : decode code 606 = .ok (.aload_n 0, 1) := by decide +kernel
theorem dl_607 : decode code 607 = .ok (.iload_n 3, 1) := by decide +kernel
theorem dl_608 : decode code 608 = .ok (.iconst 2, 1) := by decide +kernel
theorem dl_609 : decode code 609 = .ok (.iadd, 1) := by decide +kernel
theorem dl_610 : decode code 610 = .ok (.iaload, 1) := by decide +kernel
theorem dl_611 : decode code 611 = .ok (.aload_n 0, 1) := by decide +kernel
theorem dl_612 : decode code 612 = .ok (.iload_n 3, 1) := by decide +kernel
theorem dl_613 : decode code 613 = .ok (.iconst 3, 1) := by decide +kernel
theorem dl_614 : decode code 614 = .ok (.iadd, 1) := by decide +kernel
theorem dl_615 : decode code 615 = .ok (.iaload, 1) := by decide +kernel
theorem dl_616 : decode code 616 = .ok (.invokevirtual 66, 3) := by decide +kernel
theorem dl_619 : decode code 619 = .ok (.if_icmp .eq 237, 3) := by decide +kernel
theorem dl_622 : decode code 622 = .ok (.iconst 0, 1) := by decide +kernel
theorem dl_623 : decode code 623 = .ok (.ireturn, 1) := by decide +kernel
theorem dl_624 : decode code 624 = .ok (.aload_n 1, 1) := by decide +kernel
theorem dl_625 : decode code 625 = .ok (.aload_n 0, 1) := by decide +kernel
theorem dl_626 : decode code 626 = .ok (.iload_n 3, 1) := by decide +kernel
theorem dl_627 : decode code 627 = .ok (.iconst 1, 1) := by decide +kernel
theorem dl_628 : decode code 628 = .ok (.iadd, 1) := by decide +kernel
theorem dl_629 : decode code 629 = .ok (.iaload, 1) := by decide +kernel
theorem dl_630 : decode code 630 = .ok (.aload_n 0, 1) := by decide +kernel
theorem dl_631 : decode code 631 = .ok (.iload_n 3, 1) := by decide +kernel
theorem dl_632 : decode code 632 = .ok (.iconst 2, 1) := by decide +kernel
theorem dl_633 : decode code 633 = .ok (.iadd, 1) := by decide +kernel
theorem dl_634 : decode code 634 = .ok (.iaload, 1) := by decide +kernel
theorem dl_635 : decode code 635 = .ok (.aload_n 0, 1) := by decide +kernel
theorem dl_636 : decode code 636 = .ok (.iload_n 3, 1) := by decide +kernel
theorem dl_637 : decode code 637 = .ok (.iconst 3, 1) := by decide +kernel
theorem dl_638 : decode code 638 = .ok (.iadd, 1) := by decide +kernel
theorem dl_639 : decode code 639 = .ok (.iaload, 1) := by decide +kernel
theorem dl_640 : decode code 640 = .ok (.aload_n 0, 1) := by decide +kernel
theorem dl_641 : decode code 641 = .ok (.iload_n 3, 1) := by decide +kernel
