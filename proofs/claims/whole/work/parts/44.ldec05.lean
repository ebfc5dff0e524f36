theorem dL_law_535 : decode code 535 = .ok (.iconst 1, 1) := by decide +kernel
theorem dL_law_536 : decode code 536 = .ok (.iadd, 1) := by decide +kernel
theorem dL_law_537 : decode code 537 = .ok (.iaload, 1) := by decide +kernel
theorem dL_law_538 : decode code 538 = .ok (.aload_n 0, 1) := by decide +kernel
theorem dL_law_539 : decode code 539 = .ok (.iload 4, 2) := by decide +kernel
theorem dL_law_541 : decode code 541 = .ok (.iconst 2, 1) := by decide +kernel
theorem dL_law_542 : decode code 542 = .ok (.iadd, 1) := by decide +kernel
theorem dL_law_543 : decode code 543 = .ok (.iaload, 1) := by decide +kernel
theorem dL_law_544 : decode code 544 = .ok (.i2l, 1) := by decide +kernel
theorem dL_law_545 : decode code 545 = .ok (.bipush 32, 2) := by decide +kernel
theorem dL_law_547 : decode code 547 = .ok (.lshl, 1) := by decide +kernel
theorem dL_law_548 : decode code 548 = .ok (.aload_n 0, 1) := by decide +kernel
theorem dL_law_549 : decode code 549 = .ok (.iload 4, 2) := by decide +kernel
theorem dL_law_551 : decode code 551 = .ok (.iconst 3, 1) := by decide +kernel
theorem dL_law_552 : decode code 552 = .ok (.iadd, 1) := by decide +kernel
theorem dL_law_553 : decode code 553 = .ok (.iaload, 1) := by decide +kernel
theorem dL_law_554 : decode code 554 = .ok (.i2l, 1) := by decide +kernel
theorem dL_law_555 : decode code 555 = .ok (.ldc2_w 91, 3) := by decide +kernel
theorem dL_law_558 : decode code 558 = .ok (.land, 1) := by decide +kernel
theorem dL_law_559 : decode code 559 = .ok (.lor, 1) := by decide +kernel
theorem dL_law_560 : decode code 560 = .ok (.invokevirtual 106, 3) := by decide +kernel
theorem dL_law_563 : decode code 563 = .ok (.aload_n 2, 1) := by decide +kernel
theorem dL_law_564 : decode code 564 = .ok (.invokevirtual 75, 3) := by decide +kernel
theorem dL_law_567 : decode code 567 = .ok (.iload 5, 2) := by decide +kernel
theorem dL_law_569 : decode code 569 = .ok (.if_icmp .eq 5, 3) := by decide +kernel
theorem dL_law_572 : decode code 572 = .ok (.iconst 0, 1) := by decide +kernel
theorem dL_law_573 : decode code 573 = .ok (.ireturn, 1) := by decide +kernel
theorem dL_law_574 : decode code 574 = .ok (.goto 506, 3) := by decide +kernel
theorem dL_law_577 : decode code 577 = .ok (.aload_n 1, 1) := by decide +kernel
theorem dL_law_578 : decode code 578 = .ok (.aload_n 0, 1) := by decide +kernel
theorem dL_law_579 : decode code 579 = .ok (.iload 4, 2) := by decide +kernel
theorem dL_law_581 : decode code 581 = .ok (.iconst 1, 1) := by decide +kernel
theorem dL_law_582 : decode code 582 = .ok (.iadd, 1) := by decide +kernel
theorem dL_law_583 : decode code 583 = .ok (.iaload, 1) := by decide +kernel
theorem dL_law_584 : decode code 584 = .ok (.aload_n 3, 1) := by decide +kernel
theorem dL_law_585 : decode code 585 = .ok (.invokestatic 107, 3) := by decide +kernel
theorem dL_law_588 : decode code 588 = .ok (.istore 5, 2) := by decide +kernel
theorem dL_law_590 : decode code 590 = .ok (.aload_n 2, 1) := by decide +kernel
theorem dL_law_591 : decode code 591 = .ok (.aload_n 0, 1) := by decide +kernel
theorem dL_law_592 : decode code 592 = .ok (.iload 4, 2) := by decide +kernel
theorem dL_law_594 : decode code 594 = .ok (.iconst 1, 1) := by decide +kernel
theorem dL_law_595 : decode code 595 = .ok (.iadd, 1) := by decide +kernel
theorem dL_law_596 : decode code 596 = .ok (.iaload, 1) := by decide +kernel
theorem dL_law_597 : decode code 597 = .ok (.invokevirtual 109, 3) := by decide +kernel
theorem dL_law_600 : decode code 600 = .ok (.lstore 6, 2) := by decide +kernel
theorem dL_law_602 : decode code 602 = .ok (.aload_n 2, 1) := by decide +kernel
theorem dL_law_603 : decode code 603 = .ok (.invokevirtual 75, 3) := by decide +kernel
theorem dL_law_606 : decode code 606 = .ok (.iload 5, 2) := by decide +kernel
theorem dL_law_608 : decode code 608 = .ok (.if_icmp .eq 5, 3) := by decide +kernel
theorem dL_law_611 : decode code 611 = .ok (.iconst 0, 1) := by decide +kernel
theorem dL_law_612 : decode code 612 = .ok (.ireturn, 1) := by decide +kernel
theorem dL_law_613 : decode code 613 = .ok (.iload 5, 2) := by decide +kernel
theorem dL_law_615 : decode code 615 = .ok (.ifCond .ne 14, 3) := by decide +kernel
theorem dL_law_618 : decode code 618 = .ok (.aload_n 3, 1) := by decide +kernel
theorem dL_law_619 : decode code 619 = .ok (.iconst 0, 1) := by decide +kernel
theorem dL_law_620 : decode code 620 = .ok (.laload, 1) := by decide +kernel
theorem dL_law_621 : decode code 621 = .ok (.lload 6, 2) := by decide +kernel
theorem dL_law_623 : decode code 623 = .ok (.lcmp, 1) := by decide +kernel
theorem dL_law_624 : decode code 624 = .ok (.ifCond .eq 5, 3) := by decide +kernel
theorem dL_law_627 : decode code 627 = .ok (.iconst 0, 1) := by decide +kernel
