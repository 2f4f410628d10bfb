theorem d_L_law_506 : decode M_L_law.2.1 506 = .ok (.ireturn, 1) := by decide +kernel
theorem d_L_law_507 : decode M_L_law.2.1 507 = .ok (.aload_n 1, 1) := by decide +kernel
theorem d_L_law_508 : decode M_L_law.2.1 508 = .ok (.aload_n 0, 1) := by decide +kernel
theorem d_L_law_509 : decode M_L_law.2.1 509 = .ok (.iload_n 3, 1) := by decide +kernel
theorem d_L_law_510 : decode M_L_law.2.1 510 = .ok (.iconst 1, 1) := by decide +kernel
theorem d_L_law_511 : decode M_L_law.2.1 511 = .ok (.iadd, 1) := by decide +kernel
theorem d_L_law_512 : decode M_L_law.2.1 512 = .ok (.iaload, 1) := by decide +kernel
theorem d_L_law_513 : decode M_L_law.2.1 513 = .ok (.invokevirtual 55, 3) := by decide +kernel
theorem d_L_law_516 : decode M_L_law.2.1 516 = .ok (.aload_n 2, 1) := by decide +kernel
theorem d_L_law_517 : decode M_L_law.2.1 517 = .ok (.aload_n 0, 1) := by decide +kernel
theorem d_L_law_518 : decode M_L_law.2.1 518 = .ok (.iload_n 3, 1) := by decide +kernel
theorem d_L_law_519 : decode M_L_law.2.1 519 = .ok (.iconst 1, 1) := by decide +kernel
theorem d_L_law_520 : decode M_L_law.2.1 520 = .ok (.iadd, 1) := by decide +kernel
theorem d_L_law_521 : decode M_L_law.2.1 521 = .ok (.iaload, 1) := by decide +kernel
theorem d_L_law_522 : decode M_L_law.2.1 522 = .ok (.invokevirtual 58, 3) := by decide +kernel
theorem d_L_law_525 : decode M_L_law.2.1 525 = .ok (.if_icmp .eq 582, 3) := by decide +kernel
theorem d_L_law_528 : decode M_L_law.2.1 528 = .ok (.iconst 0, 1) := by decide +kernel
theorem d_L_law_529 : decode M_L_law.2.1 529 = .ok (.ireturn, 1) := by decide +kernel
theorem d_L_law_530 : decode M_L_law.2.1 530 = .ok (.aload_n 1, 1) := by decide +kernel
theorem d_L_law_531 : decode M_L_law.2.1 531 = .ok (.aload_n 0, 1) := by decide +kernel
theorem d_L_law_532 : decode M_L_law.2.1 532 = .ok (.iload_n 3, 1) := by decide +kernel
theorem d_L_law_533 : decode M_L_law.2.1 533 = .ok (.iconst 1, 1) := by decide +kernel
theorem d_L_law_534 : decode M_L_law.2.1 534 = .ok (.iadd, 1) := by decide +kernel
theorem d_L_law_535 : decode M_L_law.2.1 535 = .ok (.iaload, 1) := by decide +kernel
theorem d_L_law_536 : decode M_L_law.2.1 536 = .ok (.aload_n 0, 1) := by decide +kernel
theorem d_L_law_537 : decode M_L_law.2.1 537 = .ok (.iload_n 3, 1) := by decide +kernel
theorem d_L_law_538 : decode M_L_law.2.1 538 = .ok (.iconst 2, 1) := by decide +kernel
theorem d_L_law_539 : decode M_L_law.2.1 539 = .ok (.iadd, 1) := by decide +kernel
theorem d_L_law_540 : decode M_L_law.2.1 540 = .ok (.iaload, 1) := by decide +kernel
theorem d_L_law_541 : decode M_L_law.2.1 541 = .ok (.aload_n 0, 1) := by decide +kernel
theorem d_L_law_542 : decode M_L_law.2.1 542 = .ok (.iload_n 3, 1) := by decide +kernel
theorem d_L_law_543 : decode M_L_law.2.1 543 = .ok (.iconst 3, 1) := by decide +kernel
theorem d_L_law_544 : decode M_L_law.2.1 544 = .ok (.iadd, 1) := by decide +kernel
theorem d_L_law_545 : decode M_L_law.2.1 545 = .ok (.iaload, 1) := by decide +kernel
theorem d_L_law_546 : decode M_L_law.2.1 546 = .ok (.aload_n 0, 1) := by decide +kernel
theorem d_L_law_547 : decode M_L_law.2.1 547 = .ok (.iload_n 3, 1) := by decide +kernel
theorem d_L_law_548 : decode M_L_law.2.1 548 = .ok (.iconst 4, 1) := by decide +kernel
theorem d_L_law_549 : decode M_L_law.2.1 549 = .ok (.iadd, 1) := by decide +kernel
theorem d_L_law_550 : decode M_L_law.2.1 550 = .ok (.iaload, 1) := by decide +kernel
theorem d_L_law_551 : decode M_L_law.2.1 551 = .ok (.aload_n 0, 1) := by decide +kernel
theorem d_L_law_552 : decode M_L_law.2.1 552 = .ok (.iload_n 3, 1) := by decide +kernel
theorem d_L_law_553 : decode M_L_law.2.1 553 = .ok (.iconst 5, 1) := by decide +kernel
theorem d_L_law_554 : decode M_L_law.2.1 554 = .ok (.iadd, 1) := by decide +kernel
theorem d_L_law_555 : decode M_L_law.2.1 555 = .ok (.iaload, 1) := by decide +kernel
theorem d_L_law_556 : decode M_L_law.2.1 556 = .ok (.aload_n 0, 1) := by decide +kernel
theorem d_L_law_557 : decode M_L_law.2.1 557 = .ok (.iload_n 3, 1) := by decide +kernel
theorem d_L_law_558 : decode M_L_law.2.1 558 = .ok (.bipush 6, 2) := by decide +kernel
theorem d_L_law_560 : decode M_L_law.2.1 560 = .ok (.iadd, 1) := by decide +kernel
theorem d_L_law_561 : decode M_L_law.2.1 561 = .ok (.iaload, 1) := by decide +kernel
theorem d_L_law_562 : decode M_L_law.2.1 562 = .ok (.aload_n 0, 1) := by decide +kernel
theorem d_L_law_563 : decode M_L_law.2.1 563 = .ok (.iload_n 3, 1) := by decide +kernel
theorem d_L_law_564 : decode M_L_law.2.1 564 = .ok (.bipush 7, 2) := by decide +kernel
theorem d_L_law_566 : decode M_L_law.2.1 566 = .ok (.iadd, 1) := by decide +kernel
theorem d_L_law_567 : decode M_L_law.2.1 567 = .ok (.iaload, 1) := by decide +kernel
theorem d_L_law_568 : decode M_L_law.2.1 568 = .ok (.aload_n 0, 1) := by decide +kernel
theorem d_L_law_569 : decode M_L_law.2.1 569 = .ok (.iload_n 3, 1) := by decide +kernel
theorem d_L_law_570 : decode M_L_law.2.1 570 = .ok (.bipush 8, 2) := by decide +kernel
theorem d_L_law_572 : decode M_L_law.2.1 572 = .ok (.iadd, 1) := by decide +kernel
theorem d_L_law_573 : decode M_L_law.2.1 573 = .ok (.iaload, 1) := by decide +kernel
theorem d_L_law_574 : decode M_L_law.2.1 574 = .ok (.invokevirtual 59, 3) := by decide +kernel
