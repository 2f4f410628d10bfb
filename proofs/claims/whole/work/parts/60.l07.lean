theorem d_L_law_577 : decode M_L_law.2.1 577 = .ok (.aload_n 2, 1) := by decide +kernel
theorem d_L_law_578 : decode M_L_law.2.1 578 = .ok (.aload_n 0, 1) := by decide +kernel
theorem d_L_law_579 : decode M_L_law.2.1 579 = .ok (.iload_n 3, 1) := by decide +kernel
theorem d_L_law_580 : decode M_L_law.2.1 580 = .ok (.iconst 1, 1) := by decide +kernel
theorem d_L_law_581 : decode M_L_law.2.1 581 = .ok (.iadd, 1) := by decide +kernel
theorem d_L_law_582 : decode M_L_law.2.1 582 = .ok (.iaload, 1) := by decide +kernel
theorem d_L_law_583 : decode M_L_law.2.1 583 = .ok (.aload_n 0, 1) := by decide +kernel
theorem d_L_law_584 : decode M_L_law.2.1 584 = .ok (.iload_n 3, 1) := by decide +kernel
theorem d_L_law_585 : decode M_L_law.2.1 585 = .ok (.iconst 2, 1) := by decide +kernel
theorem d_L_law_586 : decode M_L_law.2.1 586 = .ok (.iadd, 1) := by decide +kernel
theorem d_L_law_587 : decode M_L_law.2.1 587 = .ok (.iaload, 1) := by decide +kernel
theorem d_L_law_588 : decode M_L_law.2.1 588 = .ok (.aload_n 0, 1) := by decide +kernel
theorem d_L_law_589 : decode M_L_law.2.1 589 = .ok (.iload_n 3, 1) := by decide +kernel
theorem d_L_law_590 : decode M_L_law.2.1 590 = .ok (.iconst 3, 1) := by decide +kernel
theorem d_L_law_591 : decode M_L_law.2.1 591 = .ok (.iadd, 1) := by decide +kernel
theorem d_L_law_592 : decode M_L_law.2.1 592 = .ok (.iaload, 1) := by decide +kernel
theorem d_L_law_593 : decode M_L_law.2.1 593 = .ok (.aload_n 0, 1) := by decide +kernel
theorem d_L_law_594 : decode M_L_law.2.1 594 = .ok (.iload_n 3, 1) := by decide +kernel
theorem d_L_law_595 : decode M_L_law.2.1 595 = .ok (.iconst 4, 1) := by decide +kernel
theorem d_L_law_596 : decode M_L_law.2.1 596 = .ok (.iadd, 1) := by decide +kernel
theorem d_L_law_597 : decode M_L_law.2.1 597 = .ok (.iaload, 1) := by decide +kernel
theorem d_L_law_598 : decode M_L_law.2.1 598 = .ok (.aload_n 0, 1) := by decide +kernel
theorem d_L_law_599 : decode M_L_law.2.1 599 = .ok (.iload_n 3, 1) := by decide +kernel
theorem d_L_law_600 : decode M_L_law.2.1 600 = .ok (.iconst 5, 1) := by decide +kernel
theorem d_L_law_601 : decode M_L_law.2.1 601 = .ok (.iadd, 1) := by decide +kernel
theorem d_L_law_602 : decode M_L_law.2.1 602 = .ok (.iaload, 1) := by decide +kernel
theorem d_L_law_603 : decode M_L_law.2.1 603 = .ok (.aload_n 0, 1) := by decide +kernel
theorem d_L_law_604 : decode M_L_law.2.1 604 = .ok (.iload_n 3, 1) := by decide +kernel
theorem d_L_law_605 : decode M_L_law.2.1 605 = .ok (.bipush 6, 2) := by decide +kernel
theorem d_L_law_607 : decode M_L_law.2.1 607 = .ok (.iadd, 1) := by decide +kernel
theorem d_L_law_608 : decode M_L_law.2.1 608 = .ok (.iaload, 1) := by decide +kernel
theorem d_L_law_609 : decode M_L_law.2.1 609 = .ok (.aload_n 0, 1) := by decide +kernel
theorem d_L_law_610 : decode M_L_law.2.1 610 = .ok (.iload_n 3, 1) := by decide +kernel
theorem d_L_law_611 : decode M_L_law.2.1 611 = .ok (.bipush 7, 2) := by decide +kernel
theorem d_L_law_613 : decode M_L_law.2.1 613 = .ok (.iadd, 1) := by decide +kernel
theorem d_L_law_614 : decode M_L_law.2.1 614 = .ok (.iaload, 1) := by decide +kernel
theorem d_L_law_615 : decode M_L_law.2.1 615 = .ok (.aload_n 0, 1) := by decide +kernel
theorem d_L_law_616 : decode M_L_law.2.1 616 = .ok (.iload_n 3, 1) := by decide +kernel
theorem d_L_law_617 : decode M_L_law.2.1 617 = .ok (.bipush 8, 2) := by decide +kernel
theorem d_L_law_619 : decode M_L_law.2.1 619 = .ok (.iadd, 1) := by decide +kernel
theorem d_L_law_620 : decode M_L_law.2.1 620 = .ok (.iaload, 1) := by decide +kernel
theorem d_L_law_621 : decode M_L_law.2.1 621 = .ok (.invokevirtual 63, 3) := by decide +kernel
theorem d_L_law_624 : decode M_L_law.2.1 624 = .ok (.if_icmp .eq 483, 3) := by decide +kernel
theorem d_L_law_627 : decode M_L_law.2.1 627 = .ok (.iconst 0, 1) := by decide +kernel
theorem d_L_law_628 : decode M_L_law.2.1 628 = .ok (.ireturn, 1) := by decide +kernel
theorem d_L_law_629 : decode M_L_law.2.1 629 = .ok (.aload_n 1, 1) := by decide +kernel
theorem d_L_law_630 : decode M_L_law.2.1 630 = .ok (.aload_n 0, 1) := by decide +kernel
theorem d_L_law_631 : decode M_L_law.2.1 631 = .ok (.iload_n 3, 1) := by decide +kernel
theorem d_L_law_632 : decode M_L_law.2.1 632 = .ok (.iconst 1, 1) := by decide +kernel
theorem d_L_law_633 : decode M_L_law.2.1 633 = .ok (.iadd, 1) := by decide +kernel
theorem d_L_law_634 : decode M_L_law.2.1 634 = .ok (.iaload, 1) := by decide +kernel
theorem d_L_law_635 : decode M_L_law.2.1 635 = .ok (.invokevirtual 64, 3) := by decide +kernel
theorem d_L_law_638 : decode M_L_law.2.1 638 = .ok (.aload_n 2, 1) := by decide +kernel
theorem d_L_law_639 : decode M_L_law.2.1 639 = .ok (.aload_n 0, 1) := by decide +kernel
theorem d_L_law_640 : decode M_L_law.2.1 640 = .ok (.iload_n 3, 1) := by decide +kernel
theorem d_L_law_641 : decode M_L_law.2.1 641 = .ok (.iconst 1, 1) := by decide +kernel
theorem d_L_law_642 : decode M_L_law.2.1 642 = .ok (.iadd, 1) := by decide +kernel
theorem d_L_law_643 : decode M_L_law.2.1 643 = .ok (.iaload, 1) := by decide +kernel
theorem d_L_law_644 : decode M_L_law.2.1 644 = .ok (.invokevirtual 67, 3) := by decide +kernel
theorem d_L_law_647 : decode M_L_law.2.1 647 = .ok (.if_icmp .eq 460, 3) := by decide +kernel
