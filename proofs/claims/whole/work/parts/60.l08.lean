theorem d_L_law_650 : decode M_L_law.2.1 650 = .ok (.iconst 0, 1) := by decide +kernel
theorem d_L_law_651 : decode M_L_law.2.1 651 = .ok (.ireturn, 1) := by decide +kernel
theorem d_L_law_652 : decode M_L_law.2.1 652 = .ok (.aload_n 1, 1) := by decide +kernel
theorem d_L_law_653 : decode M_L_law.2.1 653 = .ok (.aload_n 0, 1) := by decide +kernel
theorem d_L_law_654 : decode M_L_law.2.1 654 = .ok (.iload_n 3, 1) := by decide +kernel
theorem d_L_law_655 : decode M_L_law.2.1 655 = .ok (.iconst 1, 1) := by decide +kernel
theorem d_L_law_656 : decode M_L_law.2.1 656 = .ok (.iadd, 1) := by decide +kernel
theorem d_L_law_657 : decode M_L_law.2.1 657 = .ok (.iaload, 1) := by decide +kernel
theorem d_L_law_658 : decode M_L_law.2.1 658 = .ok (.invokevirtual 68, 3) := by decide +kernel
theorem d_L_law_661 : decode M_L_law.2.1 661 = .ok (.aload_n 2, 1) := by decide +kernel
theorem d_L_law_662 : decode M_L_law.2.1 662 = .ok (.aload_n 0, 1) := by decide +kernel
theorem d_L_law_663 : decode M_L_law.2.1 663 = .ok (.iload_n 3, 1) := by decide +kernel
theorem d_L_law_664 : decode M_L_law.2.1 664 = .ok (.iconst 1, 1) := by decide +kernel
theorem d_L_law_665 : decode M_L_law.2.1 665 = .ok (.iadd, 1) := by decide +kernel
theorem d_L_law_666 : decode M_L_law.2.1 666 = .ok (.iaload, 1) := by decide +kernel
theorem d_L_law_667 : decode M_L_law.2.1 667 = .ok (.invokevirtual 71, 3) := by decide +kernel
theorem d_L_law_670 : decode M_L_law.2.1 670 = .ok (.if_icmp .eq 437, 3) := by decide +kernel
theorem d_L_law_673 : decode M_L_law.2.1 673 = .ok (.iconst 0, 1) := by decide +kernel
theorem d_L_law_674 : decode M_L_law.2.1 674 = .ok (.ireturn, 1) := by decide +kernel
theorem d_L_law_675 : decode M_L_law.2.1 675 = .ok (.aload_n 1, 1) := by decide +kernel
theorem d_L_law_676 : decode M_L_law.2.1 676 = .ok (.invokevirtual 72, 3) := by decide +kernel
theorem d_L_law_679 : decode M_L_law.2.1 679 = .ok (.aload_n 2, 1) := by decide +kernel
theorem d_L_law_680 : decode M_L_law.2.1 680 = .ok (.invokevirtual 75, 3) := by decide +kernel
theorem d_L_law_683 : decode M_L_law.2.1 683 = .ok (.if_icmp .eq 424, 3) := by decide +kernel
theorem d_L_law_686 : decode M_L_law.2.1 686 = .ok (.iconst 0, 1) := by decide +kernel
theorem d_L_law_687 : decode M_L_law.2.1 687 = .ok (.ireturn, 1) := by decide +kernel
theorem d_L_law_688 : decode M_L_law.2.1 688 = .ok (.aload_n 1, 1) := by decide +kernel
theorem d_L_law_689 : decode M_L_law.2.1 689 = .ok (.invokevirtual 76, 3) := by decide +kernel
theorem d_L_law_692 : decode M_L_law.2.1 692 = .ok (.aload_n 2, 1) := by decide +kernel
theorem d_L_law_693 : decode M_L_law.2.1 693 = .ok (.invokevirtual 79, 3) := by decide +kernel
theorem d_L_law_696 : decode M_L_law.2.1 696 = .ok (.if_icmp .eq 411, 3) := by decide +kernel
theorem d_L_law_699 : decode M_L_law.2.1 699 = .ok (.iconst 0, 1) := by decide +kernel
theorem d_L_law_700 : decode M_L_law.2.1 700 = .ok (.ireturn, 1) := by decide +kernel
theorem d_L_law_701 : decode M_L_law.2.1 701 = .ok (.aload_n 1, 1) := by decide +kernel
theorem d_L_law_702 : decode M_L_law.2.1 702 = .ok (.aload_n 0, 1) := by decide +kernel
theorem d_L_law_703 : decode M_L_law.2.1 703 = .ok (.iload_n 3, 1) := by decide +kernel
theorem d_L_law_704 : decode M_L_law.2.1 704 = .ok (.iconst 1, 1) := by decide +kernel
theorem d_L_law_705 : decode M_L_law.2.1 705 = .ok (.iadd, 1) := by decide +kernel
theorem d_L_law_706 : decode M_L_law.2.1 706 = .ok (.iaload, 1) := by decide +kernel
theorem d_L_law_707 : decode M_L_law.2.1 707 = .ok (.aload_n 0, 1) := by decide +kernel
theorem d_L_law_708 : decode M_L_law.2.1 708 = .ok (.iload_n 3, 1) := by decide +kernel
theorem d_L_law_709 : decode M_L_law.2.1 709 = .ok (.iconst 2, 1) := by decide +kernel
theorem d_L_law_710 : decode M_L_law.2.1 710 = .ok (.iadd, 1) := by decide +kernel
theorem d_L_law_711 : decode M_L_law.2.1 711 = .ok (.iaload, 1) := by decide +kernel
theorem d_L_law_712 : decode M_L_law.2.1 712 = .ok (.aload_n 0, 1) := by decide +kernel
theorem d_L_law_713 : decode M_L_law.2.1 713 = .ok (.iload_n 3, 1) := by decide +kernel
theorem d_L_law_714 : decode M_L_law.2.1 714 = .ok (.iconst 3, 1) := by decide +kernel
theorem d_L_law_715 : decode M_L_law.2.1 715 = .ok (.iadd, 1) := by decide +kernel
theorem d_L_law_716 : decode M_L_law.2.1 716 = .ok (.iaload, 1) := by decide +kernel
theorem d_L_law_717 : decode M_L_law.2.1 717 = .ok (.aload_n 0, 1) := by decide +kernel
theorem d_L_law_718 : decode M_L_law.2.1 718 = .ok (.iload_n 3, 1) := by decide +kernel
theorem d_L_law_719 : decode M_L_law.2.1 719 = .ok (.iconst 4, 1) := by decide +kernel
theorem d_L_law_720 : decode M_L_law.2.1 720 = .ok (.iadd, 1) := by decide +kernel
theorem d_L_law_721 : decode M_L_law.2.1 721 = .ok (.iaload, 1) := by decide +kernel
theorem d_L_law_722 : decode M_L_law.2.1 722 = .ok (.invokevirtual 80, 3) := by decide +kernel
theorem d_L_law_725 : decode M_L_law.2.1 725 = .ok (.aload_n 2, 1) := by decide +kernel
theorem d_L_law_726 : decode M_L_law.2.1 726 = .ok (.aload_n 0, 1) := by decide +kernel
theorem d_L_law_727 : decode M_L_law.2.1 727 = .ok (.iload_n 3, 1) := by decide +kernel
theorem d_L_law_728 : decode M_L_law.2.1 728 = .ok (.iconst 1, 1) := by decide +kernel
theorem d_L_law_729 : decode M_L_law.2.1 729 = .ok (.iadd, 1) := by decide +kernel
