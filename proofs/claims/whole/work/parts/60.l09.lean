theorem d_L_law_730 : decode M_L_law.2.1 730 = .ok (.iaload, 1) := by decide +kernel
theorem d_L_law_731 : decode M_L_law.2.1 731 = .ok (.aload_n 0, 1) := by decide +kernel
theorem d_L_law_732 : decode M_L_law.2.1 732 = .ok (.iload_n 3, 1) := by decide +kernel
theorem d_L_law_733 : decode M_L_law.2.1 733 = .ok (.iconst 2, 1) := by decide +kernel
theorem d_L_law_734 : decode M_L_law.2.1 734 = .ok (.iadd, 1) := by decide +kernel
theorem d_L_law_735 : decode M_L_law.2.1 735 = .ok (.iaload, 1) := by decide +kernel
theorem d_L_law_736 : decode M_L_law.2.1 736 = .ok (.aload_n 0, 1) := by decide +kernel
theorem d_L_law_737 : decode M_L_law.2.1 737 = .ok (.iload_n 3, 1) := by decide +kernel
theorem d_L_law_738 : decode M_L_law.2.1 738 = .ok (.iconst 3, 1) := by decide +kernel
theorem d_L_law_739 : decode M_L_law.2.1 739 = .ok (.iadd, 1) := by decide +kernel
theorem d_L_law_740 : decode M_L_law.2.1 740 = .ok (.iaload, 1) := by decide +kernel
theorem d_L_law_741 : decode M_L_law.2.1 741 = .ok (.aload_n 0, 1) := by decide +kernel
theorem d_L_law_742 : decode M_L_law.2.1 742 = .ok (.iload_n 3, 1) := by decide +kernel
theorem d_L_law_743 : decode M_L_law.2.1 743 = .ok (.iconst 4, 1) := by decide +kernel
theorem d_L_law_744 : decode M_L_law.2.1 744 = .ok (.iadd, 1) := by decide +kernel
theorem d_L_law_745 : decode M_L_law.2.1 745 = .ok (.iaload, 1) := by decide +kernel
theorem d_L_law_746 : decode M_L_law.2.1 746 = .ok (.invokevirtual 84, 3) := by decide +kernel
theorem d_L_law_749 : decode M_L_law.2.1 749 = .ok (.if_icmp .eq 358, 3) := by decide +kernel
theorem d_L_law_752 : decode M_L_law.2.1 752 = .ok (.iconst 0, 1) := by decide +kernel
theorem d_L_law_753 : decode M_L_law.2.1 753 = .ok (.ireturn, 1) := by decide +kernel
theorem d_L_law_754 : decode M_L_law.2.1 754 = .ok (.aload_n 1, 1) := by decide +kernel
theorem d_L_law_755 : decode M_L_law.2.1 755 = .ok (.aload_n 0, 1) := by decide +kernel
theorem d_L_law_756 : decode M_L_law.2.1 756 = .ok (.iload_n 3, 1) := by decide +kernel
theorem d_L_law_757 : decode M_L_law.2.1 757 = .ok (.iconst 1, 1) := by decide +kernel
theorem d_L_law_758 : decode M_L_law.2.1 758 = .ok (.iadd, 1) := by decide +kernel
theorem d_L_law_759 : decode M_L_law.2.1 759 = .ok (.iaload, 1) := by decide +kernel
theorem d_L_law_760 : decode M_L_law.2.1 760 = .ok (.aload_n 0, 1) := by decide +kernel
theorem d_L_law_761 : decode M_L_law.2.1 761 = .ok (.iload_n 3, 1) := by decide +kernel
theorem d_L_law_762 : decode M_L_law.2.1 762 = .ok (.iconst 2, 1) := by decide +kernel
theorem d_L_law_763 : decode M_L_law.2.1 763 = .ok (.iadd, 1) := by decide +kernel
theorem d_L_law_764 : decode M_L_law.2.1 764 = .ok (.iaload, 1) := by decide +kernel
theorem d_L_law_765 : decode M_L_law.2.1 765 = .ok (.invokevirtual 85, 3) := by decide +kernel
theorem d_L_law_768 : decode M_L_law.2.1 768 = .ok (.aload_n 2, 1) := by decide +kernel
theorem d_L_law_769 : decode M_L_law.2.1 769 = .ok (.aload_n 0, 1) := by decide +kernel
theorem d_L_law_770 : decode M_L_law.2.1 770 = .ok (.iload_n 3, 1) := by decide +kernel
theorem d_L_law_771 : decode M_L_law.2.1 771 = .ok (.iconst 1, 1) := by decide +kernel
theorem d_L_law_772 : decode M_L_law.2.1 772 = .ok (.iadd, 1) := by decide +kernel
theorem d_L_law_773 : decode M_L_law.2.1 773 = .ok (.iaload, 1) := by decide +kernel
theorem d_L_law_774 : decode M_L_law.2.1 774 = .ok (.aload_n 0, 1) := by decide +kernel
theorem d_L_law_775 : decode M_L_law.2.1 775 = .ok (.iload_n 3, 1) := by decide +kernel
theorem d_L_law_776 : decode M_L_law.2.1 776 = .ok (.iconst 2, 1) := by decide +kernel
theorem d_L_law_777 : decode M_L_law.2.1 777 = .ok (.iadd, 1) := by decide +kernel
theorem d_L_law_778 : decode M_L_law.2.1 778 = .ok (.iaload, 1) := by decide +kernel
theorem d_L_law_779 : decode M_L_law.2.1 779 = .ok (.invokevirtual 89, 3) := by decide +kernel
theorem d_L_law_782 : decode M_L_law.2.1 782 = .ok (.if_icmp .eq 325, 3) := by decide +kernel
theorem d_L_law_785 : decode M_L_law.2.1 785 = .ok (.iconst 0, 1) := by decide +kernel
theorem d_L_law_786 : decode M_L_law.2.1 786 = .ok (.ireturn, 1) := by decide +kernel
theorem d_L_law_787 : decode M_L_law.2.1 787 = .ok (.aload_n 1, 1) := by decide +kernel
theorem d_L_law_788 : decode M_L_law.2.1 788 = .ok (.aload_n 0, 1) := by decide +kernel
theorem d_L_law_789 : decode M_L_law.2.1 789 = .ok (.iload_n 3, 1) := by decide +kernel
theorem d_L_law_790 : decode M_L_law.2.1 790 = .ok (.iconst 1, 1) := by decide +kernel
theorem d_L_law_791 : decode M_L_law.2.1 791 = .ok (.iadd, 1) := by decide +kernel
theorem d_L_law_792 : decode M_L_law.2.1 792 = .ok (.iaload, 1) := by decide +kernel
theorem d_L_law_793 : decode M_L_law.2.1 793 = .ok (.aload_n 0, 1) := by decide +kernel
theorem d_L_law_794 : decode M_L_law.2.1 794 = .ok (.iload_n 3, 1) := by decide +kernel
theorem d_L_law_795 : decode M_L_law.2.1 795 = .ok (.iconst 2, 1) := by decide +kernel
theorem d_L_law_796 : decode M_L_law.2.1 796 = .ok (.iadd, 1) := by decide +kernel
theorem d_L_law_797 : decode M_L_law.2.1 797 = .ok (.iaload, 1) := by decide +kernel
theorem d_L_law_798 : decode M_L_law.2.1 798 = .ok (.aload_n 0, 1) := by decide +kernel
theorem d_L_law_799 : decode M_L_law.2.1 799 = .ok (.iload_n 3, 1) := by decide +kernel
