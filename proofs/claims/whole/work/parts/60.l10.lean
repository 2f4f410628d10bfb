theorem d_L_law_800 : decode M_L_law.2.1 800 = .ok (.iconst 3, 1) := by decide +kernel
theorem d_L_law_801 : decode M_L_law.2.1 801 = .ok (.iadd, 1) := by decide +kernel
theorem d_L_law_802 : decode M_L_law.2.1 802 = .ok (.iaload, 1) := by decide +kernel
theorem d_L_law_803 : decode M_L_law.2.1 803 = .ok (.invokevirtual 90, 3) := by decide +kernel
theorem d_L_law_806 : decode M_L_law.2.1 806 = .ok (.aload_n 2, 1) := by decide +kernel
theorem d_L_law_807 : decode M_L_law.2.1 807 = .ok (.aload_n 0, 1) := by decide +kernel
theorem d_L_law_808 : decode M_L_law.2.1 808 = .ok (.iload_n 3, 1) := by decide +kernel
theorem d_L_law_809 : decode M_L_law.2.1 809 = .ok (.iconst 1, 1) := by decide +kernel
theorem d_L_law_810 : decode M_L_law.2.1 810 = .ok (.iadd, 1) := by decide +kernel
theorem d_L_law_811 : decode M_L_law.2.1 811 = .ok (.iaload, 1) := by decide +kernel
theorem d_L_law_812 : decode M_L_law.2.1 812 = .ok (.aload_n 0, 1) := by decide +kernel
theorem d_L_law_813 : decode M_L_law.2.1 813 = .ok (.iload_n 3, 1) := by decide +kernel
theorem d_L_law_814 : decode M_L_law.2.1 814 = .ok (.iconst 2, 1) := by decide +kernel
theorem d_L_law_815 : decode M_L_law.2.1 815 = .ok (.iadd, 1) := by decide +kernel
theorem d_L_law_816 : decode M_L_law.2.1 816 = .ok (.iaload, 1) := by decide +kernel
theorem d_L_law_817 : decode M_L_law.2.1 817 = .ok (.aload_n 0, 1) := by decide +kernel
theorem d_L_law_818 : decode M_L_law.2.1 818 = .ok (.iload_n 3, 1) := by decide +kernel
theorem d_L_law_819 : decode M_L_law.2.1 819 = .ok (.iconst 3, 1) := by decide +kernel
theorem d_L_law_820 : decode M_L_law.2.1 820 = .ok (.iadd, 1) := by decide +kernel
theorem d_L_law_821 : decode M_L_law.2.1 821 = .ok (.iaload, 1) := by decide +kernel
theorem d_L_law_822 : decode M_L_law.2.1 822 = .ok (.invokevirtual 94, 3) := by decide +kernel
theorem d_L_law_825 : decode M_L_law.2.1 825 = .ok (.if_icmp .eq 282, 3) := by decide +kernel
theorem d_L_law_828 : decode M_L_law.2.1 828 = .ok (.iconst 0, 1) := by decide +kernel
theorem d_L_law_829 : decode M_L_law.2.1 829 = .ok (.ireturn, 1) := by decide +kernel
theorem d_L_law_830 : decode M_L_law.2.1 830 = .ok (.aload_n 1, 1) := by decide +kernel
theorem d_L_law_831 : decode M_L_law.2.1 831 = .ok (.aload_n 0, 1) := by decide +kernel
theorem d_L_law_832 : decode M_L_law.2.1 832 = .ok (.iload_n 3, 1) := by decide +kernel
theorem d_L_law_833 : decode M_L_law.2.1 833 = .ok (.iconst 1, 1) := by decide +kernel
theorem d_L_law_834 : decode M_L_law.2.1 834 = .ok (.iadd, 1) := by decide +kernel
theorem d_L_law_835 : decode M_L_law.2.1 835 = .ok (.iaload, 1) := by decide +kernel
theorem d_L_law_836 : decode M_L_law.2.1 836 = .ok (.aload_n 0, 1) := by decide +kernel
theorem d_L_law_837 : decode M_L_law.2.1 837 = .ok (.iload_n 3, 1) := by decide +kernel
theorem d_L_law_838 : decode M_L_law.2.1 838 = .ok (.iconst 2, 1) := by decide +kernel
theorem d_L_law_839 : decode M_L_law.2.1 839 = .ok (.iadd, 1) := by decide +kernel
theorem d_L_law_840 : decode M_L_law.2.1 840 = .ok (.iaload, 1) := by decide +kernel
theorem d_L_law_841 : decode M_L_law.2.1 841 = .ok (.aload_n 0, 1) := by decide +kernel
theorem d_L_law_842 : decode M_L_law.2.1 842 = .ok (.iload_n 3, 1) := by decide +kernel
theorem d_L_law_843 : decode M_L_law.2.1 843 = .ok (.iconst 3, 1) := by decide +kernel
theorem d_L_law_844 : decode M_L_law.2.1 844 = .ok (.iadd, 1) := by decide +kernel
theorem d_L_law_845 : decode M_L_law.2.1 845 = .ok (.iaload, 1) := by decide +kernel
theorem d_L_law_846 : decode M_L_law.2.1 846 = .ok (.invokevirtual 95, 3) := by decide +kernel
theorem d_L_law_849 : decode M_L_law.2.1 849 = .ok (.aload_n 2, 1) := by decide +kernel
theorem d_L_law_850 : decode M_L_law.2.1 850 = .ok (.aload_n 0, 1) := by decide +kernel
theorem d_L_law_851 : decode M_L_law.2.1 851 = .ok (.iload_n 3, 1) := by decide +kernel
theorem d_L_law_852 : decode M_L_law.2.1 852 = .ok (.iconst 1, 1) := by decide +kernel
theorem d_L_law_853 : decode M_L_law.2.1 853 = .ok (.iadd, 1) := by decide +kernel
theorem d_L_law_854 : decode M_L_law.2.1 854 = .ok (.iaload, 1) := by decide +kernel
theorem d_L_law_855 : decode M_L_law.2.1 855 = .ok (.aload_n 0, 1) := by decide +kernel
theorem d_L_law_856 : decode M_L_law.2.1 856 = .ok (.iload_n 3, 1) := by decide +kernel
theorem d_L_law_857 : decode M_L_law.2.1 857 = .ok (.iconst 2, 1) := by decide +kernel
theorem d_L_law_858 : decode M_L_law.2.1 858 = .ok (.iadd, 1) := by decide +kernel
theorem d_L_law_859 : decode M_L_law.2.1 859 = .ok (.iaload, 1) := by decide +kernel
theorem d_L_law_860 : decode M_L_law.2.1 860 = .ok (.aload_n 0, 1) := by decide +kernel
theorem d_L_law_861 : decode M_L_law.2.1 861 = .ok (.iload_n 3, 1) := by decide +kernel
theorem d_L_law_862 : decode M_L_law.2.1 862 = .ok (.iconst 3, 1) := by decide +kernel
theorem d_L_law_863 : decode M_L_law.2.1 863 = .ok (.iadd, 1) := by decide +kernel
theorem d_L_law_864 : decode M_L_law.2.1 864 = .ok (.iaload, 1) := by decide +kernel
theorem d_L_law_865 : decode M_L_law.2.1 865 = .ok (.invokevirtual 98, 3) := by decide +kernel
theorem d_L_law_868 : decode M_L_law.2.1 868 = .ok (.if_icmp .eq 239, 3) := by decide +kernel
theorem d_L_law_871 : decode M_L_law.2.1 871 = .ok (.iconst 0, 1) := by decide +kernel
