theorem d_L_law_872 : decode M_L_law.2.1 872 = .ok (.ireturn, 1) := by decide +kernel
theorem d_L_law_873 : decode M_L_law.2.1 873 = .ok (.aload_n 1, 1) := by decide +kernel
theorem d_L_law_874 : decode M_L_law.2.1 874 = .ok (.aload_n 0, 1) := by decide +kernel
theorem d_L_law_875 : decode M_L_law.2.1 875 = .ok (.iload_n 3, 1) := by decide +kernel
theorem d_L_law_876 : decode M_L_law.2.1 876 = .ok (.iconst 1, 1) := by decide +kernel
theorem d_L_law_877 : decode M_L_law.2.1 877 = .ok (.iadd, 1) := by decide +kernel
theorem d_L_law_878 : decode M_L_law.2.1 878 = .ok (.iaload, 1) := by decide +kernel
theorem d_L_law_879 : decode M_L_law.2.1 879 = .ok (.invokevirtual 99, 3) := by decide +kernel
theorem d_L_law_882 : decode M_L_law.2.1 882 = .ok (.aload_n 2, 1) := by decide +kernel
theorem d_L_law_883 : decode M_L_law.2.1 883 = .ok (.aload_n 0, 1) := by decide +kernel
theorem d_L_law_884 : decode M_L_law.2.1 884 = .ok (.iload_n 3, 1) := by decide +kernel
theorem d_L_law_885 : decode M_L_law.2.1 885 = .ok (.iconst 1, 1) := by decide +kernel
theorem d_L_law_886 : decode M_L_law.2.1 886 = .ok (.iadd, 1) := by decide +kernel
theorem d_L_law_887 : decode M_L_law.2.1 887 = .ok (.iaload, 1) := by decide +kernel
theorem d_L_law_888 : decode M_L_law.2.1 888 = .ok (.invokevirtual 102, 3) := by decide +kernel
theorem d_L_law_891 : decode M_L_law.2.1 891 = .ok (.if_icmp .eq 216, 3) := by decide +kernel
theorem d_L_law_894 : decode M_L_law.2.1 894 = .ok (.iconst 0, 1) := by decide +kernel
theorem d_L_law_895 : decode M_L_law.2.1 895 = .ok (.ireturn, 1) := by decide +kernel
theorem d_L_law_896 : decode M_L_law.2.1 896 = .ok (.aload_n 1, 1) := by decide +kernel
theorem d_L_law_897 : decode M_L_law.2.1 897 = .ok (.aload_n 0, 1) := by decide +kernel
theorem d_L_law_898 : decode M_L_law.2.1 898 = .ok (.iload_n 3, 1) := by decide +kernel
theorem d_L_law_899 : decode M_L_law.2.1 899 = .ok (.iconst 1, 1) := by decide +kernel
theorem d_L_law_900 : decode M_L_law.2.1 900 = .ok (.iadd, 1) := by decide +kernel
theorem d_L_law_901 : decode M_L_law.2.1 901 = .ok (.iaload, 1) := by decide +kernel
theorem d_L_law_902 : decode M_L_law.2.1 902 = .ok (.aload_n 0, 1) := by decide +kernel
theorem d_L_law_903 : decode M_L_law.2.1 903 = .ok (.iload_n 3, 1) := by decide +kernel
theorem d_L_law_904 : decode M_L_law.2.1 904 = .ok (.iconst 2, 1) := by decide +kernel
theorem d_L_law_905 : decode M_L_law.2.1 905 = .ok (.iadd, 1) := by decide +kernel
theorem d_L_law_906 : decode M_L_law.2.1 906 = .ok (.iaload, 1) := by decide +kernel
theorem d_L_law_907 : decode M_L_law.2.1 907 = .ok (.aload_n 0, 1) := by decide +kernel
theorem d_L_law_908 : decode M_L_law.2.1 908 = .ok (.iload_n 3, 1) := by decide +kernel
theorem d_L_law_909 : decode M_L_law.2.1 909 = .ok (.iconst 3, 1) := by decide +kernel
theorem d_L_law_910 : decode M_L_law.2.1 910 = .ok (.iadd, 1) := by decide +kernel
theorem d_L_law_911 : decode M_L_law.2.1 911 = .ok (.iaload, 1) := by decide +kernel
theorem d_L_law_912 : decode M_L_law.2.1 912 = .ok (.invokevirtual 103, 3) := by decide +kernel
theorem d_L_law_915 : decode M_L_law.2.1 915 = .ok (.aload_n 2, 1) := by decide +kernel
theorem d_L_law_916 : decode M_L_law.2.1 916 = .ok (.aload_n 0, 1) := by decide +kernel
theorem d_L_law_917 : decode M_L_law.2.1 917 = .ok (.iload_n 3, 1) := by decide +kernel
theorem d_L_law_918 : decode M_L_law.2.1 918 = .ok (.iconst 1, 1) := by decide +kernel
theorem d_L_law_919 : decode M_L_law.2.1 919 = .ok (.iadd, 1) := by decide +kernel
theorem d_L_law_920 : decode M_L_law.2.1 920 = .ok (.iaload, 1) := by decide +kernel
theorem d_L_law_921 : decode M_L_law.2.1 921 = .ok (.aload_n 0, 1) := by decide +kernel
theorem d_L_law_922 : decode M_L_law.2.1 922 = .ok (.iload_n 3, 1) := by decide +kernel
theorem d_L_law_923 : decode M_L_law.2.1 923 = .ok (.iconst 2, 1) := by decide +kernel
theorem d_L_law_924 : decode M_L_law.2.1 924 = .ok (.iadd, 1) := by decide +kernel
theorem d_L_law_925 : decode M_L_law.2.1 925 = .ok (.iaload, 1) := by decide +kernel
theorem d_L_law_926 : decode M_L_law.2.1 926 = .ok (.aload_n 0, 1) := by decide +kernel
theorem d_L_law_927 : decode M_L_law.2.1 927 = .ok (.iload_n 3, 1) := by decide +kernel
theorem d_L_law_928 : decode M_L_law.2.1 928 = .ok (.iconst 3, 1) := by decide +kernel
theorem d_L_law_929 : decode M_L_law.2.1 929 = .ok (.iadd, 1) := by decide +kernel
theorem d_L_law_930 : decode M_L_law.2.1 930 = .ok (.iaload, 1) := by decide +kernel
theorem d_L_law_931 : decode M_L_law.2.1 931 = .ok (.invokevirtual 106, 3) := by decide +kernel
theorem d_L_law_934 : decode M_L_law.2.1 934 = .ok (.if_icmp .eq 173, 3) := by decide +kernel
theorem d_L_law_937 : decode M_L_law.2.1 937 = .ok (.iconst 0, 1) := by decide +kernel
theorem d_L_law_938 : decode M_L_law.2.1 938 = .ok (.ireturn, 1) := by decide +kernel
theorem d_L_law_939 : decode M_L_law.2.1 939 = .ok (.aload_n 1, 1) := by decide +kernel
theorem d_L_law_940 : decode M_L_law.2.1 940 = .ok (.aload_n 0, 1) := by decide +kernel
theorem d_L_law_941 : decode M_L_law.2.1 941 = .ok (.iload_n 3, 1) := by decide +kernel
theorem d_L_law_942 : decode M_L_law.2.1 942 = .ok (.iconst 1, 1) := by decide +kernel
theorem d_L_law_943 : decode M_L_law.2.1 943 = .ok (.iadd, 1) := by decide +kernel
