theorem d_L_law_944 : decode M_L_law.2.1 944 = .ok (.iaload, 1) := by decide +kernel
theorem d_L_law_945 : decode M_L_law.2.1 945 = .ok (.invokevirtual 107, 3) := by decide +kernel
theorem d_L_law_948 : decode M_L_law.2.1 948 = .ok (.aload_n 2, 1) := by decide +kernel
theorem d_L_law_949 : decode M_L_law.2.1 949 = .ok (.aload_n 0, 1) := by decide +kernel
theorem d_L_law_950 : decode M_L_law.2.1 950 = .ok (.iload_n 3, 1) := by decide +kernel
theorem d_L_law_951 : decode M_L_law.2.1 951 = .ok (.iconst 1, 1) := by decide +kernel
theorem d_L_law_952 : decode M_L_law.2.1 952 = .ok (.iadd, 1) := by decide +kernel
theorem d_L_law_953 : decode M_L_law.2.1 953 = .ok (.iaload, 1) := by decide +kernel
theorem d_L_law_954 : decode M_L_law.2.1 954 = .ok (.invokevirtual 110, 3) := by decide +kernel
theorem d_L_law_957 : decode M_L_law.2.1 957 = .ok (.if_icmp .eq 150, 3) := by decide +kernel
theorem d_L_law_960 : decode M_L_law.2.1 960 = .ok (.iconst 0, 1) := by decide +kernel
theorem d_L_law_961 : decode M_L_law.2.1 961 = .ok (.ireturn, 1) := by decide +kernel
theorem d_L_law_962 : decode M_L_law.2.1 962 = .ok (.aload_n 1, 1) := by decide +kernel
theorem d_L_law_963 : decode M_L_law.2.1 963 = .ok (.aload_n 0, 1) := by decide +kernel
theorem d_L_law_964 : decode M_L_law.2.1 964 = .ok (.iload_n 3, 1) := by decide +kernel
theorem d_L_law_965 : decode M_L_law.2.1 965 = .ok (.iconst 1, 1) := by decide +kernel
theorem d_L_law_966 : decode M_L_law.2.1 966 = .ok (.iadd, 1) := by decide +kernel
theorem d_L_law_967 : decode M_L_law.2.1 967 = .ok (.iaload, 1) := by decide +kernel
theorem d_L_law_968 : decode M_L_law.2.1 968 = .ok (.aload_n 0, 1) := by decide +kernel
theorem d_L_law_969 : decode M_L_law.2.1 969 = .ok (.iload_n 3, 1) := by decide +kernel
theorem d_L_law_970 : decode M_L_law.2.1 970 = .ok (.iconst 2, 1) := by decide +kernel
theorem d_L_law_971 : decode M_L_law.2.1 971 = .ok (.iadd, 1) := by decide +kernel
theorem d_L_law_972 : decode M_L_law.2.1 972 = .ok (.iaload, 1) := by decide +kernel
theorem d_L_law_973 : decode M_L_law.2.1 973 = .ok (.aload_n 0, 1) := by decide +kernel
theorem d_L_law_974 : decode M_L_law.2.1 974 = .ok (.iload_n 3, 1) := by decide +kernel
theorem d_L_law_975 : decode M_L_law.2.1 975 = .ok (.iconst 3, 1) := by decide +kernel
theorem d_L_law_976 : decode M_L_law.2.1 976 = .ok (.iadd, 1) := by decide +kernel
theorem d_L_law_977 : decode M_L_law.2.1 977 = .ok (.iaload, 1) := by decide +kernel
theorem d_L_law_978 : decode M_L_law.2.1 978 = .ok (.invokevirtual 111, 3) := by decide +kernel
theorem d_L_law_981 : decode M_L_law.2.1 981 = .ok (.aload_n 2, 1) := by decide +kernel
theorem d_L_law_982 : decode M_L_law.2.1 982 = .ok (.aload_n 0, 1) := by decide +kernel
theorem d_L_law_983 : decode M_L_law.2.1 983 = .ok (.iload_n 3, 1) := by decide +kernel
theorem d_L_law_984 : decode M_L_law.2.1 984 = .ok (.iconst 1, 1) := by decide +kernel
theorem d_L_law_985 : decode M_L_law.2.1 985 = .ok (.iadd, 1) := by decide +kernel
theorem d_L_law_986 : decode M_L_law.2.1 986 = .ok (.iaload, 1) := by decide +kernel
theorem d_L_law_987 : decode M_L_law.2.1 987 = .ok (.aload_n 0, 1) := by decide +kernel
theorem d_L_law_988 : decode M_L_law.2.1 988 = .ok (.iload_n 3, 1) := by decide +kernel
theorem d_L_law_989 : decode M_L_law.2.1 989 = .ok (.iconst 2, 1) := by decide +kernel
theorem d_L_law_990 : decode M_L_law.2.1 990 = .ok (.iadd, 1) := by decide +kernel
theorem d_L_law_991 : decode M_L_law.2.1 991 = .ok (.iaload, 1) := by decide +kernel
theorem d_L_law_992 : decode M_L_law.2.1 992 = .ok (.aload_n 0, 1) := by decide +kernel
theorem d_L_law_993 : decode M_L_law.2.1 993 = .ok (.iload_n 3, 1) := by decide +kernel
theorem d_L_law_994 : decode M_L_law.2.1 994 = .ok (.iconst 3, 1) := by decide +kernel
theorem d_L_law_995 : decode M_L_law.2.1 995 = .ok (.iadd, 1) := by decide +kernel
theorem d_L_law_996 : decode M_L_law.2.1 996 = .ok (.iaload, 1) := by decide +kernel
theorem d_L_law_997 : decode M_L_law.2.1 997 = .ok (.invokevirtual 114, 3) := by decide +kernel
theorem d_L_law_1000 : decode M_L_law.2.1 1000 = .ok (.if_icmp .eq 107, 3) := by decide +kernel
theorem d_L_law_1003 : decode M_L_law.2.1 1003 = .ok (.iconst 0, 1) := by decide +kernel
theorem d_L_law_1004 : decode M_L_law.2.1 1004 = .ok (.ireturn, 1) := by decide +kernel
theorem d_L_law_1005 : decode M_L_law.2.1 1005 = .ok (.aload_n 1, 1) := by decide +kernel
theorem d_L_law_1006 : decode M_L_law.2.1 1006 = .ok (.aload_n 0, 1) := by decide +kernel
theorem d_L_law_1007 : decode M_L_law.2.1 1007 = .ok (.iload_n 3, 1) := by decide +kernel
theorem d_L_law_1008 : decode M_L_law.2.1 1008 = .ok (.iconst 1, 1) := by decide +kernel
theorem d_L_law_1009 : decode M_L_law.2.1 1009 = .ok (.iadd, 1) := by decide +kernel
theorem d_L_law_1010 : decode M_L_law.2.1 1010 = .ok (.iaload, 1) := by decide +kernel
theorem d_L_law_1011 : decode M_L_law.2.1 1011 = .ok (.aload_n 0, 1) := by decide +kernel
theorem d_L_law_1012 : decode M_L_law.2.1 1012 = .ok (.iload_n 3, 1) := by decide +kernel
theorem d_L_law_1013 : decode M_L_law.2.1 1013 = .ok (.iconst 2, 1) := by decide +kernel
theorem d_L_law_1014 : decode M_L_law.2.1 1014 = .ok (.iadd, 1) := by decide +kernel
theorem d_L_law_1015 : decode M_L_law.2.1 1015 = .ok (.iaload, 1) := by decide +kernel
