theorem d_L_law_1016 : decode M_L_law.2.1 1016 = .ok (.invokevirtual 115, 3) := by decide +kernel
theorem d_L_law_1019 : decode M_L_law.2.1 1019 = .ok (.aload_n 2, 1) := by decide +kernel
theorem d_L_law_1020 : decode M_L_law.2.1 1020 = .ok (.aload_n 0, 1) := by decide +kernel
theorem d_L_law_1021 : decode M_L_law.2.1 1021 = .ok (.iload_n 3, 1) := by decide +kernel
theorem d_L_law_1022 : decode M_L_law.2.1 1022 = .ok (.iconst 1, 1) := by decide +kernel
theorem d_L_law_1023 : decode M_L_law.2.1 1023 = .ok (.iadd, 1) := by decide +kernel
theorem d_L_law_1024 : decode M_L_law.2.1 1024 = .ok (.iaload, 1) := by decide +kernel
theorem d_L_law_1025 : decode M_L_law.2.1 1025 = .ok (.aload_n 0, 1) := by decide +kernel
theorem d_L_law_1026 : decode M_L_law.2.1 1026 = .ok (.iload_n 3, 1) := by decide +kernel
theorem d_L_law_1027 : decode M_L_law.2.1 1027 = .ok (.iconst 2, 1) := by decide +kernel
theorem d_L_law_1028 : decode M_L_law.2.1 1028 = .ok (.iadd, 1) := by decide +kernel
theorem d_L_law_1029 : decode M_L_law.2.1 1029 = .ok (.iaload, 1) := by decide +kernel
theorem d_L_law_1030 : decode M_L_law.2.1 1030 = .ok (.invokevirtual 118, 3) := by decide +kernel
theorem d_L_law_1033 : decode M_L_law.2.1 1033 = .ok (.if_icmp .eq 74, 3) := by decide +kernel
theorem d_L_law_1036 : decode M_L_law.2.1 1036 = .ok (.iconst 0, 1) := by decide +kernel
theorem d_L_law_1037 : decode M_L_law.2.1 1037 = .ok (.ireturn, 1) := by decide +kernel
theorem d_L_law_1038 : decode M_L_law.2.1 1038 = .ok (.aload_n 1, 1) := by decide +kernel
theorem d_L_law_1039 : decode M_L_law.2.1 1039 = .ok (.aload_n 0, 1) := by decide +kernel
theorem d_L_law_1040 : decode M_L_law.2.1 1040 = .ok (.iload_n 3, 1) := by decide +kernel
theorem d_L_law_1041 : decode M_L_law.2.1 1041 = .ok (.iconst 1, 1) := by decide +kernel
theorem d_L_law_1042 : decode M_L_law.2.1 1042 = .ok (.iadd, 1) := by decide +kernel
theorem d_L_law_1043 : decode M_L_law.2.1 1043 = .ok (.iaload, 1) := by decide +kernel
theorem d_L_law_1044 : decode M_L_law.2.1 1044 = .ok (.invokevirtual 119, 3) := by decide +kernel
theorem d_L_law_1047 : decode M_L_law.2.1 1047 = .ok (.aload_n 2, 1) := by decide +kernel
theorem d_L_law_1048 : decode M_L_law.2.1 1048 = .ok (.aload_n 0, 1) := by decide +kernel
theorem d_L_law_1049 : decode M_L_law.2.1 1049 = .ok (.iload_n 3, 1) := by decide +kernel
theorem d_L_law_1050 : decode M_L_law.2.1 1050 = .ok (.iconst 1, 1) := by decide +kernel
theorem d_L_law_1051 : decode M_L_law.2.1 1051 = .ok (.iadd, 1) := by decide +kernel
theorem d_L_law_1052 : decode M_L_law.2.1 1052 = .ok (.iaload, 1) := by decide +kernel
theorem d_L_law_1053 : decode M_L_law.2.1 1053 = .ok (.invokevirtual 122, 3) := by decide +kernel
theorem d_L_law_1056 : decode M_L_law.2.1 1056 = .ok (.if_icmp .eq 51, 3) := by decide +kernel
theorem d_L_law_1059 : decode M_L_law.2.1 1059 = .ok (.iconst 0, 1) := by decide +kernel
theorem d_L_law_1060 : decode M_L_law.2.1 1060 = .ok (.ireturn, 1) := by decide +kernel
theorem d_L_law_1061 : decode M_L_law.2.1 1061 = .ok (.aload_n 1, 1) := by decide +kernel
theorem d_L_law_1062 : decode M_L_law.2.1 1062 = .ok (.aload_n 0, 1) := by decide +kernel
theorem d_L_law_1063 : decode M_L_law.2.1 1063 = .ok (.iload_n 3, 1) := by decide +kernel
theorem d_L_law_1064 : decode M_L_law.2.1 1064 = .ok (.iconst 1, 1) := by decide +kernel
theorem d_L_law_1065 : decode M_L_law.2.1 1065 = .ok (.iadd, 1) := by decide +kernel
theorem d_L_law_1066 : decode M_L_law.2.1 1066 = .ok (.iaload, 1) := by decide +kernel
theorem d_L_law_1067 : decode M_L_law.2.1 1067 = .ok (.invokevirtual 123, 3) := by decide +kernel
theorem d_L_law_1070 : decode M_L_law.2.1 1070 = .ok (.aload_n 2, 1) := by decide +kernel
theorem d_L_law_1071 : decode M_L_law.2.1 1071 = .ok (.aload_n 0, 1) := by decide +kernel
theorem d_L_law_1072 : decode M_L_law.2.1 1072 = .ok (.iload_n 3, 1) := by decide +kernel
theorem d_L_law_1073 : decode M_L_law.2.1 1073 = .ok (.iconst 1, 1) := by decide +kernel
theorem d_L_law_1074 : decode M_L_law.2.1 1074 = .ok (.iadd, 1) := by decide +kernel
theorem d_L_law_1075 : decode M_L_law.2.1 1075 = .ok (.iaload, 1) := by decide +kernel
theorem d_L_law_1076 : decode M_L_law.2.1 1076 = .ok (.invokevirtual 126, 3) := by decide +kernel
theorem d_L_law_1079 : decode M_L_law.2.1 1079 = .ok (.if_icmp .eq 28, 3) := by decide +kernel
theorem d_L_law_1082 : decode M_L_law.2.1 1082 = .ok (.iconst 0, 1) := by decide +kernel
theorem d_L_law_1083 : decode M_L_law.2.1 1083 = .ok (.ireturn, 1) := by decide +kernel
theorem d_L_law_1084 : decode M_L_law.2.1 1084 = .ok (.aload_n 1, 1) := by decide +kernel
theorem d_L_law_1085 : decode M_L_law.2.1 1085 = .ok (.aload_n 0, 1) := by decide +kernel
theorem d_L_law_1086 : decode M_L_law.2.1 1086 = .ok (.iload_n 3, 1) := by decide +kernel
theorem d_L_law_1087 : decode M_L_law.2.1 1087 = .ok (.iconst 1, 1) := by decide +kernel
theorem d_L_law_1088 : decode M_L_law.2.1 1088 = .ok (.iadd, 1) := by decide +kernel
theorem d_L_law_1089 : decode M_L_law.2.1 1089 = .ok (.iaload, 1) := by decide +kernel
theorem d_L_law_1090 : decode M_L_law.2.1 1090 = .ok (.invokevirtual 127, 3) := by decide +kernel
theorem d_L_law_1093 : decode M_L_law.2.1 1093 = .ok (.aload_n 2, 1) := by decide +kernel
theorem d_L_law_1094 : decode M_L_law.2.1 1094 = .ok (.aload_n 0, 1) := by decide +kernel
theorem d_L_law_1095 : decode M_L_law.2.1 1095 = .ok (.iload_n 3, 1) := by decide +kernel
