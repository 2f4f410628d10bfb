theorem d_L_law_1096 : decode M_L_law.2.1 1096 = .ok (.iconst 1, 1) := by decide +kernel
theorem d_L_law_1097 : decode M_L_law.2.1 1097 = .ok (.iadd, 1) := by decide +kernel
theorem d_L_law_1098 : decode M_L_law.2.1 1098 = .ok (.iaload, 1) := by decide +kernel
theorem d_L_law_1099 : decode M_L_law.2.1 1099 = .ok (.invokevirtual 130, 3) := by decide +kernel
theorem d_L_law_1102 : decode M_L_law.2.1 1102 = .ok (.if_icmp .eq 5, 3) := by decide +kernel
theorem d_L_law_1105 : decode M_L_law.2.1 1105 = .ok (.iconst 0, 1) := by decide +kernel
theorem d_L_law_1106 : decode M_L_law.2.1 1106 = .ok (.ireturn, 1) := by decide +kernel
theorem d_L_law_1107 : decode M_L_law.2.1 1107 = .ok (.iinc 3 9, 3) := by decide +kernel
theorem d_L_law_1110 : decode M_L_law.2.1 1110 = .ok (.goto (-1092), 3) := by decide +kernel
theorem d_L_law_1113 : decode M_L_law.2.1 1113 = .ok (.iconst 1, 1) := by decide +kernel
theorem d_L_law_1114 : decode M_L_law.2.1 1114 = .ok (.ireturn, 1) := by decide +kernel
