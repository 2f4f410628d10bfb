theorem d_L_law_0 : decode M_L_law.2.1 0 = .ok (.new 7, 3) := by decide +kernel
theorem d_L_law_3 : decode M_L_law.2.1 3 = .ok (.dup, 1) := by decide +kernel
theorem d_L_law_4 : decode M_L_law.2.1 4 = .ok (.invokespecial 9, 3) := by decide +kernel
theorem d_L_law_7 : decode M_L_law.2.1 7 = .ok (.astore_n 1, 1) := by decide +kernel
theorem d_L_law_8 : decode M_L_law.2.1 8 = .ok (.new 10, 3) := by decide +kernel
theorem d_L_law_11 : decode M_L_law.2.1 11 = .ok (.dup, 1) := by decide +kernel
theorem d_L_law_12 : decode M_L_law.2.1 12 = .ok (.invokespecial 12, 3) := by decide +kernel
theorem d_L_law_15 : decode M_L_law.2.1 15 = .ok (.astore_n 2, 1) := by decide +kernel
theorem d_L_law_16 : decode M_L_law.2.1 16 = .ok (.iconst 0, 1) := by decide +kernel
theorem d_L_law_17 : decode M_L_law.2.1 17 = .ok (.istore_n 3, 1) := by decide +kernel
theorem d_L_law_18 : decode M_L_law.2.1 18 = .ok (.iload_n 3, 1) := by decide +kernel
theorem d_L_law_19 : decode M_L_law.2.1 19 = .ok (.aload_n 0, 1) := by decide +kernel
theorem d_L_law_20 : decode M_L_law.2.1 20 = .ok (.arraylength, 1) := by decide +kernel
theorem d_L_law_21 : decode M_L_law.2.1 21 = .ok (.bipush 9, 2) := by decide +kernel
theorem d_L_law_23 : decode M_L_law.2.1 23 = .ok (.isub, 1) := by decide +kernel
theorem d_L_law_24 : decode M_L_law.2.1 24 = .ok (.if_icmp .gt 1089, 3) := by decide +kernel
theorem d_L_law_27 : decode M_L_law.2.1 27 = .ok (.aload_n 0, 1) := by decide +kernel
theorem d_L_law_28 : decode M_L_law.2.1 28 = .ok (.iload_n 3, 1) := by decide +kernel
theorem d_L_law_29 : decode M_L_law.2.1 29 = .ok (.iaload, 1) := by decide +kernel
theorem d_L_law_30 : decode M_L_law.2.1 30 = .ok (.bipush 31, 2) := by decide +kernel
theorem d_L_law_32 : decode M_L_law.2.1 32 = .ok (.iand, 1) := by decide +kernel
theorem d_L_law_33 : decode M_L_law.2.1 33 = .ok (.tableswitch 1074 0 26 #[123, 186, 209, 222, 235, 284, 353, 376, 451, 474, 497, 596, 619, 642, 655, 668, 721, 754, 797, 840, 863, 906, 929, 972, 1005, 1028, 1051], 123) := by decide +kernel
theorem d_L_law_156 : decode M_L_law.2.1 156 = .ok (.aload_n 1, 1) := by decide +kernel
theorem d_L_law_157 : decode M_L_law.2.1 157 = .ok (.aload_n 0, 1) := by decide +kernel
theorem d_L_law_158 : decode M_L_law.2.1 158 = .ok (.iload_n 3, 1) := by decide +kernel
theorem d_L_law_159 : decode M_L_law.2.1 159 = .ok (.iconst 1, 1) := by decide +kernel
theorem d_L_law_160 : decode M_L_law.2.1 160 = .ok (.iadd, 1) := by decide +kernel
theorem d_L_law_161 : decode M_L_law.2.1 161 = .ok (.iaload, 1) := by decide +kernel
theorem d_L_law_162 : decode M_L_law.2.1 162 = .ok (.aload_n 0, 1) := by decide +kernel
theorem d_L_law_163 : decode M_L_law.2.1 163 = .ok (.iload_n 3, 1) := by decide +kernel
theorem d_L_law_164 : decode M_L_law.2.1 164 = .ok (.iconst 2, 1) := by decide +kernel
theorem d_L_law_165 : decode M_L_law.2.1 165 = .ok (.iadd, 1) := by decide +kernel
theorem d_L_law_166 : decode M_L_law.2.1 166 = .ok (.iaload, 1) := by decide +kernel
theorem d_L_law_167 : decode M_L_law.2.1 167 = .ok (.aload_n 0, 1) := by decide +kernel
theorem d_L_law_168 : decode M_L_law.2.1 168 = .ok (.iload_n 3, 1) := by decide +kernel
theorem d_L_law_169 : decode M_L_law.2.1 169 = .ok (.iconst 3, 1) := by decide +kernel
theorem d_L_law_170 : decode M_L_law.2.1 170 = .ok (.iadd, 1) := by decide +kernel
theorem d_L_law_171 : decode M_L_law.2.1 171 = .ok (.iaload, 1) := by decide +kernel
theorem d_L_law_172 : decode M_L_law.2.1 172 = .ok (.aload_n 0, 1) := by decide +kernel
theorem d_L_law_173 : decode M_L_law.2.1 173 = .ok (.iload_n 3, 1) := by decide +kernel
theorem d_L_law_174 : decode M_L_law.2.1 174 = .ok (.iconst 4, 1) := by decide +kernel
theorem d_L_law_175 : decode M_L_law.2.1 175 = .ok (.iadd, 1) := by decide +kernel
theorem d_L_law_176 : decode M_L_law.2.1 176 = .ok (.iaload, 1) := by decide +kernel
theorem d_L_law_177 : decode M_L_law.2.1 177 = .ok (.aload_n 0, 1) := by decide +kernel
theorem d_L_law_178 : decode M_L_law.2.1 178 = .ok (.iload_n 3, 1) := by decide +kernel
theorem d_L_law_179 : decode M_L_law.2.1 179 = .ok (.iconst 5, 1) := by decide +kernel
theorem d_L_law_180 : decode M_L_law.2.1 180 = .ok (.iadd, 1) := by decide +kernel
theorem d_L_law_181 : decode M_L_law.2.1 181 = .ok (.iaload, 1) := by decide +kernel
theorem d_L_law_182 : decode M_L_law.2.1 182 = .ok (.invokevirtual 13, 3) := by decide +kernel
theorem d_L_law_185 : decode M_L_law.2.1 185 = .ok (.aload_n 2, 1) := by decide +kernel
theorem d_L_law_186 : decode M_L_law.2.1 186 = .ok (.aload_n 0, 1) := by decide +kernel
theorem d_L_law_187 : decode M_L_law.2.1 187 = .ok (.iload_n 3, 1) := by decide +kernel
theorem d_L_law_188 : decode M_L_law.2.1 188 = .ok (.iconst 1, 1) := by decide +kernel
theorem d_L_law_189 : decode M_L_law.2.1 189 = .ok (.iadd, 1) := by decide +kernel
theorem d_L_law_190 : decode M_L_law.2.1 190 = .ok (.iaload, 1) := by decide +kernel
theorem d_L_law_191 : decode M_L_law.2.1 191 = .ok (.aload_n 0, 1) := by decide +kernel
theorem d_L_law_192 : decode M_L_law.2.1 192 = .ok (.iload_n 3, 1) := by decide +kernel
theorem d_L_law_193 : decode M_L_law.2.1 193 = .ok (.iconst 2, 1) := by decide +kernel
theorem d_L_law_194 : decode M_L_law.2.1 194 = .ok (.iadd, 1) := by decide +kernel
theorem d_L_law_195 : decode M_L_law.2.1 195 = .ok (.iaload, 1) := by decide +kernel
