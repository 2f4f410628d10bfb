theorem d_L_law_196 : decode M_L_law.2.1 196 = .ok (.aload_n 0, 1) := by decide +kernel
theorem d_L_law_197 : decode M_L_law.2.1 197 = .ok (.iload_n 3, 1) := by decide +kernel
theorem d_L_law_198 : decode M_L_law.2.1 198 = .ok (.iconst 3, 1) := by decide +kernel
theorem d_L_law_199 : decode M_L_law.2.1 199 = .ok (.iadd, 1) := by decide +kernel
theorem d_L_law_200 : decode M_L_law.2.1 200 = .ok (.iaload, 1) := by decide +kernel
theorem d_L_law_201 : decode M_L_law.2.1 201 = .ok (.aload_n 0, 1) := by decide +kernel
theorem d_L_law_202 : decode M_L_law.2.1 202 = .ok (.iload_n 3, 1) := by decide +kernel
theorem d_L_law_203 : decode M_L_law.2.1 203 = .ok (.iconst 4, 1) := by decide +kernel
theorem d_L_law_204 : decode M_L_law.2.1 204 = .ok (.iadd, 1) := by decide +kernel
theorem d_L_law_205 : decode M_L_law.2.1 205 = .ok (.iaload, 1) := by decide +kernel
theorem d_L_law_206 : decode M_L_law.2.1 206 = .ok (.aload_n 0, 1) := by decide +kernel
theorem d_L_law_207 : decode M_L_law.2.1 207 = .ok (.iload_n 3, 1) := by decide +kernel
theorem d_L_law_208 : decode M_L_law.2.1 208 = .ok (.iconst 5, 1) := by decide +kernel
theorem d_L_law_209 : decode M_L_law.2.1 209 = .ok (.iadd, 1) := by decide +kernel
theorem d_L_law_210 : decode M_L_law.2.1 210 = .ok (.iaload, 1) := by decide +kernel
theorem d_L_law_211 : decode M_L_law.2.1 211 = .ok (.invokevirtual 17, 3) := by decide +kernel
theorem d_L_law_214 : decode M_L_law.2.1 214 = .ok (.if_icmp .eq 893, 3) := by decide +kernel
theorem d_L_law_217 : decode M_L_law.2.1 217 = .ok (.iconst 0, 1) := by decide +kernel
theorem d_L_law_218 : decode M_L_law.2.1 218 = .ok (.ireturn, 1) := by decide +kernel
theorem d_L_law_219 : decode M_L_law.2.1 219 = .ok (.aload_n 1, 1) := by decide +kernel
theorem d_L_law_220 : decode M_L_law.2.1 220 = .ok (.aload_n 0, 1) := by decide +kernel
theorem d_L_law_221 : decode M_L_law.2.1 221 = .ok (.iload_n 3, 1) := by decide +kernel
theorem d_L_law_222 : decode M_L_law.2.1 222 = .ok (.iconst 1, 1) := by decide +kernel
theorem d_L_law_223 : decode M_L_law.2.1 223 = .ok (.iadd, 1) := by decide +kernel
theorem d_L_law_224 : decode M_L_law.2.1 224 = .ok (.iaload, 1) := by decide +kernel
theorem d_L_law_225 : decode M_L_law.2.1 225 = .ok (.invokevirtual 18, 3) := by decide +kernel
theorem d_L_law_228 : decode M_L_law.2.1 228 = .ok (.aload_n 2, 1) := by decide +kernel
theorem d_L_law_229 : decode M_L_law.2.1 229 = .ok (.aload_n 0, 1) := by decide +kernel
theorem d_L_law_230 : decode M_L_law.2.1 230 = .ok (.iload_n 3, 1) := by decide +kernel
theorem d_L_law_231 : decode M_L_law.2.1 231 = .ok (.iconst 1, 1) := by decide +kernel
theorem d_L_law_232 : decode M_L_law.2.1 232 = .ok (.iadd, 1) := by decide +kernel
theorem d_L_law_233 : decode M_L_law.2.1 233 = .ok (.iaload, 1) := by decide +kernel
theorem d_L_law_234 : decode M_L_law.2.1 234 = .ok (.invokevirtual 22, 3) := by decide +kernel
theorem d_L_law_237 : decode M_L_law.2.1 237 = .ok (.if_icmp .eq 870, 3) := by decide +kernel
theorem d_L_law_240 : decode M_L_law.2.1 240 = .ok (.iconst 0, 1) := by decide +kernel
theorem d_L_law_241 : decode M_L_law.2.1 241 = .ok (.ireturn, 1) := by decide +kernel
theorem d_L_law_242 : decode M_L_law.2.1 242 = .ok (.aload_n 1, 1) := by decide +kernel
theorem d_L_law_243 : decode M_L_law.2.1 243 = .ok (.invokevirtual 23, 3) := by decide +kernel
theorem d_L_law_246 : decode M_L_law.2.1 246 = .ok (.aload_n 2, 1) := by decide +kernel
theorem d_L_law_247 : decode M_L_law.2.1 247 = .ok (.invokevirtual 27, 3) := by decide +kernel
theorem d_L_law_250 : decode M_L_law.2.1 250 = .ok (.if_icmp .eq 857, 3) := by decide +kernel
theorem d_L_law_253 : decode M_L_law.2.1 253 = .ok (.iconst 0, 1) := by decide +kernel
theorem d_L_law_254 : decode M_L_law.2.1 254 = .ok (.ireturn, 1) := by decide +kernel
theorem d_L_law_255 : decode M_L_law.2.1 255 = .ok (.aload_n 1, 1) := by decide +kernel
theorem d_L_law_256 : decode M_L_law.2.1 256 = .ok (.invokevirtual 28, 3) := by decide +kernel
theorem d_L_law_259 : decode M_L_law.2.1 259 = .ok (.aload_n 2, 1) := by decide +kernel
theorem d_L_law_260 : decode M_L_law.2.1 260 = .ok (.invokevirtual 31, 3) := by decide +kernel
theorem d_L_law_263 : decode M_L_law.2.1 263 = .ok (.if_icmp .eq 844, 3) := by decide +kernel
theorem d_L_law_266 : decode M_L_law.2.1 266 = .ok (.iconst 0, 1) := by decide +kernel
theorem d_L_law_267 : decode M_L_law.2.1 267 = .ok (.ireturn, 1) := by decide +kernel
theorem d_L_law_268 : decode M_L_law.2.1 268 = .ok (.aload_n 1, 1) := by decide +kernel
theorem d_L_law_269 : decode M_L_law.2.1 269 = .ok (.aload_n 0, 1) := by decide +kernel
theorem d_L_law_270 : decode M_L_law.2.1 270 = .ok (.iload_n 3, 1) := by decide +kernel
theorem d_L_law_271 : decode M_L_law.2.1 271 = .ok (.iconst 1, 1) := by decide +kernel
theorem d_L_law_272 : decode M_L_law.2.1 272 = .ok (.iadd, 1) := by decide +kernel
theorem d_L_law_273 : decode M_L_law.2.1 273 = .ok (.iaload, 1) := by decide +kernel
theorem d_L_law_274 : decode M_L_law.2.1 274 = .ok (.ifCond .eq 7, 3) := by decide +kernel
theorem d_L_law_277 : decode M_L_law.2.1 277 = .ok (.iconst 1, 1) := by decide +kernel
theorem d_L_law_278 : decode M_L_law.2.1 278 = .ok (.goto 4, 3) := by decide +kernel
theorem d_L_law_281 : decode M_L_law.2.1 281 = .ok (.iconst 0, 1) := by decide +kernel
