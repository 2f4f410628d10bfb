abbrev M_X11_shines : zw_M := (⟨"CutStonesModel", "shines", "(IIIIIIII)V"⟩, prog_13_method_60_code, 14, (Option.none : Option Jvm.ClassFile.FieldType))
theorem d_X11_shines_0 : decode M_X11_shines.2.1 0 = .ok (.aload_n 0, 1) := by decide +kernel
theorem d_X11_shines_1 : decode M_X11_shines.2.1 1 = .ok (.invokevirtual 400, 3) := by decide +kernel
theorem d_X11_shines_4 : decode M_X11_shines.2.1 4 = .ok (.iconst 0, 1) := by decide +kernel
theorem d_X11_shines_5 : decode M_X11_shines.2.1 5 = .ok (.istore 9, 2) := by decide +kernel
theorem d_X11_shines_7 : decode M_X11_shines.2.1 7 = .ok (.iload 9, 2) := by decide +kernel
theorem d_X11_shines_9 : decode M_X11_shines.2.1 9 = .ok (.aload_n 0, 1) := by decide +kernel
theorem d_X11_shines_10 : decode M_X11_shines.2.1 10 = .ok (.getfield 64, 3) := by decide +kernel
theorem d_X11_shines_13 : decode M_X11_shines.2.1 13 = .ok (.iload_n 1, 1) := by decide +kernel
theorem d_X11_shines_14 : decode M_X11_shines.2.1 14 = .ok (.iaload, 1) := by decide +kernel
theorem d_X11_shines_15 : decode M_X11_shines.2.1 15 = .ok (.if_icmp .ge 35, 3) := by decide +kernel
theorem d_X11_shines_18 : decode M_X11_shines.2.1 18 = .ok (.iload 9, 2) := by decide +kernel
theorem d_X11_shines_20 : decode M_X11_shines.2.1 20 = .ok (.iload 7, 2) := by decide +kernel
theorem d_X11_shines_22 : decode M_X11_shines.2.1 22 = .ok (.if_icmp .lt 10, 3) := by decide +kernel
theorem d_X11_shines_25 : decode M_X11_shines.2.1 25 = .ok (.iload 9, 2) := by decide +kernel
theorem d_X11_shines_27 : decode M_X11_shines.2.1 27 = .ok (.iload 8, 2) := by decide +kernel
theorem d_X11_shines_29 : decode M_X11_shines.2.1 29 = .ok (.if_icmp .le 15, 3) := by decide +kernel
theorem d_X11_shines_32 : decode M_X11_shines.2.1 32 = .ok (.aload_n 0, 1) := by decide +kernel
theorem d_X11_shines_33 : decode M_X11_shines.2.1 33 = .ok (.iload_n 1, 1) := by decide +kernel
theorem d_X11_shines_34 : decode M_X11_shines.2.1 34 = .ok (.iload_n 2, 1) := by decide +kernel
theorem d_X11_shines_35 : decode M_X11_shines.2.1 35 = .ok (.iload_n 3, 1) := by decide +kernel
theorem d_X11_shines_36 : decode M_X11_shines.2.1 36 = .ok (.iconst 0, 1) := by decide +kernel
theorem d_X11_shines_37 : decode M_X11_shines.2.1 37 = .ok (.iload 9, 2) := by decide +kernel
theorem d_X11_shines_39 : decode M_X11_shines.2.1 39 = .ok (.iload 4, 2) := by decide +kernel
theorem d_X11_shines_41 : decode M_X11_shines.2.1 41 = .ok (.invokevirtual 403, 3) := by decide +kernel
theorem d_X11_shines_44 : decode M_X11_shines.2.1 44 = .ok (.iinc 9 1, 3) := by decide +kernel
theorem d_X11_shines_47 : decode M_X11_shines.2.1 47 = .ok (.goto (-40), 3) := by decide +kernel
theorem d_X11_shines_50 : decode M_X11_shines.2.1 50 = .ok (.iconst 0, 1) := by decide +kernel
theorem d_X11_shines_51 : decode M_X11_shines.2.1 51 = .ok (.istore 9, 2) := by decide +kernel
theorem d_X11_shines_53 : decode M_X11_shines.2.1 53 = .ok (.iload 9, 2) := by decide +kernel
theorem d_X11_shines_55 : decode M_X11_shines.2.1 55 = .ok (.aload_n 0, 1) := by decide +kernel
theorem d_X11_shines_56 : decode M_X11_shines.2.1 56 = .ok (.getfield 67, 3) := by decide +kernel
theorem d_X11_shines_59 : decode M_X11_shines.2.1 59 = .ok (.iload_n 1, 1) := by decide +kernel
theorem d_X11_shines_60 : decode M_X11_shines.2.1 60 = .ok (.iaload, 1) := by decide +kernel
theorem d_X11_shines_61 : decode M_X11_shines.2.1 61 = .ok (.if_icmp .ge 33, 3) := by decide +kernel
theorem d_X11_shines_64 : decode M_X11_shines.2.1 64 = .ok (.aload_n 0, 1) := by decide +kernel
theorem d_X11_shines_65 : decode M_X11_shines.2.1 65 = .ok (.iload_n 1, 1) := by decide +kernel
theorem d_X11_shines_66 : decode M_X11_shines.2.1 66 = .ok (.iload_n 2, 1) := by decide +kernel
theorem d_X11_shines_67 : decode M_X11_shines.2.1 67 = .ok (.iload_n 3, 1) := by decide +kernel
theorem d_X11_shines_68 : decode M_X11_shines.2.1 68 = .ok (.iconst 3, 1) := by decide +kernel
theorem d_X11_shines_69 : decode M_X11_shines.2.1 69 = .ok (.iload 9, 2) := by decide +kernel
theorem d_X11_shines_71 : decode M_X11_shines.2.1 71 = .ok (.iload 5, 2) := by decide +kernel
theorem d_X11_shines_73 : decode M_X11_shines.2.1 73 = .ok (.invokevirtual 403, 3) := by decide +kernel
theorem d_X11_shines_76 : decode M_X11_shines.2.1 76 = .ok (.aload_n 0, 1) := by decide +kernel
theorem d_X11_shines_77 : decode M_X11_shines.2.1 77 = .ok (.iload_n 1, 1) := by decide +kernel
theorem d_X11_shines_78 : decode M_X11_shines.2.1 78 = .ok (.iload_n 2, 1) := by decide +kernel
theorem d_X11_shines_79 : decode M_X11_shines.2.1 79 = .ok (.iload_n 3, 1) := by decide +kernel
theorem d_X11_shines_80 : decode M_X11_shines.2.1 80 = .ok (.iconst 1, 1) := by decide +kernel
theorem d_X11_shines_81 : decode M_X11_shines.2.1 81 = .ok (.iload 9, 2) := by decide +kernel
theorem d_X11_shines_83 : decode M_X11_shines.2.1 83 = .ok (.iload 6, 2) := by decide +kernel
theorem d_X11_shines_85 : decode M_X11_shines.2.1 85 = .ok (.invokevirtual 403, 3) := by decide +kernel
theorem d_X11_shines_88 : decode M_X11_shines.2.1 88 = .ok (.iinc 9 1, 3) := by decide +kernel
theorem d_X11_shines_91 : decode M_X11_shines.2.1 91 = .ok (.goto (-38), 3) := by decide +kernel
theorem d_X11_shines_94 : decode M_X11_shines.2.1 94 = .ok (.iconst 0, 1) := by decide +kernel
theorem d_X11_shines_95 : decode M_X11_shines.2.1 95 = .ok (.istore 9, 2) := by decide +kernel
theorem d_X11_shines_97 : decode M_X11_shines.2.1 97 = .ok (.iconst 0, 1) := by decide +kernel
theorem d_X11_shines_98 : decode M_X11_shines.2.1 98 = .ok (.istore 10, 2) := by decide +kernel
theorem d_X11_shines_100 : decode M_X11_shines.2.1 100 = .ok (.iload 10, 2) := by decide +kernel
theorem d_X11_shines_102 : decode M_X11_shines.2.1 102 = .ok (.aload_n 0, 1) := by decide +kernel
theorem d_X11_shines_103 : decode M_X11_shines.2.1 103 = .ok (.getfield 64, 3) := by decide +kernel
theorem d_X11_shines_106 : decode M_X11_shines.2.1 106 = .ok (.iload_n 1, 1) := by decide +kernel
theorem d_X11_shines_107 : decode M_X11_shines.2.1 107 = .ok (.iaload, 1) := by decide +kernel
theorem d_X11_shines_108 : decode M_X11_shines.2.1 108 = .ok (.if_icmp .ge 30, 3) := by decide +kernel
theorem d_X11_shines_111 : decode M_X11_shines.2.1 111 = .ok (.aload_n 0, 1) := by decide +kernel
theorem d_X11_shines_112 : decode M_X11_shines.2.1 112 = .ok (.getfield 128, 3) := by decide +kernel
theorem d_X11_shines_115 : decode M_X11_shines.2.1 115 = .ok (.iload 10, 2) := by decide +kernel
theorem d_X11_shines_117 : decode M_X11_shines.2.1 117 = .ok (.iaload, 1) := by decide +kernel
theorem d_X11_shines_118 : decode M_X11_shines.2.1 118 = .ok (.iload 9, 2) := by decide +kernel
theorem d_X11_shines_120 : decode M_X11_shines.2.1 120 = .ok (.if_icmp .le 12, 3) := by decide +kernel
theorem d_X11_shines_123 : decode M_X11_shines.2.1 123 = .ok (.aload_n 0, 1) := by decide +kernel
theorem d_X11_shines_124 : decode M_X11_shines.2.1 124 = .ok (.getfield 128, 3) := by decide +kernel
theorem d_X11_shines_127 : decode M_X11_shines.2.1 127 = .ok (.iload 10, 2) := by decide +kernel
theorem d_X11_shines_129 : decode M_X11_shines.2.1 129 = .ok (.iaload, 1) := by decide +kernel
theorem d_X11_shines_130 : decode M_X11_shines.2.1 130 = .ok (.istore 9, 2) := by decide +kernel
theorem d_X11_shines_132 : decode M_X11_shines.2.1 132 = .ok (.iinc 10 1, 3) := by decide +kernel
theorem d_X11_shines_135 : decode M_X11_shines.2.1 135 = .ok (.goto (-35), 3) := by decide +kernel
theorem d_X11_shines_138 : decode M_X11_shines.2.1 138 = .ok (.iconst 0, 1) := by decide +kernel
theorem d_X11_shines_139 : decode M_X11_shines.2.1 139 = .ok (.istore 10, 2) := by decide +kernel
theorem d_X11_shines_141 : decode M_X11_shines.2.1 141 = .ok (.iconst 0, 1) := by decide +kernel
theorem d_X11_shines_142 : decode M_X11_shines.2.1 142 = .ok (.istore 11, 2) := by decide +kernel
theorem d_X11_shines_144 : decode M_X11_shines.2.1 144 = .ok (.iload 11, 2) := by decide +kernel
theorem d_X11_shines_146 : decode M_X11_shines.2.1 146 = .ok (.aload_n 0, 1) := by decide +kernel
theorem d_X11_shines_147 : decode M_X11_shines.2.1 147 = .ok (.getfield 64, 3) := by decide +kernel
theorem d_X11_shines_150 : decode M_X11_shines.2.1 150 = .ok (.iload_n 1, 1) := by decide +kernel
theorem d_X11_shines_151 : decode M_X11_shines.2.1 151 = .ok (.iaload, 1) := by decide +kernel
theorem d_X11_shines_152 : decode M_X11_shines.2.1 152 = .ok (.if_icmp .ge 83, 3) := by decide +kernel
theorem d_X11_shines_155 : decode M_X11_shines.2.1 155 = .ok (.iconst 0, 1) := by decide +kernel
theorem d_X11_shines_156 : decode M_X11_shines.2.1 156 = .ok (.istore 12, 2) := by decide +kernel
theorem d_X11_shines_158 : decode M_X11_shines.2.1 158 = .ok (.iconst 0, 1) := by decide +kernel
theorem d_X11_shines_159 : decode M_X11_shines.2.1 159 = .ok (.istore 13, 2) := by decide +kernel
theorem d_X11_shines_161 : decode M_X11_shines.2.1 161 = .ok (.iload 13, 2) := by decide +kernel
theorem d_X11_shines_163 : decode M_X11_shines.2.1 163 = .ok (.aload_n 0, 1) := by decide +kernel
theorem d_X11_shines_164 : decode M_X11_shines.2.1 164 = .ok (.getfield 67, 3) := by decide +kernel
theorem d_X11_shines_167 : decode M_X11_shines.2.1 167 = .ok (.iload_n 1, 1) := by decide +kernel
theorem d_X11_shines_168 : decode M_X11_shines.2.1 168 = .ok (.iaload, 1) := by decide +kernel
theorem d_X11_shines_169 : decode M_X11_shines.2.1 169 = .ok (.if_icmp .ge 33, 3) := by decide +kernel
theorem d_X11_shines_172 : decode M_X11_shines.2.1 172 = .ok (.iload 12, 2) := by decide +kernel
theorem d_X11_shines_174 : decode M_X11_shines.2.1 174 = .ok (.ifCond .ne 15, 3) := by decide +kernel
theorem d_X11_shines_177 : decode M_X11_shines.2.1 177 = .ok (.aload_n 0, 1) := by decide +kernel
theorem d_X11_shines_178 : decode M_X11_shines.2.1 178 = .ok (.iload_n 1, 1) := by decide +kernel
theorem d_X11_shines_179 : decode M_X11_shines.2.1 179 = .ok (.iload 11, 2) := by decide +kernel
theorem d_X11_shines_181 : decode M_X11_shines.2.1 181 = .ok (.iload 13, 2) := by decide +kernel
theorem d_X11_shines_183 : decode M_X11_shines.2.1 183 = .ok (.invokevirtual 352, 3) := by decide +kernel
theorem d_X11_shines_186 : decode M_X11_shines.2.1 186 = .ok (.ifCond .le 7, 3) := by decide +kernel
theorem d_X11_shines_189 : decode M_X11_shines.2.1 189 = .ok (.iconst 1, 1) := by decide +kernel
theorem d_X11_shines_190 : decode M_X11_shines.2.1 190 = .ok (.goto 4, 3) := by decide +kernel
theorem d_X11_shines_193 : decode M_X11_shines.2.1 193 = .ok (.iconst 0, 1) := by decide +kernel
theorem d_X11_shines_194 : decode M_X11_shines.2.1 194 = .ok (.istore 12, 2) := by decide +kernel
theorem d_X11_shines_196 : decode M_X11_shines.2.1 196 = .ok (.iinc 13 1, 3) := by decide +kernel
theorem d_X11_shines_199 : decode M_X11_shines.2.1 199 = .ok (.goto (-38), 3) := by decide +kernel
theorem d_X11_shines_202 : decode M_X11_shines.2.1 202 = .ok (.iload 12, 2) := by decide +kernel
theorem d_X11_shines_204 : decode M_X11_shines.2.1 204 = .ok (.ifCond .eq 25, 3) := by decide +kernel
theorem d_X11_shines_207 : decode M_X11_shines.2.1 207 = .ok (.ldc2_w 410, 3) := by decide +kernel
theorem d_X11_shines_210 : decode M_X11_shines.2.1 210 = .ok (.aload_n 0, 1) := by decide +kernel
theorem d_X11_shines_211 : decode M_X11_shines.2.1 211 = .ok (.getfield 128, 3) := by decide +kernel
theorem d_X11_shines_214 : decode M_X11_shines.2.1 214 = .ok (.iload 11, 2) := by decide +kernel
theorem d_X11_shines_216 : decode M_X11_shines.2.1 216 = .ok (.iaload, 1) := by decide +kernel
theorem d_X11_shines_217 : decode M_X11_shines.2.1 217 = .ok (.i2l, 1) := by decide +kernel
theorem d_X11_shines_218 : decode M_X11_shines.2.1 218 = .ok (.lmul, 1) := by decide +kernel
theorem d_X11_shines_219 : decode M_X11_shines.2.1 219 = .ok (.iload 9, 2) := by decide +kernel
theorem d_X11_shines_221 : decode M_X11_shines.2.1 221 = .ok (.i2l, 1) := by decide +kernel
theorem d_X11_shines_222 : decode M_X11_shines.2.1 222 = .ok (.lcmp, 1) := by decide +kernel
theorem d_X11_shines_223 : decode M_X11_shines.2.1 223 = .ok (.ifCond .ge 6, 3) := by decide +kernel
theorem d_X11_shines_226 : decode M_X11_shines.2.1 226 = .ok (.iinc 10 1, 3) := by decide +kernel
theorem d_X11_shines_229 : decode M_X11_shines.2.1 229 = .ok (.iinc 11 1, 3) := by decide +kernel
theorem d_X11_shines_232 : decode M_X11_shines.2.1 232 = .ok (.goto (-88), 3) := by decide +kernel
theorem d_X11_shines_235 : decode M_X11_shines.2.1 235 = .ok (.iconst 0, 1) := by decide +kernel
theorem d_X11_shines_236 : decode M_X11_shines.2.1 236 = .ok (.istore 11, 2) := by decide +kernel
theorem d_X11_shines_238 : decode M_X11_shines.2.1 238 = .ok (.iconst 0, 1) := by decide +kernel
theorem d_X11_shines_239 : decode M_X11_shines.2.1 239 = .ok (.istore 12, 2) := by decide +kernel
theorem d_X11_shines_241 : decode M_X11_shines.2.1 241 = .ok (.iload 12, 2) := by decide +kernel
theorem d_X11_shines_243 : decode M_X11_shines.2.1 243 = .ok (.aload_n 0, 1) := by decide +kernel
theorem d_X11_shines_244 : decode M_X11_shines.2.1 244 = .ok (.getfield 64, 3) := by decide +kernel
theorem d_X11_shines_247 : decode M_X11_shines.2.1 247 = .ok (.iload_n 1, 1) := by decide +kernel
theorem d_X11_shines_248 : decode M_X11_shines.2.1 248 = .ok (.iaload, 1) := by decide +kernel
theorem d_X11_shines_249 : decode M_X11_shines.2.1 249 = .ok (.iconst 2, 1) := by decide +kernel
theorem d_X11_shines_250 : decode M_X11_shines.2.1 250 = .ok (.idiv, 1) := by decide +kernel
theorem d_X11_shines_251 : decode M_X11_shines.2.1 251 = .ok (.if_icmp .ge 53, 3) := by decide +kernel
theorem d_X11_shines_254 : decode M_X11_shines.2.1 254 = .ok (.aload_n 0, 1) := by decide +kernel
theorem d_X11_shines_255 : decode M_X11_shines.2.1 255 = .ok (.getfield 128, 3) := by decide +kernel
theorem d_X11_shines_258 : decode M_X11_shines.2.1 258 = .ok (.iload 12, 2) := by decide +kernel
theorem d_X11_shines_260 : decode M_X11_shines.2.1 260 = .ok (.iaload, 1) := by decide +kernel
theorem d_X11_shines_261 : decode M_X11_shines.2.1 261 = .ok (.aload_n 0, 1) := by decide +kernel
theorem d_X11_shines_262 : decode M_X11_shines.2.1 262 = .ok (.getfield 128, 3) := by decide +kernel
theorem d_X11_shines_265 : decode M_X11_shines.2.1 265 = .ok (.aload_n 0, 1) := by decide +kernel
theorem d_X11_shines_266 : decode M_X11_shines.2.1 266 = .ok (.getfield 64, 3) := by decide +kernel
theorem d_X11_shines_269 : decode M_X11_shines.2.1 269 = .ok (.iload_n 1, 1) := by decide +kernel
theorem d_X11_shines_270 : decode M_X11_shines.2.1 270 = .ok (.iaload, 1) := by decide +kernel
theorem d_X11_shines_271 : decode M_X11_shines.2.1 271 = .ok (.iconst 1, 1) := by decide +kernel
theorem d_X11_shines_272 : decode M_X11_shines.2.1 272 = .ok (.isub, 1) := by decide +kernel
theorem d_X11_shines_273 : decode M_X11_shines.2.1 273 = .ok (.iload 12, 2) := by decide +kernel
theorem d_X11_shines_275 : decode M_X11_shines.2.1 275 = .ok (.isub, 1) := by decide +kernel
theorem d_X11_shines_276 : decode M_X11_shines.2.1 276 = .ok (.iaload, 1) := by decide +kernel
theorem d_X11_shines_277 : decode M_X11_shines.2.1 277 = .ok (.isub, 1) := by decide +kernel
theorem d_X11_shines_278 : decode M_X11_shines.2.1 278 = .ok (.istore 13, 2) := by decide +kernel
theorem d_X11_shines_280 : decode M_X11_shines.2.1 280 = .ok (.iload 11, 2) := by decide +kernel
theorem d_X11_shines_282 : decode M_X11_shines.2.1 282 = .ok (.iload 13, 2) := by decide +kernel
theorem d_X11_shines_284 : decode M_X11_shines.2.1 284 = .ok (.ifCond .ge 9, 3) := by decide +kernel
theorem d_X11_shines_287 : decode M_X11_shines.2.1 287 = .ok (.iload 13, 2) := by decide +kernel
theorem d_X11_shines_289 : decode M_X11_shines.2.1 289 = .ok (.ineg, 1) := by decide +kernel
theorem d_X11_shines_290 : decode M_X11_shines.2.1 290 = .ok (.goto 5, 3) := by decide +kernel
theorem d_X11_shines_293 : decode M_X11_shines.2.1 293 = .ok (.iload 13, 2) := by decide +kernel
theorem d_X11_shines_295 : decode M_X11_shines.2.1 295 = .ok (.iadd, 1) := by decide +kernel
theorem d_X11_shines_296 : decode M_X11_shines.2.1 296 = .ok (.istore 11, 2) := by decide +kernel
theorem d_X11_shines_298 : decode M_X11_shines.2.1 298 = .ok (.iinc 12 1, 3) := by decide +kernel
theorem d_X11_shines_301 : decode M_X11_shines.2.1 301 = .ok (.goto (-60), 3) := by decide +kernel
theorem d_X11_shines_304 : decode M_X11_shines.2.1 304 = .ok (.aload_n 0, 1) := by decide +kernel
theorem d_X11_shines_305 : decode M_X11_shines.2.1 305 = .ok (.getfield 119, 3) := by decide +kernel
theorem d_X11_shines_308 : decode M_X11_shines.2.1 308 = .ok (.iconst 0, 1) := by decide +kernel
theorem d_X11_shines_309 : decode M_X11_shines.2.1 309 = .ok (.aload_n 0, 1) := by decide +kernel
theorem d_X11_shines_310 : decode M_X11_shines.2.1 310 = .ok (.getfield 125, 3) := by decide +kernel
theorem d_X11_shines_313 : decode M_X11_shines.2.1 313 = .ok (.iconst 0, 1) := by decide +kernel
theorem d_X11_shines_314 : decode M_X11_shines.2.1 314 = .ok (.iaload, 1) := by decide +kernel
theorem d_X11_shines_315 : decode M_X11_shines.2.1 315 = .ok (.iastore, 1) := by decide +kernel
theorem d_X11_shines_316 : decode M_X11_shines.2.1 316 = .ok (.aload_n 0, 1) := by decide +kernel
theorem d_X11_shines_317 : decode M_X11_shines.2.1 317 = .ok (.getfield 119, 3) := by decide +kernel
theorem d_X11_shines_320 : decode M_X11_shines.2.1 320 = .ok (.iconst 1, 1) := by decide +kernel
theorem d_X11_shines_321 : decode M_X11_shines.2.1 321 = .ok (.aload_n 0, 1) := by decide +kernel
theorem d_X11_shines_322 : decode M_X11_shines.2.1 322 = .ok (.getfield 125, 3) := by decide +kernel
theorem d_X11_shines_325 : decode M_X11_shines.2.1 325 = .ok (.iconst 1, 1) := by decide +kernel
theorem d_X11_shines_326 : decode M_X11_shines.2.1 326 = .ok (.iaload, 1) := by decide +kernel
theorem d_X11_shines_327 : decode M_X11_shines.2.1 327 = .ok (.aload_n 0, 1) := by decide +kernel
theorem d_X11_shines_328 : decode M_X11_shines.2.1 328 = .ok (.getfield 125, 3) := by decide +kernel
theorem d_X11_shines_331 : decode M_X11_shines.2.1 331 = .ok (.iconst 2, 1) := by decide +kernel
theorem d_X11_shines_332 : decode M_X11_shines.2.1 332 = .ok (.iaload, 1) := by decide +kernel
theorem d_X11_shines_333 : decode M_X11_shines.2.1 333 = .ok (.iadd, 1) := by decide +kernel
theorem d_X11_shines_334 : decode M_X11_shines.2.1 334 = .ok (.aload_n 0, 1) := by decide +kernel
theorem d_X11_shines_335 : decode M_X11_shines.2.1 335 = .ok (.getfield 125, 3) := by decide +kernel
theorem d_X11_shines_338 : decode M_X11_shines.2.1 338 = .ok (.iconst 3, 1) := by decide +kernel
theorem d_X11_shines_339 : decode M_X11_shines.2.1 339 = .ok (.iaload, 1) := by decide +kernel
theorem d_X11_shines_340 : decode M_X11_shines.2.1 340 = .ok (.iadd, 1) := by decide +kernel
theorem d_X11_shines_341 : decode M_X11_shines.2.1 341 = .ok (.iastore, 1) := by decide +kernel
theorem d_X11_shines_342 : decode M_X11_shines.2.1 342 = .ok (.aload_n 0, 1) := by decide +kernel
theorem d_X11_shines_343 : decode M_X11_shines.2.1 343 = .ok (.getfield 119, 3) := by decide +kernel
theorem d_X11_shines_346 : decode M_X11_shines.2.1 346 = .ok (.iconst 2, 1) := by decide +kernel
theorem d_X11_shines_347 : decode M_X11_shines.2.1 347 = .ok (.iload 10, 2) := by decide +kernel
theorem d_X11_shines_349 : decode M_X11_shines.2.1 349 = .ok (.iastore, 1) := by decide +kernel
theorem d_X11_shines_350 : decode M_X11_shines.2.1 350 = .ok (.aload_n 0, 1) := by decide +kernel
theorem d_X11_shines_351 : decode M_X11_shines.2.1 351 = .ok (.getfield 119, 3) := by decide +kernel
theorem d_X11_shines_354 : decode M_X11_shines.2.1 354 = .ok (.iconst 3, 1) := by decide +kernel
theorem d_X11_shines_355 : decode M_X11_shines.2.1 355 = .ok (.aload_n 0, 1) := by decide +kernel
theorem d_X11_shines_356 : decode M_X11_shines.2.1 356 = .ok (.iload_n 1, 1) := by decide +kernel
theorem d_X11_shines_357 : decode M_X11_shines.2.1 357 = .ok (.invokevirtual 387, 3) := by decide +kernel
theorem d_X11_shines_360 : decode M_X11_shines.2.1 360 = .ok (.iastore, 1) := by decide +kernel
theorem d_X11_shines_361 : decode M_X11_shines.2.1 361 = .ok (.aload_n 0, 1) := by decide +kernel
theorem d_X11_shines_362 : decode M_X11_shines.2.1 362 = .ok (.getfield 119, 3) := by decide +kernel
theorem d_X11_shines_365 : decode M_X11_shines.2.1 365 = .ok (.iconst 4, 1) := by decide +kernel
theorem d_X11_shines_366 : decode M_X11_shines.2.1 366 = .ok (.iload 11, 2) := by decide +kernel
theorem d_X11_shines_368 : decode M_X11_shines.2.1 368 = .ok (.iastore, 1) := by decide +kernel
theorem d_X11_shines_369 : decode M_X11_shines.2.1 369 = .ok (.aload_n 0, 1) := by decide +kernel
theorem d_X11_shines_370 : decode M_X11_shines.2.1 370 = .ok (.getfield 119, 3) := by decide +kernel
theorem d_X11_shines_373 : decode M_X11_shines.2.1 373 = .ok (.iconst 5, 1) := by decide +kernel
theorem d_X11_shines_374 : decode M_X11_shines.2.1 374 = .ok (.aload_n 0, 1) := by decide +kernel
theorem d_X11_shines_375 : decode M_X11_shines.2.1 375 = .ok (.getfield 340, 3) := by decide +kernel
theorem d_X11_shines_378 : decode M_X11_shines.2.1 378 = .ok (.iastore, 1) := by decide +kernel
theorem d_X11_shines_379 : decode M_X11_shines.2.1 379 = .ok (.aload_n 0, 1) := by decide +kernel
theorem d_X11_shines_380 : decode M_X11_shines.2.1 380 = .ok (.getfield 119, 3) := by decide +kernel
theorem d_X11_shines_383 : decode M_X11_shines.2.1 383 = .ok (.bipush 6, 2) := by decide +kernel
theorem d_X11_shines_385 : decode M_X11_shines.2.1 385 = .ok (.aload_n 0, 1) := by decide +kernel
theorem d_X11_shines_386 : decode M_X11_shines.2.1 386 = .ok (.getfield 64, 3) := by decide +kernel
theorem d_X11_shines_389 : decode M_X11_shines.2.1 389 = .ok (.iload_n 1, 1) := by decide +kernel
theorem d_X11_shines_390 : decode M_X11_shines.2.1 390 = .ok (.iaload, 1) := by decide +kernel
theorem d_X11_shines_391 : decode M_X11_shines.2.1 391 = .ok (.iastore, 1) := by decide +kernel
theorem d_X11_shines_392 : decode M_X11_shines.2.1 392 = .ok (.aload_n 0, 1) := by decide +kernel
theorem d_X11_shines_393 : decode M_X11_shines.2.1 393 = .ok (.getfield 119, 3) := by decide +kernel
theorem d_X11_shines_396 : decode M_X11_shines.2.1 396 = .ok (.bipush 7, 2) := by decide +kernel
theorem d_X11_shines_398 : decode M_X11_shines.2.1 398 = .ok (.iload_n 3, 1) := by decide +kernel
theorem d_X11_shines_399 : decode M_X11_shines.2.1 399 = .ok (.iastore, 1) := by decide +kernel
theorem d_X11_shines_400 : decode M_X11_shines.2.1 400 = .ok (.return_, 1) := by decide +kernel
theorem ce_X11_shines : zw_CeV M_X11_shines 8 := ⟨⟨⟨by decide +kernel, by decide +kernel, by decide +kernel⟩, (zw_mG (List.mem_of_getElem? (i := 1606) (by decide +kernel)) rfl), (zw_mG (List.mem_of_getElem? (i := 108) (by decide +kernel)) rfl), by decide, by decide +kernel⟩, (zw_mG (List.mem_of_getElem? (i := 1605) (by decide +kernel)) rfl), (zw_mG (List.mem_of_getElem? (i := 80) (by decide +kernel)) rfl)⟩
def j_X11_shines_44_7 (v0 : Nat) (v1 : Int32) (v2 : Int32) (v3 : Int32) (v4 : Int32) (v5 : Int32) (v6 : Int32) (v7 : Int32) (v8 : Int32) (v9 : Int32) (I : zI) (R : zR) : Option ((Int32 × zI) ⊕ (zI)) :=
  zw_let (v9 + 1 : Int32) fun x10 => (some (.inl (x10, I)))
theorem j_X11_shines_44_7_ok (X : zw_X) (P : Option Value → aS → Prop) (v0 : Nat) (v1 : Int32) (v2 : Int32) (v3 : Int32) (v4 : Int32) (v5 : Int32) (v6 : Int32) (v7 : Int32) (v8 : Int32) (v9 : Int32) (I : zI) (R : zR) (J : zJ) (o : (Int32 × zI) ⊕ (zI)) (hf : j_X11_shines_44_7 v0 v1 v2 v3 v4 v5 v6 v7 v8 v9 I R = some o) (hk : (zw_se (fun t => zy_V X M_X11_shines 4 P 7 [.ref v0, .int v1, .int v2, .int v3, .int v4, .int v5, .int v6, .int v7, .int v8, .int t.1, .null, .null, .null, .null] [] (t.2, R, J)) (fun r => zy_V X M_X11_shines 4 P 50 [.ref v0, .int v1, .int v2, .int v3, .null, .int v5, .int v6, .null, .null, .null, .null, .null, .null, .null] [] (r, R, J)) o)) : zy_V X M_X11_shines 4 P 44 [.ref v0, .int v1, .int v2, .int v3, .int v4, .int v5, .int v6, .int v7, .int v8, .int v9, .null, .null, .null, .null] [] (I, R, J) := by
  unfold j_X11_shines_44_7 at hf
  obtain ⟨x10, ex10, hf⟩ := zw_letE hf
  refine zx_iinc (pc := 44) (x2 := x10) (L2 := [.ref v0, .int v1, .int v2, .int v3, .int v4, .int v5, .int v6, .int v7, .int v8, .int x10, .null, .null, .null, .null]) d_X11_shines_44 (by decide) rfl zc_i_1 ex10 rfl ?_
  refine zv_goto (pc := 47) (tg := 7) d_X11_shines_47 (by decide) ?_
  cases hf
  exact zx_weak (zw_leS (zw_leS (zw_leS (zw_leS (zw_leS (zw_leS (zw_leS (zw_leS (zw_leS (zw_leS (zw_leN (zw_leN (zw_leN (zw_leN zw_leZ)))))))))))))) hk
def j_X11_shines_32_7 (v0 : Nat) (v1 : Int32) (v2 : Int32) (v3 : Int32) (v4 : Int32) (v5 : Int32) (v6 : Int32) (v7 : Int32) (v8 : Int32) (v9 : Int32) (I : zI) (R : zR) : Option ((Int32 × zI) ⊕ (zI)) :=
  zw_g (zw_gc v0 11) ((f_X11_lamp v0 v1 v2 v3 0 v9 v4 I R).bind fun q9 => (j_X11_shines_44_7 v0 v1 v2 v3 v4 v5 v6 v7 v8 v9 q9 R))
theorem j_X11_shines_32_7_ok (X : zw_X) (P : Option Value → aS → Prop) (v0 : Nat) (v1 : Int32) (v2 : Int32) (v3 : Int32) (v4 : Int32) (v5 : Int32) (v6 : Int32) (v7 : Int32) (v8 : Int32) (v9 : Int32) (I : zI) (R : zR) (J : zJ) (o : (Int32 × zI) ⊕ (zI)) (hf : j_X11_shines_32_7 v0 v1 v2 v3 v4 v5 v6 v7 v8 v9 I R = some o) (hk : (zw_se (fun t => zy_V X M_X11_shines 4 P 7 [.ref v0, .int v1, .int v2, .int v3, .int v4, .int v5, .int v6, .int v7, .int v8, .int t.1, .null, .null, .null, .null] [] (t.2, R, J)) (fun r => zy_V X M_X11_shines 4 P 50 [.ref v0, .int v1, .int v2, .int v3, .null, .int v5, .int v6, .null, .null, .null, .null, .null, .null, .null] [] (r, R, J)) o)) : zy_V X M_X11_shines 4 P 32 [.ref v0, .int v1, .int v2, .int v3, .int v4, .int v5, .int v6, .int v7, .int v8, .int v9, .null, .null, .null, .null] [] (I, R, J) := by
  unfold j_X11_shines_32_7 at hf
  refine zv_aload_n (pc := 32) d_X11_shines_32 rfl ?_
  refine zv_iload_n (pc := 33) d_X11_shines_33 rfl ?_
  refine zv_iload_n (pc := 34) d_X11_shines_34 rfl ?_
  refine zv_iload_n (pc := 35) d_X11_shines_35 rfl ?_
  refine zv_iconst (pc := 36) d_X11_shines_36 zc_i_0 ?_
  refine zv_iload (pc := 37) d_X11_shines_37 rfl ?_
  refine zv_iload (pc := 39) d_X11_shines_39 rfl ?_
  obtain ⟨g8, hf⟩ := zw_gcE hf (by decide)
  obtain ⟨q9, hq9, hf⟩ := zw_bdE hf
  refine zx_callV (pc := 41) (As := [.int v1, .int v2, .int v3, .int 0, .int v9, .int v4]) (o := v0) (st := []) (d2 := 3) (M2 := M_X11_lamp) (P2 := (fun r S => r = none ∧ S = (q9, R, J))) d_X11_shines_41 (zw_mG (List.mem_of_getElem? (i := 1564) (by decide +kernel)) rfl) ce_X11_lamp (zw_RvK g8 rfl rfl) (Nat.le_of_ble_eq_true rfl) rfl (Nat.le_of_ble_eq_true rfl) (by decide) (c_X11_lamp X v0 v1 v2 v3 0 v9 v4 I R J _ hq9 ⟨rfl, rfl⟩) ?_
  rintro _ _ ⟨rfl, rfl⟩
  show zy_V X M_X11_shines 4 P (41 + 3) [.ref v0, .int v1, .int v2, .int v3, .int v4, .int v5, .int v6, .int v7, .int v8, .int v9, .null, .null, .null, .null] [] (q9, R, J)
  exact zx_weak (zw_leS (zw_leS (zw_leS (zw_leS (zw_leS (zw_leS (zw_leS (zw_leS (zw_leS (zw_leS (zw_leN (zw_leN (zw_leN (zw_leN zw_leZ)))))))))))))) (j_X11_shines_44_7_ok X P v0 v1 v2 v3 v4 v5 v6 v7 v8 v9 q9 R J _ hf hk)
def s_X11_shines_7 (v0 : Nat) (v1 : Int32) (v2 : Int32) (v3 : Int32) (v4 : Int32) (v5 : Int32) (v6 : Int32) (v7 : Int32) (v8 : Int32) (R : zR) (s : Int32 × zI) : Option ((Int32 × zI) ⊕ (zI)) :=
  zw_g (zw_gc v0 11) (zw_g (zw_gc (R v0 28) 13) (zw_g (zw_in v1 (zw_SH (R v0 28)).2) (if (s.2 (R v0 28) (Int32.toNatClampNeg v1)) ≤ s.1 then some (.inr s.2) else if s.1 < v7 then j_X11_shines_32_7 v0 v1 v2 v3 v4 v5 v6 v7 v8 s.1 s.2 R else if s.1 ≤ v8 then j_X11_shines_44_7 v0 v1 v2 v3 v4 v5 v6 v7 v8 s.1 s.2 R else j_X11_shines_32_7 v0 v1 v2 v3 v4 v5 v6 v7 v8 s.1 s.2 R)))
theorem s_X11_shines_7_ok (X : zw_X) (P : Option Value → aS → Prop) (v0 : Nat) (v1 : Int32) (v2 : Int32) (v3 : Int32) (v4 : Int32) (v5 : Int32) (v6 : Int32) (v7 : Int32) (v8 : Int32) (R : zR) (J : zJ) (s : Int32 × zI) (o : (Int32 × zI) ⊕ (zI)) (hf : s_X11_shines_7 v0 v1 v2 v3 v4 v5 v6 v7 v8 R s = some o) (hk : (zw_se (fun t => zy_V X M_X11_shines 4 P 7 [.ref v0, .int v1, .int v2, .int v3, .int v4, .int v5, .int v6, .int v7, .int v8, .int t.1, .null, .null, .null, .null] [] (t.2, R, J)) (fun r => zy_V X M_X11_shines 4 P 50 [.ref v0, .int v1, .int v2, .int v3, .null, .int v5, .int v6, .null, .null, .null, .null, .null, .null, .null] [] (r, R, J)) o)) : zy_V X M_X11_shines 4 P 7 [.ref v0, .int v1, .int v2, .int v3, .int v4, .int v5, .int v6, .int v7, .int v8, .int s.1, .null, .null, .null, .null] [] (s.2, R, J) := by
  unfold s_X11_shines_7 at hf
  refine zv_iload (pc := 7) d_X11_shines_7 rfl ?_
  refine zv_aload_n (pc := 9) d_X11_shines_9 rfl ?_
  obtain ⟨g3, hf⟩ := zw_gcE hf (by decide)
  obtain ⟨g4, hf⟩ := zw_gcE hf (by decide)
  refine zx_getR (pc := 10) d_X11_shines_10 lk_CutStonesModel_64 (by decide) g3 g4 ?_
  refine zv_iload_n (pc := 13) d_X11_shines_13 rfl ?_
  obtain ⟨i5, hf⟩ := zw_inE hf
  refine zx_iald (pc := 14) d_X11_shines_14 g4 i5 ?_
  rcases zw_ifE hf with ⟨c6, hf⟩ | ⟨c6, hf⟩
  · refine zv_icmp_ge (pc := 15) (tg := 50) d_X11_shines_15 (by decide) (fun _ => ?_) (fun q => absurd c6 q)
    cases hf
    exact zx_weak (zw_leS (zw_leS (zw_leS (zw_leS (zw_leN (zw_leS (zw_leS (zw_leN (zw_leN (zw_leN (zw_leN (zw_leN (zw_leN (zw_leN zw_leZ)))))))))))))) hk
  · refine zv_icmp_ge (pc := 15) (tg := 50) d_X11_shines_15 (by decide) (fun q => absurd q c6) (fun _ => ?_)
    refine zv_iload (pc := 18) d_X11_shines_18 rfl ?_
    refine zv_iload (pc := 20) d_X11_shines_20 rfl ?_
    rcases zw_ifE hf with ⟨c7, hf⟩ | ⟨c7, hf⟩
    · refine zv_icmp_lt (pc := 22) (tg := 32) d_X11_shines_22 (by decide) (fun _ => ?_) (fun q => absurd c7 q)
      exact zx_weak (zw_leS (zw_leS (zw_leS (zw_leS (zw_leS (zw_leS (zw_leS (zw_leS (zw_leS (zw_leS (zw_leN (zw_leN (zw_leN (zw_leN zw_leZ)))))))))))))) (j_X11_shines_32_7_ok X P v0 v1 v2 v3 v4 v5 v6 v7 v8 s.1 s.2 R J _ hf hk)
    · refine zv_icmp_lt (pc := 22) (tg := 32) d_X11_shines_22 (by decide) (fun q => absurd q c7) (fun _ => ?_)
      refine zv_iload (pc := 25) d_X11_shines_25 rfl ?_
      refine zv_iload (pc := 27) d_X11_shines_27 rfl ?_
      rcases zw_ifE hf with ⟨c11, hf⟩ | ⟨c11, hf⟩
      · refine zv_icmp_le (pc := 29) (tg := 44) d_X11_shines_29 (by decide) (fun _ => ?_) (fun q => absurd c11 q)
        exact zx_weak (zw_leS (zw_leS (zw_leS (zw_leS (zw_leS (zw_leS (zw_leS (zw_leS (zw_leS (zw_leS (zw_leN (zw_leN (zw_leN (zw_leN zw_leZ)))))))))))))) (j_X11_shines_44_7_ok X P v0 v1 v2 v3 v4 v5 v6 v7 v8 s.1 s.2 R J _ hf hk)
      · refine zv_icmp_le (pc := 29) (tg := 44) d_X11_shines_29 (by decide) (fun q => absurd q c11) (fun _ => ?_)
        exact zx_weak (zw_leS (zw_leS (zw_leS (zw_leS (zw_leS (zw_leS (zw_leS (zw_leS (zw_leS (zw_leS (zw_leN (zw_leN (zw_leN (zw_leN zw_leZ)))))))))))))) (j_X11_shines_32_7_ok X P v0 v1 v2 v3 v4 v5 v6 v7 v8 s.1 s.2 R J _ hf hk)
theorem s_X11_shines_7_lp (X : zw_X) (P : Option Value → aS → Prop) (v0 : Nat) (v1 : Int32) (v2 : Int32) (v3 : Int32) (v4 : Int32) (v5 : Int32) (v6 : Int32) (v7 : Int32) (v8 : Int32) (R : zR) (J : zJ) (n : Nat) (s : Int32 × zI) (r : zI) (h : zw_it (s_X11_shines_7 v0 v1 v2 v3 v4 v5 v6 v7 v8 R) n s = some r) (hq : zy_V X M_X11_shines 4 P 50 [.ref v0, .int v1, .int v2, .int v3, .null, .int v5, .int v6, .null, .null, .null, .null, .null, .null, .null] [] (r, R, J)) : zy_V X M_X11_shines 4 P 7 [.ref v0, .int v1, .int v2, .int v3, .int v4, .int v5, .int v6, .int v7, .int v8, .int s.1, .null, .null, .null, .null] [] (s.2, R, J) :=
  zw_itE (A := (fun t : Int32 × zI => zy_V X M_X11_shines 4 P 7 [.ref v0, .int v1, .int v2, .int v3, .int v4, .int v5, .int v6, .int v7, .int v8, .int t.1, .null, .null, .null, .null] [] (t.2, R, J))) (Q := (fun r : zI => zy_V X M_X11_shines 4 P 50 [.ref v0, .int v1, .int v2, .int v3, .null, .int v5, .int v6, .null, .null, .null, .null, .null, .null, .null] [] (r, R, J))) (fun s o h1 h2 => s_X11_shines_7_ok X P v0 v1 v2 v3 v4 v5 v6 v7 v8 R J s o h1 h2) n s r h hq
def s_X11_shines_53 (v0 : Nat) (v1 : Int32) (v2 : Int32) (v3 : Int32) (v5 : Int32) (v6 : Int32) (R : zR) (s : Int32 × zI) : Option ((Int32 × zI) ⊕ (zI)) :=
  zw_g (zw_gc v0 11) (zw_g (zw_gc (R v0 29) 13) (zw_g (zw_in v1 (zw_SH (R v0 29)).2) (if (s.2 (R v0 29) (Int32.toNatClampNeg v1)) ≤ s.1 then some (.inr s.2) else (f_X11_lamp v0 v1 v2 v3 3 s.1 v5 s.2 R).bind fun q17 => ((f_X11_lamp v0 v1 v2 v3 1 s.1 v6 q17 R).bind fun q18 => (zw_let (s.1 + 1 : Int32) fun x19 => (some (.inl (x19, q18))))))))
theorem s_X11_shines_53_ok (X : zw_X) (P : Option Value → aS → Prop) (v0 : Nat) (v1 : Int32) (v2 : Int32) (v3 : Int32) (v5 : Int32) (v6 : Int32) (R : zR) (J : zJ) (s : Int32 × zI) (o : (Int32 × zI) ⊕ (zI)) (hf : s_X11_shines_53 v0 v1 v2 v3 v5 v6 R s = some o) (hk : (zw_se (fun t => zy_V X M_X11_shines 4 P 53 [.ref v0, .int v1, .int v2, .int v3, .null, .int v5, .int v6, .null, .null, .int t.1, .null, .null, .null, .null] [] (t.2, R, J)) (fun r => zy_V X M_X11_shines 4 P 94 [.ref v0, .int v1, .null, .int v3, .null, .null, .null, .null, .null, .null, .null, .null, .null, .null] [] (r, R, J)) o)) : zy_V X M_X11_shines 4 P 53 [.ref v0, .int v1, .int v2, .int v3, .null, .int v5, .int v6, .null, .null, .int s.1, .null, .null, .null, .null] [] (s.2, R, J) := by
  unfold s_X11_shines_53 at hf
  refine zv_iload (pc := 53) d_X11_shines_53 rfl ?_
  refine zv_aload_n (pc := 55) d_X11_shines_55 rfl ?_
  obtain ⟨g13, hf⟩ := zw_gcE hf (by decide)
  obtain ⟨g14, hf⟩ := zw_gcE hf (by decide)
  refine zx_getR (pc := 56) d_X11_shines_56 lk_CutStonesModel_67 (by decide) g13 g14 ?_
  refine zv_iload_n (pc := 59) d_X11_shines_59 rfl ?_
  obtain ⟨i15, hf⟩ := zw_inE hf
  refine zx_iald (pc := 60) d_X11_shines_60 g14 i15 ?_
  rcases zw_ifE hf with ⟨c16, hf⟩ | ⟨c16, hf⟩
  · refine zv_icmp_ge (pc := 61) (tg := 94) d_X11_shines_61 (by decide) (fun _ => ?_) (fun q => absurd c16 q)
    cases hf
    exact zx_weak (zw_leS (zw_leS (zw_leN (zw_leS (zw_leN (zw_leN (zw_leN (zw_leN (zw_leN (zw_leN (zw_leN (zw_leN (zw_leN (zw_leN zw_leZ)))))))))))))) hk
  · refine zv_icmp_ge (pc := 61) (tg := 94) d_X11_shines_61 (by decide) (fun q => absurd q c16) (fun _ => ?_)
    refine zv_aload_n (pc := 64) d_X11_shines_64 rfl ?_
    refine zv_iload_n (pc := 65) d_X11_shines_65 rfl ?_
    refine zv_iload_n (pc := 66) d_X11_shines_66 rfl ?_
    refine zv_iload_n (pc := 67) d_X11_shines_67 rfl ?_
    refine zv_iconst (pc := 68) d_X11_shines_68 zc_i_3 ?_
    refine zv_iload (pc := 69) d_X11_shines_69 rfl ?_
    refine zv_iload (pc := 71) d_X11_shines_71 rfl ?_
    obtain ⟨q17, hq17, hf⟩ := zw_bdE hf
    refine zx_callV (pc := 73) (As := [.int v1, .int v2, .int v3, .int 3, .int s.1, .int v5]) (o := v0) (st := []) (d2 := 3) (M2 := M_X11_lamp) (P2 := (fun r S => r = none ∧ S = (q17, R, J))) d_X11_shines_73 (zw_mG (List.mem_of_getElem? (i := 1564) (by decide +kernel)) rfl) ce_X11_lamp (zw_RvK g13 rfl rfl) (Nat.le_of_ble_eq_true rfl) rfl (Nat.le_of_ble_eq_true rfl) (by decide) (c_X11_lamp X v0 v1 v2 v3 3 s.1 v5 s.2 R J _ hq17 ⟨rfl, rfl⟩) ?_
    rintro _ _ ⟨rfl, rfl⟩
    show zy_V X M_X11_shines 4 P (73 + 3) [.ref v0, .int v1, .int v2, .int v3, .null, .int v5, .int v6, .null, .null, .int s.1, .null, .null, .null, .null] [] (q17, R, J)
    refine zv_aload_n (pc := 76) d_X11_shines_76 rfl ?_
    refine zv_iload_n (pc := 77) d_X11_shines_77 rfl ?_
    refine zv_iload_n (pc := 78) d_X11_shines_78 rfl ?_
    refine zv_iload_n (pc := 79) d_X11_shines_79 rfl ?_
    refine zv_iconst (pc := 80) d_X11_shines_80 zc_i_1 ?_
    refine zv_iload (pc := 81) d_X11_shines_81 rfl ?_
    refine zv_iload (pc := 83) d_X11_shines_83 rfl ?_
    obtain ⟨q18, hq18, hf⟩ := zw_bdE hf
    refine zx_callV (pc := 85) (As := [.int v1, .int v2, .int v3, .int 1, .int s.1, .int v6]) (o := v0) (st := []) (d2 := 3) (M2 := M_X11_lamp) (P2 := (fun r S => r = none ∧ S = (q18, R, J))) d_X11_shines_85 (zw_mG (List.mem_of_getElem? (i := 1564) (by decide +kernel)) rfl) ce_X11_lamp (zw_RvK g13 rfl rfl) (Nat.le_of_ble_eq_true rfl) rfl (Nat.le_of_ble_eq_true rfl) (by decide) (c_X11_lamp X v0 v1 v2 v3 1 s.1 v6 q17 R J _ hq18 ⟨rfl, rfl⟩) ?_
    rintro _ _ ⟨rfl, rfl⟩
    show zy_V X M_X11_shines 4 P (85 + 3) [.ref v0, .int v1, .int v2, .int v3, .null, .int v5, .int v6, .null, .null, .int s.1, .null, .null, .null, .null] [] (q18, R, J)
    obtain ⟨x19, ex19, hf⟩ := zw_letE hf
    refine zx_iinc (pc := 88) (x2 := x19) (L2 := [.ref v0, .int v1, .int v2, .int v3, .null, .int v5, .int v6, .null, .null, .int x19, .null, .null, .null, .null]) d_X11_shines_88 (by decide) rfl zc_i_1 ex19 rfl ?_
    refine zv_goto (pc := 91) (tg := 53) d_X11_shines_91 (by decide) ?_
    cases hf
    exact zx_weak (zw_leS (zw_leS (zw_leS (zw_leS (zw_leN (zw_leS (zw_leS (zw_leN (zw_leN (zw_leS (zw_leN (zw_leN (zw_leN (zw_leN zw_leZ)))))))))))))) hk
theorem s_X11_shines_53_lp (X : zw_X) (P : Option Value → aS → Prop) (v0 : Nat) (v1 : Int32) (v2 : Int32) (v3 : Int32) (v5 : Int32) (v6 : Int32) (R : zR) (J : zJ) (n : Nat) (s : Int32 × zI) (r : zI) (h : zw_it (s_X11_shines_53 v0 v1 v2 v3 v5 v6 R) n s = some r) (hq : zy_V X M_X11_shines 4 P 94 [.ref v0, .int v1, .null, .int v3, .null, .null, .null, .null, .null, .null, .null, .null, .null, .null] [] (r, R, J)) : zy_V X M_X11_shines 4 P 53 [.ref v0, .int v1, .int v2, .int v3, .null, .int v5, .int v6, .null, .null, .int s.1, .null, .null, .null, .null] [] (s.2, R, J) :=
  zw_itE (A := (fun t : Int32 × zI => zy_V X M_X11_shines 4 P 53 [.ref v0, .int v1, .int v2, .int v3, .null, .int v5, .int v6, .null, .null, .int t.1, .null, .null, .null, .null] [] (t.2, R, J))) (Q := (fun r : zI => zy_V X M_X11_shines 4 P 94 [.ref v0, .int v1, .null, .int v3, .null, .null, .null, .null, .null, .null, .null, .null, .null, .null] [] (r, R, J))) (fun s o h1 h2 => s_X11_shines_53_ok X P v0 v1 v2 v3 v5 v6 R J s o h1 h2) n s r h hq
def j_X11_shines_132_100 (v0 : Nat) (v1 : Int32) (v3 : Int32) (v9 : Int32) (v10 : Int32) (I : zI) (R : zR) : Option ((Int32 × Int32) ⊕ (Int32)) :=
  zw_let (v10 + 1 : Int32) fun x28 => (some (.inl (v9, x28)))
theorem j_X11_shines_132_100_ok (X : zw_X) (P : Option Value → aS → Prop) (v0 : Nat) (v1 : Int32) (v3 : Int32) (v9 : Int32) (v10 : Int32) (I : zI) (R : zR) (J : zJ) (o : (Int32 × Int32) ⊕ (Int32)) (hf : j_X11_shines_132_100 v0 v1 v3 v9 v10 I R = some o) (hk : (zw_se (fun t => zy_V X M_X11_shines 4 P 100 [.ref v0, .int v1, .null, .int v3, .null, .null, .null, .null, .null, .int t.1, .int t.2, .null, .null, .null] [] (I, R, J)) (fun r => zy_V X M_X11_shines 4 P 138 [.ref v0, .int v1, .null, .int v3, .null, .null, .null, .null, .null, .int r, .null, .null, .null, .null] [] (I, R, J)) o)) : zy_V X M_X11_shines 4 P 132 [.ref v0, .int v1, .null, .int v3, .null, .null, .null, .null, .null, .int v9, .int v10, .null, .null, .null] [] (I, R, J) := by
  unfold j_X11_shines_132_100 at hf
  obtain ⟨x28, ex28, hf⟩ := zw_letE hf
  refine zx_iinc (pc := 132) (x2 := x28) (L2 := [.ref v0, .int v1, .null, .int v3, .null, .null, .null, .null, .null, .int v9, .int x28, .null, .null, .null]) d_X11_shines_132 (by decide) rfl zc_i_1 ex28 rfl ?_
  refine zv_goto (pc := 135) (tg := 100) d_X11_shines_135 (by decide) ?_
  cases hf
  exact zx_weak (zw_leS (zw_leS (zw_leN (zw_leS (zw_leN (zw_leN (zw_leN (zw_leN (zw_leN (zw_leS (zw_leS (zw_leN (zw_leN (zw_leN zw_leZ)))))))))))))) hk
def s_X11_shines_100 (v0 : Nat) (v1 : Int32) (v3 : Int32) (I : zI) (R : zR) (s : Int32 × Int32) : Option ((Int32 × Int32) ⊕ (Int32)) :=
  zw_g (zw_gc v0 11) (zw_g (zw_gc (R v0 28) 13) (zw_g (zw_in v1 (zw_SH (R v0 28)).2) (if (I (R v0 28) (Int32.toNatClampNeg v1)) ≤ s.2 then some (.inr s.1) else zw_g (zw_gc (R v0 53) 13) (zw_g (zw_in s.2 (zw_SH (R v0 53)).2) (if (I (R v0 53) (Int32.toNatClampNeg s.2)) ≤ s.1 then j_X11_shines_132_100 v0 v1 v3 s.1 s.2 I R else zw_g (zw_in s.2 (zw_SH (R v0 53)).2) (zw_let ((I (R v0 53) (Int32.toNatClampNeg s.2)) : Int32) fun x30 => (j_X11_shines_132_100 v0 v1 v3 x30 s.2 I R)))))))
theorem s_X11_shines_100_ok (X : zw_X) (P : Option Value → aS → Prop) (v0 : Nat) (v1 : Int32) (v3 : Int32) (I : zI) (R : zR) (J : zJ) (s : Int32 × Int32) (o : (Int32 × Int32) ⊕ (Int32)) (hf : s_X11_shines_100 v0 v1 v3 I R s = some o) (hk : (zw_se (fun t => zy_V X M_X11_shines 4 P 100 [.ref v0, .int v1, .null, .int v3, .null, .null, .null, .null, .null, .int t.1, .int t.2, .null, .null, .null] [] (I, R, J)) (fun r => zy_V X M_X11_shines 4 P 138 [.ref v0, .int v1, .null, .int v3, .null, .null, .null, .null, .null, .int r, .null, .null, .null, .null] [] (I, R, J)) o)) : zy_V X M_X11_shines 4 P 100 [.ref v0, .int v1, .null, .int v3, .null, .null, .null, .null, .null, .int s.1, .int s.2, .null, .null, .null] [] (I, R, J) := by
  unfold s_X11_shines_100 at hf
  refine zv_iload (pc := 100) d_X11_shines_100 rfl ?_
  refine zv_aload_n (pc := 102) d_X11_shines_102 rfl ?_
  obtain ⟨g21, hf⟩ := zw_gcE hf (by decide)
  obtain ⟨g22, hf⟩ := zw_gcE hf (by decide)
  refine zx_getR (pc := 103) d_X11_shines_103 lk_CutStonesModel_64 (by decide) g21 g22 ?_
  refine zv_iload_n (pc := 106) d_X11_shines_106 rfl ?_
  obtain ⟨i23, hf⟩ := zw_inE hf
  refine zx_iald (pc := 107) d_X11_shines_107 g22 i23 ?_
  rcases zw_ifE hf with ⟨c24, hf⟩ | ⟨c24, hf⟩
  · refine zv_icmp_ge (pc := 108) (tg := 138) d_X11_shines_108 (by decide) (fun _ => ?_) (fun q => absurd c24 q)
    cases hf
    exact zx_weak (zw_leS (zw_leS (zw_leN (zw_leS (zw_leN (zw_leN (zw_leN (zw_leN (zw_leN (zw_leS (zw_leN (zw_leN (zw_leN (zw_leN zw_leZ)))))))))))))) hk
  · refine zv_icmp_ge (pc := 108) (tg := 138) d_X11_shines_108 (by decide) (fun q => absurd q c24) (fun _ => ?_)
    refine zv_aload_n (pc := 111) d_X11_shines_111 rfl ?_
    obtain ⟨g25, hf⟩ := zw_gcE hf (by decide)
    refine zx_getR (pc := 112) d_X11_shines_112 lk_CutStonesModel_128 (by decide) g21 g25 ?_
    refine zv_iload (pc := 115) d_X11_shines_115 rfl ?_
    obtain ⟨i26, hf⟩ := zw_inE hf
    refine zx_iald (pc := 117) d_X11_shines_117 g25 i26 ?_
    refine zv_iload (pc := 118) d_X11_shines_118 rfl ?_
    rcases zw_ifE hf with ⟨c27, hf⟩ | ⟨c27, hf⟩
    · refine zv_icmp_le (pc := 120) (tg := 132) d_X11_shines_120 (by decide) (fun _ => ?_) (fun q => absurd c27 q)
      exact zx_weak (zw_leS (zw_leS (zw_leN (zw_leS (zw_leN (zw_leN (zw_leN (zw_leN (zw_leN (zw_leS (zw_leS (zw_leN (zw_leN (zw_leN zw_leZ)))))))))))))) (j_X11_shines_132_100_ok X P v0 v1 v3 s.1 s.2 I R J _ hf hk)
    · refine zv_icmp_le (pc := 120) (tg := 132) d_X11_shines_120 (by decide) (fun q => absurd q c27) (fun _ => ?_)
      refine zv_aload_n (pc := 123) d_X11_shines_123 rfl ?_
      refine zx_getR (pc := 124) d_X11_shines_124 lk_CutStonesModel_128 (by decide) g21 g25 ?_
      refine zv_iload (pc := 127) d_X11_shines_127 rfl ?_
      obtain ⟨i29, hf⟩ := zw_inE hf
      refine zx_iald (pc := 129) d_X11_shines_129 g25 i29 ?_
      obtain ⟨x30, ex30, hf⟩ := zw_letE hf
      refine zx_istore (pc := 130) (x2 := x30) (L2 := [.ref v0, .int v1, .null, .int v3, .null, .null, .null, .null, .null, .int x30, .int s.2, .null, .null, .null]) d_X11_shines_130 (by decide) ex30 rfl ?_
      exact zx_weak (zw_leS (zw_leS (zw_leN (zw_leS (zw_leN (zw_leN (zw_leN (zw_leN (zw_leN (zw_leS (zw_leS (zw_leN (zw_leN (zw_leN zw_leZ)))))))))))))) (j_X11_shines_132_100_ok X P v0 v1 v3 x30 s.2 I R J _ hf hk)
theorem s_X11_shines_100_lp (X : zw_X) (P : Option Value → aS → Prop) (v0 : Nat) (v1 : Int32) (v3 : Int32) (I : zI) (R : zR) (J : zJ) (n : Nat) (s : Int32 × Int32) (r : Int32) (h : zw_it (s_X11_shines_100 v0 v1 v3 I R) n s = some r) (hq : zy_V X M_X11_shines 4 P 138 [.ref v0, .int v1, .null, .int v3, .null, .null, .null, .null, .null, .int r, .null, .null, .null, .null] [] (I, R, J)) : zy_V X M_X11_shines 4 P 100 [.ref v0, .int v1, .null, .int v3, .null, .null, .null, .null, .null, .int s.1, .int s.2, .null, .null, .null] [] (I, R, J) :=
  zw_itE (A := (fun t : Int32 × Int32 => zy_V X M_X11_shines 4 P 100 [.ref v0, .int v1, .null, .int v3, .null, .null, .null, .null, .null, .int t.1, .int t.2, .null, .null, .null] [] (I, R, J))) (Q := (fun r : Int32 => zy_V X M_X11_shines 4 P 138 [.ref v0, .int v1, .null, .int v3, .null, .null, .null, .null, .null, .int r, .null, .null, .null, .null] [] (I, R, J))) (fun s o h1 h2 => s_X11_shines_100_ok X P v0 v1 v3 I R J s o h1 h2) n s r h hq
def j_X11_shines_194_161 (v0 : Nat) (v1 : Int32) (v3 : Int32) (v9 : Int32) (v10 : Int32) (v11 : Int32) (v13 : Int32) (s0 : Int32) (I : zI) (R : zR) : Option ((Int32 × Int32) ⊕ (Int32)) :=
  zw_let (v13 + 1 : Int32) fun x41 => (some (.inl (s0, x41)))
theorem j_X11_shines_194_161_ok (X : zw_X) (P : Option Value → aS → Prop) (v0 : Nat) (v1 : Int32) (v3 : Int32) (v9 : Int32) (v10 : Int32) (v11 : Int32) (v13 : Int32) (s0 : Int32) (I : zI) (R : zR) (J : zJ) (o : (Int32 × Int32) ⊕ (Int32)) (hf : j_X11_shines_194_161 v0 v1 v3 v9 v10 v11 v13 s0 I R = some o) (hk : (zw_se (fun t => zy_V X M_X11_shines 4 P 161 [.ref v0, .int v1, .null, .int v3, .null, .null, .null, .null, .null, .int v9, .int v10, .int v11, .int t.1, .int t.2] [] (I, R, J)) (fun r => zy_V X M_X11_shines 4 P 202 [.ref v0, .int v1, .null, .int v3, .null, .null, .null, .null, .null, .int v9, .int v10, .int v11, .int r, .null] [] (I, R, J)) o)) : zy_V X M_X11_shines 4 P 194 [.ref v0, .int v1, .null, .int v3, .null, .null, .null, .null, .null, .int v9, .int v10, .int v11, .null, .int v13] [.int s0] (I, R, J) := by
  unfold j_X11_shines_194_161 at hf
  refine zx_istore (pc := 194) (x2 := s0) (L2 := [.ref v0, .int v1, .null, .int v3, .null, .null, .null, .null, .null, .int v9, .int v10, .int v11, .int s0, .int v13]) d_X11_shines_194 (by decide) rfl rfl ?_
  obtain ⟨x41, ex41, hf⟩ := zw_letE hf
  refine zx_iinc (pc := 196) (x2 := x41) (L2 := [.ref v0, .int v1, .null, .int v3, .null, .null, .null, .null, .null, .int v9, .int v10, .int v11, .int s0, .int x41]) d_X11_shines_196 (by decide) rfl zc_i_1 ex41 rfl ?_
  refine zv_goto (pc := 199) (tg := 161) d_X11_shines_199 (by decide) ?_
  cases hf
  exact zx_weak (zw_leS (zw_leS (zw_leN (zw_leS (zw_leN (zw_leN (zw_leN (zw_leN (zw_leN (zw_leS (zw_leS (zw_leS (zw_leS (zw_leS zw_leZ)))))))))))))) hk
def j_X11_shines_189_161 (v0 : Nat) (v1 : Int32) (v3 : Int32) (v9 : Int32) (v10 : Int32) (v11 : Int32) (v13 : Int32) (I : zI) (R : zR) : Option ((Int32 × Int32) ⊕ (Int32)) :=
  j_X11_shines_194_161 v0 v1 v3 v9 v10 v11 v13 1 I R
theorem j_X11_shines_189_161_ok (X : zw_X) (P : Option Value → aS → Prop) (v0 : Nat) (v1 : Int32) (v3 : Int32) (v9 : Int32) (v10 : Int32) (v11 : Int32) (v13 : Int32) (I : zI) (R : zR) (J : zJ) (o : (Int32 × Int32) ⊕ (Int32)) (hf : j_X11_shines_189_161 v0 v1 v3 v9 v10 v11 v13 I R = some o) (hk : (zw_se (fun t => zy_V X M_X11_shines 4 P 161 [.ref v0, .int v1, .null, .int v3, .null, .null, .null, .null, .null, .int v9, .int v10, .int v11, .int t.1, .int t.2] [] (I, R, J)) (fun r => zy_V X M_X11_shines 4 P 202 [.ref v0, .int v1, .null, .int v3, .null, .null, .null, .null, .null, .int v9, .int v10, .int v11, .int r, .null] [] (I, R, J)) o)) : zy_V X M_X11_shines 4 P 189 [.ref v0, .int v1, .null, .int v3, .null, .null, .null, .null, .null, .int v9, .int v10, .int v11, .null, .int v13] [] (I, R, J) := by
  unfold j_X11_shines_189_161 at hf
  refine zv_iconst (pc := 189) d_X11_shines_189 zc_i_1 ?_
  refine zv_goto (pc := 190) (tg := 194) d_X11_shines_190 (by decide) ?_
  exact zx_weak (zw_leS (zw_leS (zw_leN (zw_leS (zw_leN (zw_leN (zw_leN (zw_leN (zw_leN (zw_leS (zw_leS (zw_leS (zw_leN (zw_leS zw_leZ)))))))))))))) (j_X11_shines_194_161_ok X P v0 v1 v3 v9 v10 v11 v13 1 I R J _ hf hk)
def s_X11_shines_161 (v0 : Nat) (v1 : Int32) (v3 : Int32) (v9 : Int32) (v10 : Int32) (v11 : Int32) (I : zI) (R : zR) (s : Int32 × Int32) : Option ((Int32 × Int32) ⊕ (Int32)) :=
  zw_g (zw_gc v0 11) (zw_g (zw_gc (R v0 29) 13) (zw_g (zw_in v1 (zw_SH (R v0 29)).2) (if (I (R v0 29) (Int32.toNatClampNeg v1)) ≤ s.2 then some (.inr s.1) else if ¬ s.1 = 0 then j_X11_shines_189_161 v0 v1 v3 v9 v10 v11 s.2 I R else (f_X11_cellAt v0 v1 v11 s.2 I R).bind fun q42 => (if q42 ≤ 0 then j_X11_shines_194_161 v0 v1 v3 v9 v10 v11 s.2 0 I R else j_X11_shines_189_161 v0 v1 v3 v9 v10 v11 s.2 I R))))
theorem s_X11_shines_161_ok (X : zw_X) (P : Option Value → aS → Prop) (v0 : Nat) (v1 : Int32) (v3 : Int32) (v9 : Int32) (v10 : Int32) (v11 : Int32) (I : zI) (R : zR) (J : zJ) (s : Int32 × Int32) (o : (Int32 × Int32) ⊕ (Int32)) (hf : s_X11_shines_161 v0 v1 v3 v9 v10 v11 I R s = some o) (hk : (zw_se (fun t => zy_V X M_X11_shines 4 P 161 [.ref v0, .int v1, .null, .int v3, .null, .null, .null, .null, .null, .int v9, .int v10, .int v11, .int t.1, .int t.2] [] (I, R, J)) (fun r => zy_V X M_X11_shines 4 P 202 [.ref v0, .int v1, .null, .int v3, .null, .null, .null, .null, .null, .int v9, .int v10, .int v11, .int r, .null] [] (I, R, J)) o)) : zy_V X M_X11_shines 4 P 161 [.ref v0, .int v1, .null, .int v3, .null, .null, .null, .null, .null, .int v9, .int v10, .int v11, .int s.1, .int s.2] [] (I, R, J) := by
  unfold s_X11_shines_161 at hf
  refine zv_iload (pc := 161) d_X11_shines_161 rfl ?_
  refine zv_aload_n (pc := 163) d_X11_shines_163 rfl ?_
  obtain ⟨g36, hf⟩ := zw_gcE hf (by decide)
  obtain ⟨g37, hf⟩ := zw_gcE hf (by decide)
  refine zx_getR (pc := 164) d_X11_shines_164 lk_CutStonesModel_67 (by decide) g36 g37 ?_
  refine zv_iload_n (pc := 167) d_X11_shines_167 rfl ?_
  obtain ⟨i38, hf⟩ := zw_inE hf
  refine zx_iald (pc := 168) d_X11_shines_168 g37 i38 ?_
  rcases zw_ifE hf with ⟨c39, hf⟩ | ⟨c39, hf⟩
  · refine zv_icmp_ge (pc := 169) (tg := 202) d_X11_shines_169 (by decide) (fun _ => ?_) (fun q => absurd c39 q)
    cases hf
    exact zx_weak (zw_leS (zw_leS (zw_leN (zw_leS (zw_leN (zw_leN (zw_leN (zw_leN (zw_leN (zw_leS (zw_leS (zw_leS (zw_leS (zw_leN zw_leZ)))))))))))))) hk
  · refine zv_icmp_ge (pc := 169) (tg := 202) d_X11_shines_169 (by decide) (fun q => absurd q c39) (fun _ => ?_)
    refine zv_iload (pc := 172) d_X11_shines_172 rfl ?_
    rcases zw_ifE hf with ⟨c40, hf⟩ | ⟨c40, hf⟩
    · refine zv_if_ne (pc := 174) (tg := 189) d_X11_shines_174 (by decide) (fun _ => ?_) (fun q => absurd q c40)
      exact zx_weak (zw_leS (zw_leS (zw_leN (zw_leS (zw_leN (zw_leN (zw_leN (zw_leN (zw_leN (zw_leS (zw_leS (zw_leS (zw_leN (zw_leS zw_leZ)))))))))))))) (j_X11_shines_189_161_ok X P v0 v1 v3 v9 v10 v11 s.2 I R J _ hf hk)
    · refine zv_if_ne (pc := 174) (tg := 189) d_X11_shines_174 (by decide) (fun q => absurd q c40) (fun _ => ?_)
      refine zv_aload_n (pc := 177) d_X11_shines_177 rfl ?_
      refine zv_iload_n (pc := 178) d_X11_shines_178 rfl ?_
      refine zv_iload (pc := 179) d_X11_shines_179 rfl ?_
      refine zv_iload (pc := 181) d_X11_shines_181 rfl ?_
      obtain ⟨q42, hq42, hf⟩ := zw_bdE hf
      refine zx_callV (pc := 183) (As := [.int v1, .int v11, .int s.2]) (o := v0) (st := []) (d2 := 0) (M2 := M_X11_cellAt) (P2 := (fun r S => r = (some (.int q42)) ∧ S = (I, R, J))) d_X11_shines_183 (zw_mG (List.mem_of_getElem? (i := 1533) (by decide +kernel)) rfl) ce_X11_cellAt (zw_RvK g36 rfl rfl) (Nat.le_of_ble_eq_true rfl) rfl (Nat.le_of_ble_eq_true rfl) (by decide) (c_X11_cellAt X v0 v1 v11 s.2 I R J _ hq42 ⟨rfl, rfl⟩) ?_
      rintro _ _ ⟨rfl, rfl⟩
      show zy_V X M_X11_shines 4 P (183 + 3) [.ref v0, .int v1, .null, .int v3, .null, .null, .null, .null, .null, .int v9, .int v10, .int v11, .int s.1, .int s.2] [.int q42] (I, R, J)
      rcases zw_ifE hf with ⟨c43, hf⟩ | ⟨c43, hf⟩
      · refine zv_if_le (pc := 186) (tg := 193) d_X11_shines_186 (by decide) (fun _ => ?_) (fun q => absurd c43 q)
        refine zv_iconst (pc := 193) d_X11_shines_193 zc_i_0 ?_
        exact zx_weak (zw_leS (zw_leS (zw_leN (zw_leS (zw_leN (zw_leN (zw_leN (zw_leN (zw_leN (zw_leS (zw_leS (zw_leS (zw_leN (zw_leS zw_leZ)))))))))))))) (j_X11_shines_194_161_ok X P v0 v1 v3 v9 v10 v11 s.2 0 I R J _ hf hk)
      · refine zv_if_le (pc := 186) (tg := 193) d_X11_shines_186 (by decide) (fun q => absurd q c43) (fun _ => ?_)
        exact zx_weak (zw_leS (zw_leS (zw_leN (zw_leS (zw_leN (zw_leN (zw_leN (zw_leN (zw_leN (zw_leS (zw_leS (zw_leS (zw_leN (zw_leS zw_leZ)))))))))))))) (j_X11_shines_189_161_ok X P v0 v1 v3 v9 v10 v11 s.2 I R J _ hf hk)
theorem s_X11_shines_161_lp (X : zw_X) (P : Option Value → aS → Prop) (v0 : Nat) (v1 : Int32) (v3 : Int32) (v9 : Int32) (v10 : Int32) (v11 : Int32) (I : zI) (R : zR) (J : zJ) (n : Nat) (s : Int32 × Int32) (r : Int32) (h : zw_it (s_X11_shines_161 v0 v1 v3 v9 v10 v11 I R) n s = some r) (hq : zy_V X M_X11_shines 4 P 202 [.ref v0, .int v1, .null, .int v3, .null, .null, .null, .null, .null, .int v9, .int v10, .int v11, .int r, .null] [] (I, R, J)) : zy_V X M_X11_shines 4 P 161 [.ref v0, .int v1, .null, .int v3, .null, .null, .null, .null, .null, .int v9, .int v10, .int v11, .int s.1, .int s.2] [] (I, R, J) :=
  zw_itE (A := (fun t : Int32 × Int32 => zy_V X M_X11_shines 4 P 161 [.ref v0, .int v1, .null, .int v3, .null, .null, .null, .null, .null, .int v9, .int v10, .int v11, .int t.1, .int t.2] [] (I, R, J))) (Q := (fun r : Int32 => zy_V X M_X11_shines 4 P 202 [.ref v0, .int v1, .null, .int v3, .null, .null, .null, .null, .null, .int v9, .int v10, .int v11, .int r, .null] [] (I, R, J))) (fun s o h1 h2 => s_X11_shines_161_ok X P v0 v1 v3 v9 v10 v11 I R J s o h1 h2) n s r h hq
def j_X11_shines_229_144 (v0 : Nat) (v1 : Int32) (v3 : Int32) (v9 : Int32) (v10 : Int32) (v11 : Int32) (I : zI) (R : zR) : Option ((Int32 × Int32) ⊕ (Int32)) :=
  zw_let (v11 + 1 : Int32) fun x46 => (some (.inl (v10, x46)))
theorem j_X11_shines_229_144_ok (X : zw_X) (P : Option Value → aS → Prop) (v0 : Nat) (v1 : Int32) (v3 : Int32) (v9 : Int32) (v10 : Int32) (v11 : Int32) (I : zI) (R : zR) (J : zJ) (o : (Int32 × Int32) ⊕ (Int32)) (hf : j_X11_shines_229_144 v0 v1 v3 v9 v10 v11 I R = some o) (hk : (zw_se (fun t => zy_V X M_X11_shines 4 P 144 [.ref v0, .int v1, .null, .int v3, .null, .null, .null, .null, .null, .int v9, .int t.1, .int t.2, .null, .null] [] (I, R, J)) (fun r => zy_V X M_X11_shines 4 P 235 [.ref v0, .int v1, .null, .int v3, .null, .null, .null, .null, .null, .null, .int r, .null, .null, .null] [] (I, R, J)) o)) : zy_V X M_X11_shines 4 P 229 [.ref v0, .int v1, .null, .int v3, .null, .null, .null, .null, .null, .int v9, .int v10, .int v11, .null, .null] [] (I, R, J) := by
  unfold j_X11_shines_229_144 at hf
  obtain ⟨x46, ex46, hf⟩ := zw_letE hf
  refine zx_iinc (pc := 229) (x2 := x46) (L2 := [.ref v0, .int v1, .null, .int v3, .null, .null, .null, .null, .null, .int v9, .int v10, .int x46, .null, .null]) d_X11_shines_229 (by decide) rfl zc_i_1 ex46 rfl ?_
  refine zv_goto (pc := 232) (tg := 144) d_X11_shines_232 (by decide) ?_
  cases hf
  exact zx_weak (zw_leS (zw_leS (zw_leN (zw_leS (zw_leN (zw_leN (zw_leN (zw_leN (zw_leN (zw_leS (zw_leS (zw_leS (zw_leN (zw_leN zw_leZ)))))))))))))) hk
def s_X11_shines_144 (v0 : Nat) (v1 : Int32) (v3 : Int32) (v9 : Int32) (I : zI) (R : zR) (s : Int32 × Int32) : Option ((Int32 × Int32) ⊕ (Int32)) :=
  zw_g (zw_gc v0 11) (zw_g (zw_gc (R v0 28) 13) (zw_g (zw_in v1 (zw_SH (R v0 28)).2) (if (I (R v0 28) (Int32.toNatClampNeg v1)) ≤ s.2 then some (.inr s.1) else (zw_it (s_X11_shines_161 v0 v1 v3 v9 s.1 s.2 I R) 1000000 (0, 0)).bind fun q44 => (if q44 = 0 then j_X11_shines_229_144 v0 v1 v3 v9 s.1 s.2 I R else zw_g (zw_gc (R v0 53) 13) (zw_g (zw_in s.2 (zw_SH (R v0 53)).2) (if 0 ≤ (lg_cmp (10 * (Int32.toInt64 (I (R v0 53) (Int32.toNatClampNeg s.2)))) (Int32.toInt64 v9)) then j_X11_shines_229_144 v0 v1 v3 v9 s.1 s.2 I R else zw_let (s.1 + 1 : Int32) fun x50 => (j_X11_shines_229_144 v0 v1 v3 v9 x50 s.2 I R)))))))
theorem s_X11_shines_144_ok (X : zw_X) (P : Option Value → aS → Prop) (v0 : Nat) (v1 : Int32) (v3 : Int32) (v9 : Int32) (I : zI) (R : zR) (J : zJ) (s : Int32 × Int32) (o : (Int32 × Int32) ⊕ (Int32)) (hf : s_X11_shines_144 v0 v1 v3 v9 I R s = some o) (hk : (zw_se (fun t => zy_V X M_X11_shines 4 P 144 [.ref v0, .int v1, .null, .int v3, .null, .null, .null, .null, .null, .int v9, .int t.1, .int t.2, .null, .null] [] (I, R, J)) (fun r => zy_V X M_X11_shines 4 P 235 [.ref v0, .int v1, .null, .int v3, .null, .null, .null, .null, .null, .null, .int r, .null, .null, .null] [] (I, R, J)) o)) : zy_V X M_X11_shines 4 P 144 [.ref v0, .int v1, .null, .int v3, .null, .null, .null, .null, .null, .int v9, .int s.1, .int s.2, .null, .null] [] (I, R, J) := by
  unfold s_X11_shines_144 at hf
  refine zv_iload (pc := 144) d_X11_shines_144 rfl ?_
  refine zv_aload_n (pc := 146) d_X11_shines_146 rfl ?_
  obtain ⟨g32, hf⟩ := zw_gcE hf (by decide)
  obtain ⟨g33, hf⟩ := zw_gcE hf (by decide)
  refine zx_getR (pc := 147) d_X11_shines_147 lk_CutStonesModel_64 (by decide) g32 g33 ?_
  refine zv_iload_n (pc := 150) d_X11_shines_150 rfl ?_
  obtain ⟨i34, hf⟩ := zw_inE hf
  refine zx_iald (pc := 151) d_X11_shines_151 g33 i34 ?_
  rcases zw_ifE hf with ⟨c35, hf⟩ | ⟨c35, hf⟩
  · refine zv_icmp_ge (pc := 152) (tg := 235) d_X11_shines_152 (by decide) (fun _ => ?_) (fun q => absurd c35 q)
    cases hf
    exact zx_weak (zw_leS (zw_leS (zw_leN (zw_leS (zw_leN (zw_leN (zw_leN (zw_leN (zw_leN (zw_leN (zw_leS (zw_leN (zw_leN (zw_leN zw_leZ)))))))))))))) hk
  · refine zv_icmp_ge (pc := 152) (tg := 235) d_X11_shines_152 (by decide) (fun q => absurd q c35) (fun _ => ?_)
    refine zv_iconst (pc := 155) d_X11_shines_155 zc_i_0 ?_
    refine zx_istore (pc := 156) (x2 := 0) (L2 := [.ref v0, .int v1, .null, .int v3, .null, .null, .null, .null, .null, .int v9, .int s.1, .int s.2, .int 0, .null]) d_X11_shines_156 (by decide) rfl rfl ?_
    refine zv_iconst (pc := 158) d_X11_shines_158 zc_i_0 ?_
    refine zx_istore (pc := 159) (x2 := 0) (L2 := [.ref v0, .int v1, .null, .int v3, .null, .null, .null, .null, .null, .int v9, .int s.1, .int s.2, .int 0, .int 0]) d_X11_shines_159 (by decide) rfl rfl ?_
    obtain ⟨q44, hq44, hf⟩ := zw_bdE hf
    refine zx_weak (L' := [.ref v0, .int v1, .null, .int v3, .null, .null, .null, .null, .null, .int v9, .int s.1, .int s.2, .int 0, .int 0]) (zw_leS (zw_leS (zw_leN (zw_leS (zw_leN (zw_leN (zw_leN (zw_leN (zw_leN (zw_leS (zw_leS (zw_leS (zw_leS (zw_leS zw_leZ)))))))))))))) (s_X11_shines_161_lp X P v0 v1 v3 v9 s.1 s.2 I R J _ _ _ hq44 ?_)
    show zy_V X M_X11_shines 4 P 202 [.ref v0, .int v1, .null, .int v3, .null, .null, .null, .null, .null, .int v9, .int s.1, .int s.2, .int q44, .null] [] (I, R, J)
    refine zv_iload (pc := 202) d_X11_shines_202 rfl ?_
    rcases zw_ifE hf with ⟨c45, hf⟩ | ⟨c45, hf⟩
    · refine zv_if_eq (pc := 204) (tg := 229) d_X11_shines_204 (by decide) (fun _ => ?_) (fun q => absurd c45 q)
      exact zx_weak (zw_leS (zw_leS (zw_leN (zw_leS (zw_leN (zw_leN (zw_leN (zw_leN (zw_leN (zw_leS (zw_leS (zw_leS (zw_leN (zw_leN zw_leZ)))))))))))))) (j_X11_shines_229_144_ok X P v0 v1 v3 v9 s.1 s.2 I R J _ hf hk)
    · refine zv_if_eq (pc := 204) (tg := 229) d_X11_shines_204 (by decide) (fun q => absurd q c45) (fun _ => ?_)
      refine zv_ldc2 (pc := 207) (v := 10) d_X11_shines_207 (zw_mG (List.mem_of_getElem? (i := 1607) (by decide +kernel)) rfl) ?_
      refine zv_aload_n (pc := 210) d_X11_shines_210 rfl ?_
      obtain ⟨g47, hf⟩ := zw_gcE hf (by decide)
      refine zx_getR (pc := 211) d_X11_shines_211 lk_CutStonesModel_128 (by decide) g32 g47 ?_
      refine zv_iload (pc := 214) d_X11_shines_214 rfl ?_
      obtain ⟨i48, hf⟩ := zw_inE hf
      refine zx_iald (pc := 216) d_X11_shines_216 g47 i48 ?_
      refine zv_i2l (pc := 217) d_X11_shines_217 ?_
      refine zv_lmul (pc := 218) d_X11_shines_218 ?_
      refine zv_iload (pc := 219) d_X11_shines_219 rfl ?_
      refine zv_i2l (pc := 221) d_X11_shines_221 ?_
      refine zv_lcmp (pc := 222) d_X11_shines_222 ?_
      rcases zw_ifE hf with ⟨c49, hf⟩ | ⟨c49, hf⟩
      · refine zv_if_ge (pc := 223) (tg := 229) d_X11_shines_223 (by decide) (fun _ => ?_) (fun q => absurd c49 q)
        exact zx_weak (zw_leS (zw_leS (zw_leN (zw_leS (zw_leN (zw_leN (zw_leN (zw_leN (zw_leN (zw_leS (zw_leS (zw_leS (zw_leN (zw_leN zw_leZ)))))))))))))) (j_X11_shines_229_144_ok X P v0 v1 v3 v9 s.1 s.2 I R J _ hf hk)
      · refine zv_if_ge (pc := 223) (tg := 229) d_X11_shines_223 (by decide) (fun q => absurd q c49) (fun _ => ?_)
        obtain ⟨x50, ex50, hf⟩ := zw_letE hf
        refine zx_iinc (pc := 226) (x2 := x50) (L2 := [.ref v0, .int v1, .null, .int v3, .null, .null, .null, .null, .null, .int v9, .int x50, .int s.2, .int q44, .null]) d_X11_shines_226 (by decide) rfl zc_i_1 ex50 rfl ?_
        exact zx_weak (zw_leS (zw_leS (zw_leN (zw_leS (zw_leN (zw_leN (zw_leN (zw_leN (zw_leN (zw_leS (zw_leS (zw_leS (zw_leN (zw_leN zw_leZ)))))))))))))) (j_X11_shines_229_144_ok X P v0 v1 v3 v9 x50 s.2 I R J _ hf hk)
theorem s_X11_shines_144_lp (X : zw_X) (P : Option Value → aS → Prop) (v0 : Nat) (v1 : Int32) (v3 : Int32) (v9 : Int32) (I : zI) (R : zR) (J : zJ) (n : Nat) (s : Int32 × Int32) (r : Int32) (h : zw_it (s_X11_shines_144 v0 v1 v3 v9 I R) n s = some r) (hq : zy_V X M_X11_shines 4 P 235 [.ref v0, .int v1, .null, .int v3, .null, .null, .null, .null, .null, .null, .int r, .null, .null, .null] [] (I, R, J)) : zy_V X M_X11_shines 4 P 144 [.ref v0, .int v1, .null, .int v3, .null, .null, .null, .null, .null, .int v9, .int s.1, .int s.2, .null, .null] [] (I, R, J) :=
  zw_itE (A := (fun t : Int32 × Int32 => zy_V X M_X11_shines 4 P 144 [.ref v0, .int v1, .null, .int v3, .null, .null, .null, .null, .null, .int v9, .int t.1, .int t.2, .null, .null] [] (I, R, J))) (Q := (fun r : Int32 => zy_V X M_X11_shines 4 P 235 [.ref v0, .int v1, .null, .int v3, .null, .null, .null, .null, .null, .null, .int r, .null, .null, .null] [] (I, R, J))) (fun s o h1 h2 => s_X11_shines_144_ok X P v0 v1 v3 v9 I R J s o h1 h2) n s r h hq
def j_X11_shines_295_241 (v0 : Nat) (v1 : Int32) (v3 : Int32) (v10 : Int32) (v12 : Int32) (s0 : Int32) (s1 : Int32) (I : zI) (R : zR) : Option ((Int32 × Int32) ⊕ (Int32)) :=
  zw_let ((s0 + s1) : Int32) fun x62 => (zw_let (v12 + 1 : Int32) fun x63 => (some (.inl (x62, x63))))
theorem j_X11_shines_295_241_ok (X : zw_X) (P : Option Value → aS → Prop) (v0 : Nat) (v1 : Int32) (v3 : Int32) (v10 : Int32) (v12 : Int32) (s0 : Int32) (s1 : Int32) (I : zI) (R : zR) (J : zJ) (o : (Int32 × Int32) ⊕ (Int32)) (hf : j_X11_shines_295_241 v0 v1 v3 v10 v12 s0 s1 I R = some o) (hk : (zw_se (fun t => zy_V X M_X11_shines 4 P 241 [.ref v0, .int v1, .null, .int v3, .null, .null, .null, .null, .null, .null, .int v10, .int t.1, .int t.2, .null] [] (I, R, J)) (fun r => zy_V X M_X11_shines 4 P 304 [.ref v0, .int v1, .null, .int v3, .null, .null, .null, .null, .null, .null, .int v10, .int r, .null, .null] [] (I, R, J)) o)) : zy_V X M_X11_shines 4 P 295 [.ref v0, .int v1, .null, .int v3, .null, .null, .null, .null, .null, .null, .int v10, .null, .int v12, .null] [.int s1, .int s0] (I, R, J) := by
  unfold j_X11_shines_295_241 at hf
  refine zv_iadd (pc := 295) d_X11_shines_295 ?_
  obtain ⟨x62, ex62, hf⟩ := zw_letE hf
  refine zx_istore (pc := 296) (x2 := x62) (L2 := [.ref v0, .int v1, .null, .int v3, .null, .null, .null, .null, .null, .null, .int v10, .int x62, .int v12, .null]) d_X11_shines_296 (by decide) ex62 rfl ?_
  obtain ⟨x63, ex63, hf⟩ := zw_letE hf
  refine zx_iinc (pc := 298) (x2 := x63) (L2 := [.ref v0, .int v1, .null, .int v3, .null, .null, .null, .null, .null, .null, .int v10, .int x62, .int x63, .null]) d_X11_shines_298 (by decide) rfl zc_i_1 ex63 rfl ?_
  refine zv_goto (pc := 301) (tg := 241) d_X11_shines_301 (by decide) ?_
  cases hf
  exact zx_weak (zw_leS (zw_leS (zw_leN (zw_leS (zw_leN (zw_leN (zw_leN (zw_leN (zw_leN (zw_leN (zw_leS (zw_leS (zw_leS (zw_leN zw_leZ)))))))))))))) hk
def s_X11_shines_241 (v0 : Nat) (v1 : Int32) (v3 : Int32) (v10 : Int32) (I : zI) (R : zR) (s : Int32 × Int32) : Option ((Int32 × Int32) ⊕ (Int32)) :=
  zw_g (zw_gc v0 11) (zw_g (zw_gc (R v0 28) 13) (zw_g (zw_in v1 (zw_SH (R v0 28)).2) (if ((I (R v0 28) (Int32.toNatClampNeg v1)) / 2) ≤ s.2 then some (.inr s.1) else zw_g (zw_gc (R v0 53) 13) (zw_g (zw_in s.2 (zw_SH (R v0 53)).2) (zw_g (zw_in v1 (zw_SH (R v0 28)).2) (zw_g (zw_in (((I (R v0 28) (Int32.toNatClampNeg v1)) - 1) - s.2) (zw_SH (R v0 53)).2) (zw_let (((I (R v0 53) (Int32.toNatClampNeg s.2)) - (I (R v0 53) (Int32.toNatClampNeg (((I (R v0 28) (Int32.toNatClampNeg v1)) - 1) - s.2)))) : Int32) fun x60 => (if 0 ≤ x60 then j_X11_shines_295_241 v0 v1 v3 v10 s.2 s.1 x60 I R else j_X11_shines_295_241 v0 v1 v3 v10 s.2 s.1 (-x60) I R))))))))
theorem s_X11_shines_241_ok (X : zw_X) (P : Option Value → aS → Prop) (v0 : Nat) (v1 : Int32) (v3 : Int32) (v10 : Int32) (I : zI) (R : zR) (J : zJ) (s : Int32 × Int32) (o : (Int32 × Int32) ⊕ (Int32)) (hf : s_X11_shines_241 v0 v1 v3 v10 I R s = some o) (hk : (zw_se (fun t => zy_V X M_X11_shines 4 P 241 [.ref v0, .int v1, .null, .int v3, .null, .null, .null, .null, .null, .null, .int v10, .int t.1, .int t.2, .null] [] (I, R, J)) (fun r => zy_V X M_X11_shines 4 P 304 [.ref v0, .int v1, .null, .int v3, .null, .null, .null, .null, .null, .null, .int v10, .int r, .null, .null] [] (I, R, J)) o)) : zy_V X M_X11_shines 4 P 241 [.ref v0, .int v1, .null, .int v3, .null, .null, .null, .null, .null, .null, .int v10, .int s.1, .int s.2, .null] [] (I, R, J) := by
  unfold s_X11_shines_241 at hf
  refine zv_iload (pc := 241) d_X11_shines_241 rfl ?_
  refine zv_aload_n (pc := 243) d_X11_shines_243 rfl ?_
  obtain ⟨g52, hf⟩ := zw_gcE hf (by decide)
  obtain ⟨g53, hf⟩ := zw_gcE hf (by decide)
  refine zx_getR (pc := 244) d_X11_shines_244 lk_CutStonesModel_64 (by decide) g52 g53 ?_
  refine zv_iload_n (pc := 247) d_X11_shines_247 rfl ?_
  obtain ⟨i54, hf⟩ := zw_inE hf
  refine zx_iald (pc := 248) d_X11_shines_248 g53 i54 ?_
  refine zv_iconst (pc := 249) d_X11_shines_249 zc_i_2 ?_
  refine zv_idiv (pc := 250) d_X11_shines_250 (by decide +kernel) ?_
  rcases zw_ifE hf with ⟨c55, hf⟩ | ⟨c55, hf⟩
  · refine zv_icmp_ge (pc := 251) (tg := 304) d_X11_shines_251 (by decide) (fun _ => ?_) (fun q => absurd c55 q)
    cases hf
    exact zx_weak (zw_leS (zw_leS (zw_leN (zw_leS (zw_leN (zw_leN (zw_leN (zw_leN (zw_leN (zw_leN (zw_leS (zw_leS (zw_leN (zw_leN zw_leZ)))))))))))))) hk
  · refine zv_icmp_ge (pc := 251) (tg := 304) d_X11_shines_251 (by decide) (fun q => absurd q c55) (fun _ => ?_)
    refine zv_aload_n (pc := 254) d_X11_shines_254 rfl ?_
    obtain ⟨g56, hf⟩ := zw_gcE hf (by decide)
    refine zx_getR (pc := 255) d_X11_shines_255 lk_CutStonesModel_128 (by decide) g52 g56 ?_
    refine zv_iload (pc := 258) d_X11_shines_258 rfl ?_
    obtain ⟨i57, hf⟩ := zw_inE hf
    refine zx_iald (pc := 260) d_X11_shines_260 g56 i57 ?_
    refine zv_aload_n (pc := 261) d_X11_shines_261 rfl ?_
    refine zx_getR (pc := 262) d_X11_shines_262 lk_CutStonesModel_128 (by decide) g52 g56 ?_
    refine zv_aload_n (pc := 265) d_X11_shines_265 rfl ?_
    refine zx_getR (pc := 266) d_X11_shines_266 lk_CutStonesModel_64 (by decide) g52 g53 ?_
    refine zv_iload_n (pc := 269) d_X11_shines_269 rfl ?_
    obtain ⟨i58, hf⟩ := zw_inE hf
    refine zx_iald (pc := 270) d_X11_shines_270 g53 i58 ?_
    refine zv_iconst (pc := 271) d_X11_shines_271 zc_i_1 ?_
    refine zv_isub (pc := 272) d_X11_shines_272 ?_
    refine zv_iload (pc := 273) d_X11_shines_273 rfl ?_
    refine zv_isub (pc := 275) d_X11_shines_275 ?_
    obtain ⟨i59, hf⟩ := zw_inE hf
    refine zx_iald (pc := 276) d_X11_shines_276 g56 i59 ?_
    refine zv_isub (pc := 277) d_X11_shines_277 ?_
    obtain ⟨x60, ex60, hf⟩ := zw_letE hf
    refine zx_istore (pc := 278) (x2 := x60) (L2 := [.ref v0, .int v1, .null, .int v3, .null, .null, .null, .null, .null, .null, .int v10, .int s.1, .int s.2, .int x60]) d_X11_shines_278 (by decide) ex60 rfl ?_
    refine zv_iload (pc := 280) d_X11_shines_280 rfl ?_
    refine zv_iload (pc := 282) d_X11_shines_282 rfl ?_
    rcases zw_ifE hf with ⟨c61, hf⟩ | ⟨c61, hf⟩
    · refine zv_if_ge (pc := 284) (tg := 293) d_X11_shines_284 (by decide) (fun _ => ?_) (fun q => absurd c61 q)
      refine zv_iload (pc := 293) d_X11_shines_293 rfl ?_
      exact zx_weak (zw_leS (zw_leS (zw_leN (zw_leS (zw_leN (zw_leN (zw_leN (zw_leN (zw_leN (zw_leN (zw_leS (zw_leN (zw_leS (zw_leN zw_leZ)))))))))))))) (j_X11_shines_295_241_ok X P v0 v1 v3 v10 s.2 s.1 x60 I R J _ hf hk)
    · refine zv_if_ge (pc := 284) (tg := 293) d_X11_shines_284 (by decide) (fun q => absurd q c61) (fun _ => ?_)
      refine zv_iload (pc := 287) d_X11_shines_287 rfl ?_
      refine zv_ineg (pc := 289) d_X11_shines_289 ?_
      refine zv_goto (pc := 290) (tg := 295) d_X11_shines_290 (by decide) ?_
      exact zx_weak (zw_leS (zw_leS (zw_leN (zw_leS (zw_leN (zw_leN (zw_leN (zw_leN (zw_leN (zw_leN (zw_leS (zw_leN (zw_leS (zw_leN zw_leZ)))))))))))))) (j_X11_shines_295_241_ok X P v0 v1 v3 v10 s.2 s.1 (-x60) I R J _ hf hk)
theorem s_X11_shines_241_lp (X : zw_X) (P : Option Value → aS → Prop) (v0 : Nat) (v1 : Int32) (v3 : Int32) (v10 : Int32) (I : zI) (R : zR) (J : zJ) (n : Nat) (s : Int32 × Int32) (r : Int32) (h : zw_it (s_X11_shines_241 v0 v1 v3 v10 I R) n s = some r) (hq : zy_V X M_X11_shines 4 P 304 [.ref v0, .int v1, .null, .int v3, .null, .null, .null, .null, .null, .null, .int v10, .int r, .null, .null] [] (I, R, J)) : zy_V X M_X11_shines 4 P 241 [.ref v0, .int v1, .null, .int v3, .null, .null, .null, .null, .null, .null, .int v10, .int s.1, .int s.2, .null] [] (I, R, J) :=
  zw_itE (A := (fun t : Int32 × Int32 => zy_V X M_X11_shines 4 P 241 [.ref v0, .int v1, .null, .int v3, .null, .null, .null, .null, .null, .null, .int v10, .int t.1, .int t.2, .null] [] (I, R, J))) (Q := (fun r : Int32 => zy_V X M_X11_shines 4 P 304 [.ref v0, .int v1, .null, .int v3, .null, .null, .null, .null, .null, .null, .int v10, .int r, .null, .null] [] (I, R, J))) (fun s o h1 h2 => s_X11_shines_241_ok X P v0 v1 v3 v10 I R J s o h1 h2) n s r h hq
def f_X11_shines (v0 : Nat) (v1 : Int32) (v2 : Int32) (v3 : Int32) (v4 : Int32) (v5 : Int32) (v6 : Int32) (v7 : Int32) (v8 : Int32) (I : zI) (R : zR) : Option (zI) :=
  zw_g (zw_gc v0 11) ((f_X11_darkens v0 I R).bind fun q2 => ((zw_it (s_X11_shines_7 v0 v1 v2 v3 v4 v5 v6 v7 v8 R) 1000000 (0, q2)).bind fun q12 => ((zw_it (s_X11_shines_53 v0 v1 v2 v3 v5 v6 R) 1000000 (0, q12)).bind fun q20 => ((zw_it (s_X11_shines_100 v0 v1 v3 q20 R) 1000000 (0, 0)).bind fun q31 => ((zw_it (s_X11_shines_144 v0 v1 v3 q31 q20 R) 1000000 (0, 0)).bind fun q51 => ((zw_it (s_X11_shines_241 v0 v1 v3 q51 q20 R) 1000000 (0, 0)).bind fun q64 => (zw_g (zw_gc (R v0 49) 13) (zw_g (zw_gc (R v0 52) 13) (zw_g (zw_in 0 (zw_SH (R v0 52)).2) (zw_g (zw_in 0 (zw_SH (R v0 49)).2) (zw_let (zw_u q20 (R v0 49) (Int32.toNatClampNeg 0) (q20 (R v0 52) (Int32.toNatClampNeg 0)) : zI) fun I69 => (zw_g (zw_in 1 (zw_SH (R v0 52)).2) (zw_g (zw_in 2 (zw_SH (R v0 52)).2) (zw_g (zw_in 3 (zw_SH (R v0 52)).2) (zw_g (zw_in 1 (zw_SH (R v0 49)).2) (zw_let (zw_u I69 (R v0 49) (Int32.toNatClampNeg 1) (((I69 (R v0 52) (Int32.toNatClampNeg 1)) + (I69 (R v0 52) (Int32.toNatClampNeg 2))) + (I69 (R v0 52) (Int32.toNatClampNeg 3))) : zI) fun I74 => (zw_g (zw_in 2 (zw_SH (R v0 49)).2) (zw_let (zw_u I74 (R v0 49) (Int32.toNatClampNeg 2) q51 : zI) fun I76 => ((f_X11_weightOf v0 v1 I76 R).bind fun q77 => (zw_g (zw_in 3 (zw_SH (R v0 49)).2) (zw_let (zw_u I76 (R v0 49) (Int32.toNatClampNeg 3) q77 : zI) fun I79 => (zw_g (zw_in 4 (zw_SH (R v0 49)).2) (zw_let (zw_u I79 (R v0 49) (Int32.toNatClampNeg 4) q64 : zI) fun I81 => (zw_g (zw_in 5 (zw_SH (R v0 49)).2) (zw_let (zw_u I81 (R v0 49) (Int32.toNatClampNeg 5) (I81 v0 58) : zI) fun I83 => (zw_g (zw_gc (R v0 28) 13) (zw_g (zw_in v1 (zw_SH (R v0 28)).2) (zw_g (zw_in 6 (zw_SH (R v0 49)).2) (zw_let (zw_u I83 (R v0 49) (Int32.toNatClampNeg 6) (I83 (R v0 28) (Int32.toNatClampNeg v1)) : zI) fun I87 => (zw_g (zw_in 7 (zw_SH (R v0 49)).2) (zw_let (zw_u I87 (R v0 49) (Int32.toNatClampNeg 7) v3 : zI) fun I89 => (some I89))))))))))))))))))))))))))))))))
theorem c_X11_shines (X : zw_X) (v0 : Nat) (v1 : Int32) (v2 : Int32) (v3 : Int32) (v4 : Int32) (v5 : Int32) (v6 : Int32) (v7 : Int32) (v8 : Int32) (I : zI) (R : zR) (J : zJ) {P : Option Value → aS → Prop} (o : zI) (hf : f_X11_shines v0 v1 v2 v3 v4 v5 v6 v7 v8 I R = some o) (hk : P none (o, R, J)) : zw_C X M_X11_shines 4 0 0 199 [.ref v0, .int v1, .int v2, .int v3, .int v4, .int v5, .int v6, .int v7, .int v8] (I, R, J) P := by
  show zy_V X M_X11_shines 4 P 0 [.ref v0, .int v1, .int v2, .int v3, .int v4, .int v5, .int v6, .int v7, .int v8, .null, .null, .null, .null, .null] [] (I, R, J)
  unfold f_X11_shines at hf
  refine zv_aload_n (pc := 0) d_X11_shines_0 rfl ?_
  obtain ⟨g1, hf⟩ := zw_gcE hf (by decide)
  obtain ⟨q2, hq2, hf⟩ := zw_bdE hf
  refine zx_callV (pc := 1) (As := []) (o := v0) (st := []) (d2 := 0) (M2 := M_X11_darkens) (P2 := (fun r S => r = none ∧ S = (q2, R, J))) d_X11_shines_1 (zw_mG (List.mem_of_getElem? (i := 1560) (by decide +kernel)) rfl) ce_X11_darkens (zw_RvK g1 rfl rfl) (Nat.le_of_ble_eq_true rfl) rfl (Nat.le_of_ble_eq_true rfl) (by decide) (c_X11_darkens X v0 I R J _ hq2 ⟨rfl, rfl⟩) ?_
  rintro _ _ ⟨rfl, rfl⟩
  show zy_V X M_X11_shines 4 P (1 + 3) [.ref v0, .int v1, .int v2, .int v3, .int v4, .int v5, .int v6, .int v7, .int v8, .null, .null, .null, .null, .null] [] (q2, R, J)
  refine zv_iconst (pc := 4) d_X11_shines_4 zc_i_0 ?_
  refine zx_istore (pc := 5) (x2 := 0) (L2 := [.ref v0, .int v1, .int v2, .int v3, .int v4, .int v5, .int v6, .int v7, .int v8, .int 0, .null, .null, .null, .null]) d_X11_shines_5 (by decide) rfl rfl ?_
  obtain ⟨q12, hq12, hf⟩ := zw_bdE hf
  refine zx_weak (L' := [.ref v0, .int v1, .int v2, .int v3, .int v4, .int v5, .int v6, .int v7, .int v8, .int 0, .null, .null, .null, .null]) (zw_leS (zw_leS (zw_leS (zw_leS (zw_leS (zw_leS (zw_leS (zw_leS (zw_leS (zw_leS (zw_leN (zw_leN (zw_leN (zw_leN zw_leZ)))))))))))))) (s_X11_shines_7_lp X P v0 v1 v2 v3 v4 v5 v6 v7 v8 R J _ _ _ hq12 ?_)
  show zy_V X M_X11_shines 4 P 50 [.ref v0, .int v1, .int v2, .int v3, .null, .int v5, .int v6, .null, .null, .null, .null, .null, .null, .null] [] (q12, R, J)
  refine zv_iconst (pc := 50) d_X11_shines_50 zc_i_0 ?_
  refine zx_istore (pc := 51) (x2 := 0) (L2 := [.ref v0, .int v1, .int v2, .int v3, .null, .int v5, .int v6, .null, .null, .int 0, .null, .null, .null, .null]) d_X11_shines_51 (by decide) rfl rfl ?_
  obtain ⟨q20, hq20, hf⟩ := zw_bdE hf
  refine zx_weak (L' := [.ref v0, .int v1, .int v2, .int v3, .null, .int v5, .int v6, .null, .null, .int 0, .null, .null, .null, .null]) (zw_leS (zw_leS (zw_leS (zw_leS (zw_leN (zw_leS (zw_leS (zw_leN (zw_leN (zw_leS (zw_leN (zw_leN (zw_leN (zw_leN zw_leZ)))))))))))))) (s_X11_shines_53_lp X P v0 v1 v2 v3 v5 v6 R J _ _ _ hq20 ?_)
  show zy_V X M_X11_shines 4 P 94 [.ref v0, .int v1, .null, .int v3, .null, .null, .null, .null, .null, .null, .null, .null, .null, .null] [] (q20, R, J)
  refine zv_iconst (pc := 94) d_X11_shines_94 zc_i_0 ?_
  refine zx_istore (pc := 95) (x2 := 0) (L2 := [.ref v0, .int v1, .null, .int v3, .null, .null, .null, .null, .null, .int 0, .null, .null, .null, .null]) d_X11_shines_95 (by decide) rfl rfl ?_
  refine zv_iconst (pc := 97) d_X11_shines_97 zc_i_0 ?_
  refine zx_istore (pc := 98) (x2 := 0) (L2 := [.ref v0, .int v1, .null, .int v3, .null, .null, .null, .null, .null, .int 0, .int 0, .null, .null, .null]) d_X11_shines_98 (by decide) rfl rfl ?_
  obtain ⟨q31, hq31, hf⟩ := zw_bdE hf
  refine zx_weak (L' := [.ref v0, .int v1, .null, .int v3, .null, .null, .null, .null, .null, .int 0, .int 0, .null, .null, .null]) (zw_leS (zw_leS (zw_leN (zw_leS (zw_leN (zw_leN (zw_leN (zw_leN (zw_leN (zw_leS (zw_leS (zw_leN (zw_leN (zw_leN zw_leZ)))))))))))))) (s_X11_shines_100_lp X P v0 v1 v3 q20 R J _ _ _ hq31 ?_)
  show zy_V X M_X11_shines 4 P 138 [.ref v0, .int v1, .null, .int v3, .null, .null, .null, .null, .null, .int q31, .null, .null, .null, .null] [] (q20, R, J)
  refine zv_iconst (pc := 138) d_X11_shines_138 zc_i_0 ?_
  refine zx_istore (pc := 139) (x2 := 0) (L2 := [.ref v0, .int v1, .null, .int v3, .null, .null, .null, .null, .null, .int q31, .int 0, .null, .null, .null]) d_X11_shines_139 (by decide) rfl rfl ?_
  refine zv_iconst (pc := 141) d_X11_shines_141 zc_i_0 ?_
  refine zx_istore (pc := 142) (x2 := 0) (L2 := [.ref v0, .int v1, .null, .int v3, .null, .null, .null, .null, .null, .int q31, .int 0, .int 0, .null, .null]) d_X11_shines_142 (by decide) rfl rfl ?_
  obtain ⟨q51, hq51, hf⟩ := zw_bdE hf
  refine zx_weak (L' := [.ref v0, .int v1, .null, .int v3, .null, .null, .null, .null, .null, .int q31, .int 0, .int 0, .null, .null]) (zw_leS (zw_leS (zw_leN (zw_leS (zw_leN (zw_leN (zw_leN (zw_leN (zw_leN (zw_leS (zw_leS (zw_leS (zw_leN (zw_leN zw_leZ)))))))))))))) (s_X11_shines_144_lp X P v0 v1 v3 q31 q20 R J _ _ _ hq51 ?_)
  show zy_V X M_X11_shines 4 P 235 [.ref v0, .int v1, .null, .int v3, .null, .null, .null, .null, .null, .null, .int q51, .null, .null, .null] [] (q20, R, J)
  refine zv_iconst (pc := 235) d_X11_shines_235 zc_i_0 ?_
  refine zx_istore (pc := 236) (x2 := 0) (L2 := [.ref v0, .int v1, .null, .int v3, .null, .null, .null, .null, .null, .null, .int q51, .int 0, .null, .null]) d_X11_shines_236 (by decide) rfl rfl ?_
  refine zv_iconst (pc := 238) d_X11_shines_238 zc_i_0 ?_
  refine zx_istore (pc := 239) (x2 := 0) (L2 := [.ref v0, .int v1, .null, .int v3, .null, .null, .null, .null, .null, .null, .int q51, .int 0, .int 0, .null]) d_X11_shines_239 (by decide) rfl rfl ?_
  obtain ⟨q64, hq64, hf⟩ := zw_bdE hf
  refine zx_weak (L' := [.ref v0, .int v1, .null, .int v3, .null, .null, .null, .null, .null, .null, .int q51, .int 0, .int 0, .null]) (zw_leS (zw_leS (zw_leN (zw_leS (zw_leN (zw_leN (zw_leN (zw_leN (zw_leN (zw_leN (zw_leS (zw_leS (zw_leS (zw_leN zw_leZ)))))))))))))) (s_X11_shines_241_lp X P v0 v1 v3 q51 q20 R J _ _ _ hq64 ?_)
  show zy_V X M_X11_shines 4 P 304 [.ref v0, .int v1, .null, .int v3, .null, .null, .null, .null, .null, .null, .int q51, .int q64, .null, .null] [] (q20, R, J)
  refine zv_aload_n (pc := 304) d_X11_shines_304 rfl ?_
  obtain ⟨g65, hf⟩ := zw_gcE hf (by decide)
  refine zx_getR (pc := 305) d_X11_shines_305 lk_CutStonesModel_119 (by decide) g1 g65 ?_
  refine zv_iconst (pc := 308) d_X11_shines_308 zc_i_0 ?_
  refine zv_aload_n (pc := 309) d_X11_shines_309 rfl ?_
  obtain ⟨g66, hf⟩ := zw_gcE hf (by decide)
  refine zx_getR (pc := 310) d_X11_shines_310 lk_CutStonesModel_125 (by decide) g1 g66 ?_
  refine zv_iconst (pc := 313) d_X11_shines_313 zc_i_0 ?_
  obtain ⟨i67, hf⟩ := zw_inE hf
  refine zx_iald (pc := 314) d_X11_shines_314 g66 i67 ?_
  obtain ⟨i68, hf⟩ := zw_inE hf
  obtain ⟨I69, eI69, hf⟩ := zw_letE hf
  refine zx_iast (pc := 315) (I2 := I69) d_X11_shines_315 g65 i68 eI69 ?_
  refine zv_aload_n (pc := 316) d_X11_shines_316 rfl ?_
  refine zx_getR (pc := 317) d_X11_shines_317 lk_CutStonesModel_119 (by decide) g1 g65 ?_
  refine zv_iconst (pc := 320) d_X11_shines_320 zc_i_1 ?_
  refine zv_aload_n (pc := 321) d_X11_shines_321 rfl ?_
  refine zx_getR (pc := 322) d_X11_shines_322 lk_CutStonesModel_125 (by decide) g1 g66 ?_
  refine zv_iconst (pc := 325) d_X11_shines_325 zc_i_1 ?_
  obtain ⟨i70, hf⟩ := zw_inE hf
  refine zx_iald (pc := 326) d_X11_shines_326 g66 i70 ?_
  refine zv_aload_n (pc := 327) d_X11_shines_327 rfl ?_
  refine zx_getR (pc := 328) d_X11_shines_328 lk_CutStonesModel_125 (by decide) g1 g66 ?_
  refine zv_iconst (pc := 331) d_X11_shines_331 zc_i_2 ?_
  obtain ⟨i71, hf⟩ := zw_inE hf
  refine zx_iald (pc := 332) d_X11_shines_332 g66 i71 ?_
  refine zv_iadd (pc := 333) d_X11_shines_333 ?_
  refine zv_aload_n (pc := 334) d_X11_shines_334 rfl ?_
  refine zx_getR (pc := 335) d_X11_shines_335 lk_CutStonesModel_125 (by decide) g1 g66 ?_
  refine zv_iconst (pc := 338) d_X11_shines_338 zc_i_3 ?_
  obtain ⟨i72, hf⟩ := zw_inE hf
  refine zx_iald (pc := 339) d_X11_shines_339 g66 i72 ?_
  refine zv_iadd (pc := 340) d_X11_shines_340 ?_
  obtain ⟨i73, hf⟩ := zw_inE hf
  obtain ⟨I74, eI74, hf⟩ := zw_letE hf
  refine zx_iast (pc := 341) (I2 := I74) d_X11_shines_341 g65 i73 eI74 ?_
  refine zv_aload_n (pc := 342) d_X11_shines_342 rfl ?_
  refine zx_getR (pc := 343) d_X11_shines_343 lk_CutStonesModel_119 (by decide) g1 g65 ?_
  refine zv_iconst (pc := 346) d_X11_shines_346 zc_i_2 ?_
  refine zv_iload (pc := 347) d_X11_shines_347 rfl ?_
  obtain ⟨i75, hf⟩ := zw_inE hf
  obtain ⟨I76, eI76, hf⟩ := zw_letE hf
  refine zx_iast (pc := 349) (I2 := I76) d_X11_shines_349 g65 i75 eI76 ?_
  refine zv_aload_n (pc := 350) d_X11_shines_350 rfl ?_
  refine zx_getR (pc := 351) d_X11_shines_351 lk_CutStonesModel_119 (by decide) g1 g65 ?_
  refine zv_iconst (pc := 354) d_X11_shines_354 zc_i_3 ?_
  refine zv_aload_n (pc := 355) d_X11_shines_355 rfl ?_
  refine zv_iload_n (pc := 356) d_X11_shines_356 rfl ?_
  obtain ⟨q77, hq77, hf⟩ := zw_bdE hf
  refine zx_callV (pc := 357) (As := [.int v1]) (o := v0) (st := [.int 3, .ref (R v0 49)]) (d2 := 1) (M2 := M_X11_weightOf) (P2 := (fun r S => r = (some (.int q77)) ∧ S = (I76, R, J))) d_X11_shines_357 (zw_mG (List.mem_of_getElem? (i := 1529) (by decide +kernel)) rfl) ce_X11_weightOf (zw_RvK g1 rfl rfl) (Nat.le_of_ble_eq_true rfl) rfl (Nat.le_of_ble_eq_true rfl) (by decide) (c_X11_weightOf X v0 v1 I76 R J _ hq77 ⟨rfl, rfl⟩) ?_
  rintro _ _ ⟨rfl, rfl⟩
  show zy_V X M_X11_shines 4 P (357 + 3) [.ref v0, .int v1, .null, .int v3, .null, .null, .null, .null, .null, .null, .int q51, .int q64, .null, .null] [.int q77, .int 3, .ref (R v0 49)] (I76, R, J)
  obtain ⟨i78, hf⟩ := zw_inE hf
  obtain ⟨I79, eI79, hf⟩ := zw_letE hf
  refine zx_iast (pc := 360) (I2 := I79) d_X11_shines_360 g65 i78 eI79 ?_
  refine zv_aload_n (pc := 361) d_X11_shines_361 rfl ?_
  refine zx_getR (pc := 362) d_X11_shines_362 lk_CutStonesModel_119 (by decide) g1 g65 ?_
  refine zv_iconst (pc := 365) d_X11_shines_365 zc_i_4 ?_
  refine zv_iload (pc := 366) d_X11_shines_366 rfl ?_
  obtain ⟨i80, hf⟩ := zw_inE hf
  obtain ⟨I81, eI81, hf⟩ := zw_letE hf
  refine zx_iast (pc := 368) (I2 := I81) d_X11_shines_368 g65 i80 eI81 ?_
  refine zv_aload_n (pc := 369) d_X11_shines_369 rfl ?_
  refine zx_getR (pc := 370) d_X11_shines_370 lk_CutStonesModel_119 (by decide) g1 g65 ?_
  refine zv_iconst (pc := 373) d_X11_shines_373 zc_i_5 ?_
  refine zv_aload_n (pc := 374) d_X11_shines_374 rfl ?_
  refine zx_getI (pc := 375) d_X11_shines_375 lk_CutStonesModel_340 (by decide) g1 ?_
  obtain ⟨i82, hf⟩ := zw_inE hf
  obtain ⟨I83, eI83, hf⟩ := zw_letE hf
  refine zx_iast (pc := 378) (I2 := I83) d_X11_shines_378 g65 i82 eI83 ?_
  refine zv_aload_n (pc := 379) d_X11_shines_379 rfl ?_
  refine zx_getR (pc := 380) d_X11_shines_380 lk_CutStonesModel_119 (by decide) g1 g65 ?_
  refine zv_bipush (pc := 383) d_X11_shines_383 zc_b_6 ?_
  refine zv_aload_n (pc := 385) d_X11_shines_385 rfl ?_
  obtain ⟨g84, hf⟩ := zw_gcE hf (by decide)
  refine zx_getR (pc := 386) d_X11_shines_386 lk_CutStonesModel_64 (by decide) g1 g84 ?_
  refine zv_iload_n (pc := 389) d_X11_shines_389 rfl ?_
  obtain ⟨i85, hf⟩ := zw_inE hf
  refine zx_iald (pc := 390) d_X11_shines_390 g84 i85 ?_
  obtain ⟨i86, hf⟩ := zw_inE hf
  obtain ⟨I87, eI87, hf⟩ := zw_letE hf
  refine zx_iast (pc := 391) (I2 := I87) d_X11_shines_391 g65 i86 eI87 ?_
  refine zv_aload_n (pc := 392) d_X11_shines_392 rfl ?_
  refine zx_getR (pc := 393) d_X11_shines_393 lk_CutStonesModel_119 (by decide) g1 g65 ?_
  refine zv_bipush (pc := 396) d_X11_shines_396 zc_b_7 ?_
  refine zv_iload_n (pc := 398) d_X11_shines_398 rfl ?_
  obtain ⟨i88, hf⟩ := zw_inE hf
  obtain ⟨I89, eI89, hf⟩ := zw_letE hf
  refine zx_iast (pc := 399) (I2 := I89) d_X11_shines_399 g65 i88 eI89 ?_
  cases hf
  exact zx_vret (pc := 400) d_X11_shines_400 rfl hk
abbrev M_X11_tellRows : zw_M := (⟨"CutStonesModel", "tellRows", "(IZ)V"⟩, prog_13_method_26_code, 8, (Option.none : Option Jvm.ClassFile.FieldType))
theorem d_X11_tellRows_0 : decode M_X11_tellRows.2.1 0 = .ok (.aload_n 0, 1) := by decide +kernel
theorem d_X11_tellRows_1 : decode M_X11_tellRows.2.1 1 = .ok (.invokevirtual 239, 3) := by decide +kernel
theorem d_X11_tellRows_4 : decode M_X11_tellRows.2.1 4 = .ok (.aload_n 0, 1) := by decide +kernel
theorem d_X11_tellRows_5 : decode M_X11_tellRows.2.1 5 = .ok (.invokevirtual 293, 3) := by decide +kernel
theorem d_X11_tellRows_8 : decode M_X11_tellRows.2.1 8 = .ok (.aload_n 0, 1) := by decide +kernel
theorem d_X11_tellRows_9 : decode M_X11_tellRows.2.1 9 = .ok (.bipush 17, 2) := by decide +kernel
theorem d_X11_tellRows_11 : decode M_X11_tellRows.2.1 11 = .ok (.invokevirtual 236, 3) := by decide +kernel
theorem d_X11_tellRows_14 : decode M_X11_tellRows.2.1 14 = .ok (.ifCond .ne 8, 3) := by decide +kernel
theorem d_X11_tellRows_17 : decode M_X11_tellRows.2.1 17 = .ok (.aload_n 0, 1) := by decide +kernel
theorem d_X11_tellRows_18 : decode M_X11_tellRows.2.1 18 = .ok (.iconst 1, 1) := by decide +kernel
theorem d_X11_tellRows_19 : decode M_X11_tellRows.2.1 19 = .ok (.invokevirtual 233, 3) := by decide +kernel
theorem d_X11_tellRows_22 : decode M_X11_tellRows.2.1 22 = .ok (.aload_n 0, 1) := by decide +kernel
theorem d_X11_tellRows_23 : decode M_X11_tellRows.2.1 23 = .ok (.getfield 67, 3) := by decide +kernel
theorem d_X11_tellRows_26 : decode M_X11_tellRows.2.1 26 = .ok (.iload_n 1, 1) := by decide +kernel
theorem d_X11_tellRows_27 : decode M_X11_tellRows.2.1 27 = .ok (.iconst 0, 1) := by decide +kernel
theorem d_X11_tellRows_28 : decode M_X11_tellRows.2.1 28 = .ok (.iastore, 1) := by decide +kernel
theorem d_X11_tellRows_29 : decode M_X11_tellRows.2.1 29 = .ok (.iconst 0, 1) := by decide +kernel
theorem d_X11_tellRows_30 : decode M_X11_tellRows.2.1 30 = .ok (.istore_n 3, 1) := by decide +kernel
theorem d_X11_tellRows_31 : decode M_X11_tellRows.2.1 31 = .ok (.aload_n 0, 1) := by decide +kernel
theorem d_X11_tellRows_32 : decode M_X11_tellRows.2.1 32 = .ok (.getfield 221, 3) := by decide +kernel
theorem d_X11_tellRows_35 : decode M_X11_tellRows.2.1 35 = .ok (.istore 4, 2) := by decide +kernel
theorem d_X11_tellRows_37 : decode M_X11_tellRows.2.1 37 = .ok (.aload_n 0, 1) := by decide +kernel
theorem d_X11_tellRows_38 : decode M_X11_tellRows.2.1 38 = .ok (.bipush 17, 2) := by decide +kernel
theorem d_X11_tellRows_40 : decode M_X11_tellRows.2.1 40 = .ok (.invokevirtual 236, 3) := by decide +kernel
theorem d_X11_tellRows_43 : decode M_X11_tellRows.2.1 43 = .ok (.ifCond .eq 189, 3) := by decide +kernel
theorem d_X11_tellRows_46 : decode M_X11_tellRows.2.1 46 = .ok (.aload_n 0, 1) := by decide +kernel
theorem d_X11_tellRows_47 : decode M_X11_tellRows.2.1 47 = .ok (.getfield 67, 3) := by decide +kernel
theorem d_X11_tellRows_50 : decode M_X11_tellRows.2.1 50 = .ok (.iload_n 1, 1) := by decide +kernel
theorem d_X11_tellRows_51 : decode M_X11_tellRows.2.1 51 = .ok (.iaload, 1) := by decide +kernel
theorem d_X11_tellRows_52 : decode M_X11_tellRows.2.1 52 = .ok (.bipush 12, 2) := by decide +kernel
theorem d_X11_tellRows_54 : decode M_X11_tellRows.2.1 54 = .ok (.if_icmp .ne 8, 3) := by decide +kernel
theorem d_X11_tellRows_57 : decode M_X11_tellRows.2.1 57 = .ok (.aload_n 0, 1) := by decide +kernel
theorem d_X11_tellRows_58 : decode M_X11_tellRows.2.1 58 = .ok (.iconst 2, 1) := by decide +kernel
theorem d_X11_tellRows_59 : decode M_X11_tellRows.2.1 59 = .ok (.invokevirtual 233, 3) := by decide +kernel
theorem d_X11_tellRows_62 : decode M_X11_tellRows.2.1 62 = .ok (.aload_n 0, 1) := by decide +kernel
theorem d_X11_tellRows_63 : decode M_X11_tellRows.2.1 63 = .ok (.getfield 218, 3) := by decide +kernel
theorem d_X11_tellRows_66 : decode M_X11_tellRows.2.1 66 = .ok (.ifCond .le 4, 3) := by decide +kernel
theorem d_X11_tellRows_69 : decode M_X11_tellRows.2.1 69 = .ok (.return_, 1) := by decide +kernel
theorem d_X11_tellRows_70 : decode M_X11_tellRows.2.1 70 = .ok (.aload_n 0, 1) := by decide +kernel
theorem d_X11_tellRows_71 : decode M_X11_tellRows.2.1 71 = .ok (.getfield 27, 3) := by decide +kernel
theorem d_X11_tellRows_74 : decode M_X11_tellRows.2.1 74 = .ok (.aload_n 0, 1) := by decide +kernel
theorem d_X11_tellRows_75 : decode M_X11_tellRows.2.1 75 = .ok (.getfield 221, 3) := by decide +kernel
theorem d_X11_tellRows_78 : decode M_X11_tellRows.2.1 78 = .ok (.iaload, 1) := by decide +kernel
theorem d_X11_tellRows_79 : decode M_X11_tellRows.2.1 79 = .ok (.istore 5, 2) := by decide +kernel
theorem d_X11_tellRows_81 : decode M_X11_tellRows.2.1 81 = .ok (.aload_n 0, 1) := by decide +kernel
theorem d_X11_tellRows_82 : decode M_X11_tellRows.2.1 82 = .ok (.getfield 67, 3) := by decide +kernel
theorem d_X11_tellRows_85 : decode M_X11_tellRows.2.1 85 = .ok (.iload_n 1, 1) := by decide +kernel
theorem d_X11_tellRows_86 : decode M_X11_tellRows.2.1 86 = .ok (.iaload, 1) := by decide +kernel
theorem d_X11_tellRows_87 : decode M_X11_tellRows.2.1 87 = .ok (.ifCond .ne 11, 3) := by decide +kernel
theorem d_X11_tellRows_90 : decode M_X11_tellRows.2.1 90 = .ok (.aload_n 0, 1) := by decide +kernel
theorem d_X11_tellRows_91 : decode M_X11_tellRows.2.1 91 = .ok (.getfield 64, 3) := by decide +kernel
theorem d_X11_tellRows_94 : decode M_X11_tellRows.2.1 94 = .ok (.iload_n 1, 1) := by decide +kernel
theorem d_X11_tellRows_95 : decode M_X11_tellRows.2.1 95 = .ok (.iload 5, 2) := by decide +kernel
theorem d_X11_tellRows_97 : decode M_X11_tellRows.2.1 97 = .ok (.iastore, 1) := by decide +kernel
theorem d_X11_tellRows_98 : decode M_X11_tellRows.2.1 98 = .ok (.iload 5, 2) := by decide +kernel
theorem d_X11_tellRows_100 : decode M_X11_tellRows.2.1 100 = .ok (.aload_n 0, 1) := by decide +kernel
theorem d_X11_tellRows_101 : decode M_X11_tellRows.2.1 101 = .ok (.getfield 64, 3) := by decide +kernel
theorem d_X11_tellRows_104 : decode M_X11_tellRows.2.1 104 = .ok (.iload_n 1, 1) := by decide +kernel
theorem d_X11_tellRows_105 : decode M_X11_tellRows.2.1 105 = .ok (.iaload, 1) := by decide +kernel
theorem d_X11_tellRows_106 : decode M_X11_tellRows.2.1 106 = .ok (.if_icmp .eq 12, 3) := by decide +kernel
theorem d_X11_tellRows_109 : decode M_X11_tellRows.2.1 109 = .ok (.aload_n 0, 1) := by decide +kernel
theorem d_X11_tellRows_110 : decode M_X11_tellRows.2.1 110 = .ok (.iconst 5, 1) := by decide +kernel
theorem d_X11_tellRows_111 : decode M_X11_tellRows.2.1 111 = .ok (.aload_n 0, 1) := by decide +kernel
theorem d_X11_tellRows_112 : decode M_X11_tellRows.2.1 112 = .ok (.getfield 221, 3) := by decide +kernel
theorem d_X11_tellRows_115 : decode M_X11_tellRows.2.1 115 = .ok (.invokevirtual 289, 3) := by decide +kernel
theorem d_X11_tellRows_118 : decode M_X11_tellRows.2.1 118 = .ok (.iconst 0, 1) := by decide +kernel
theorem d_X11_tellRows_119 : decode M_X11_tellRows.2.1 119 = .ok (.istore 6, 2) := by decide +kernel
theorem d_X11_tellRows_121 : decode M_X11_tellRows.2.1 121 = .ok (.iload 6, 2) := by decide +kernel
theorem d_X11_tellRows_123 : decode M_X11_tellRows.2.1 123 = .ok (.iload 5, 2) := by decide +kernel
theorem d_X11_tellRows_125 : decode M_X11_tellRows.2.1 125 = .ok (.if_icmp .ge 84, 3) := by decide +kernel
theorem d_X11_tellRows_128 : decode M_X11_tellRows.2.1 128 = .ok (.aload_n 0, 1) := by decide +kernel
theorem d_X11_tellRows_129 : decode M_X11_tellRows.2.1 129 = .ok (.getfield 17, 3) := by decide +kernel
theorem d_X11_tellRows_132 : decode M_X11_tellRows.2.1 132 = .ok (.aload_n 0, 1) := by decide +kernel
theorem d_X11_tellRows_133 : decode M_X11_tellRows.2.1 133 = .ok (.getfield 24, 3) := by decide +kernel
theorem d_X11_tellRows_136 : decode M_X11_tellRows.2.1 136 = .ok (.aload_n 0, 1) := by decide +kernel
theorem d_X11_tellRows_137 : decode M_X11_tellRows.2.1 137 = .ok (.getfield 221, 3) := by decide +kernel
theorem d_X11_tellRows_140 : decode M_X11_tellRows.2.1 140 = .ok (.iaload, 1) := by decide +kernel
theorem d_X11_tellRows_141 : decode M_X11_tellRows.2.1 141 = .ok (.iconst 1, 1) := by decide +kernel
theorem d_X11_tellRows_142 : decode M_X11_tellRows.2.1 142 = .ok (.iadd, 1) := by decide +kernel
theorem d_X11_tellRows_143 : decode M_X11_tellRows.2.1 143 = .ok (.iload 6, 2) := by decide +kernel
theorem d_X11_tellRows_145 : decode M_X11_tellRows.2.1 145 = .ok (.iadd, 1) := by decide +kernel
theorem d_X11_tellRows_146 : decode M_X11_tellRows.2.1 146 = .ok (.baload, 1) := by decide +kernel
theorem d_X11_tellRows_147 : decode M_X11_tellRows.2.1 147 = .ok (.invokestatic 208, 3) := by decide +kernel
theorem d_X11_tellRows_150 : decode M_X11_tellRows.2.1 150 = .ok (.istore 7, 2) := by decide +kernel
theorem d_X11_tellRows_152 : decode M_X11_tellRows.2.1 152 = .ok (.iload 6, 2) := by decide +kernel
theorem d_X11_tellRows_154 : decode M_X11_tellRows.2.1 154 = .ok (.aload_n 0, 1) := by decide +kernel
theorem d_X11_tellRows_155 : decode M_X11_tellRows.2.1 155 = .ok (.getfield 64, 3) := by decide +kernel
theorem d_X11_tellRows_158 : decode M_X11_tellRows.2.1 158 = .ok (.iload_n 1, 1) := by decide +kernel
theorem d_X11_tellRows_159 : decode M_X11_tellRows.2.1 159 = .ok (.iaload, 1) := by decide +kernel
theorem d_X11_tellRows_160 : decode M_X11_tellRows.2.1 160 = .ok (.if_icmp .ge 28, 3) := by decide +kernel
theorem d_X11_tellRows_163 : decode M_X11_tellRows.2.1 163 = .ok (.aload_n 0, 1) := by decide +kernel
theorem d_X11_tellRows_164 : decode M_X11_tellRows.2.1 164 = .ok (.getfield 70, 3) := by decide +kernel
theorem d_X11_tellRows_167 : decode M_X11_tellRows.2.1 167 = .ok (.sipush 144, 3) := by decide +kernel
theorem d_X11_tellRows_170 : decode M_X11_tellRows.2.1 170 = .ok (.iload_n 1, 1) := by decide +kernel
theorem d_X11_tellRows_171 : decode M_X11_tellRows.2.1 171 = .ok (.imul, 1) := by decide +kernel
theorem d_X11_tellRows_172 : decode M_X11_tellRows.2.1 172 = .ok (.bipush 12, 2) := by decide +kernel
theorem d_X11_tellRows_174 : decode M_X11_tellRows.2.1 174 = .ok (.aload_n 0, 1) := by decide +kernel
theorem d_X11_tellRows_175 : decode M_X11_tellRows.2.1 175 = .ok (.getfield 67, 3) := by decide +kernel
theorem d_X11_tellRows_178 : decode M_X11_tellRows.2.1 178 = .ok (.iload_n 1, 1) := by decide +kernel
theorem d_X11_tellRows_179 : decode M_X11_tellRows.2.1 179 = .ok (.iaload, 1) := by decide +kernel
theorem d_X11_tellRows_180 : decode M_X11_tellRows.2.1 180 = .ok (.imul, 1) := by decide +kernel
theorem d_X11_tellRows_181 : decode M_X11_tellRows.2.1 181 = .ok (.iadd, 1) := by decide +kernel
theorem d_X11_tellRows_182 : decode M_X11_tellRows.2.1 182 = .ok (.iload 6, 2) := by decide +kernel
theorem d_X11_tellRows_184 : decode M_X11_tellRows.2.1 184 = .ok (.iadd, 1) := by decide +kernel
theorem d_X11_tellRows_185 : decode M_X11_tellRows.2.1 185 = .ok (.iload 7, 2) := by decide +kernel
theorem d_X11_tellRows_187 : decode M_X11_tellRows.2.1 187 = .ok (.iastore, 1) := by decide +kernel
theorem d_X11_tellRows_188 : decode M_X11_tellRows.2.1 188 = .ok (.iload_n 3, 1) := by decide +kernel
theorem d_X11_tellRows_189 : decode M_X11_tellRows.2.1 189 = .ok (.ifCond .ne 8, 3) := by decide +kernel
theorem d_X11_tellRows_192 : decode M_X11_tellRows.2.1 192 = .ok (.iload 7, 2) := by decide +kernel
theorem d_X11_tellRows_194 : decode M_X11_tellRows.2.1 194 = .ok (.ifCond .le 7, 3) := by decide +kernel
theorem d_X11_tellRows_197 : decode M_X11_tellRows.2.1 197 = .ok (.iconst 1, 1) := by decide +kernel
theorem d_X11_tellRows_198 : decode M_X11_tellRows.2.1 198 = .ok (.goto 4, 3) := by decide +kernel
theorem d_X11_tellRows_201 : decode M_X11_tellRows.2.1 201 = .ok (.iconst 0, 1) := by decide +kernel
theorem d_X11_tellRows_202 : decode M_X11_tellRows.2.1 202 = .ok (.istore_n 3, 1) := by decide +kernel
theorem d_X11_tellRows_203 : decode M_X11_tellRows.2.1 203 = .ok (.iinc 6 1, 3) := by decide +kernel
theorem d_X11_tellRows_206 : decode M_X11_tellRows.2.1 206 = .ok (.goto (-85), 3) := by decide +kernel
theorem d_X11_tellRows_209 : decode M_X11_tellRows.2.1 209 = .ok (.aload_n 0, 1) := by decide +kernel
theorem d_X11_tellRows_210 : decode M_X11_tellRows.2.1 210 = .ok (.getfield 221, 3) := by decide +kernel
theorem d_X11_tellRows_213 : decode M_X11_tellRows.2.1 213 = .ok (.istore 4, 2) := by decide +kernel
theorem d_X11_tellRows_215 : decode M_X11_tellRows.2.1 215 = .ok (.aload_n 0, 1) := by decide +kernel
theorem d_X11_tellRows_216 : decode M_X11_tellRows.2.1 216 = .ok (.getfield 67, 3) := by decide +kernel
theorem d_X11_tellRows_219 : decode M_X11_tellRows.2.1 219 = .ok (.iload_n 1, 1) := by decide +kernel
theorem d_X11_tellRows_220 : decode M_X11_tellRows.2.1 220 = .ok (.dup2, 1) := by decide +kernel
theorem d_X11_tellRows_221 : decode M_X11_tellRows.2.1 221 = .ok (.iaload, 1) := by decide +kernel
theorem d_X11_tellRows_222 : decode M_X11_tellRows.2.1 222 = .ok (.iconst 1, 1) := by decide +kernel
theorem d_X11_tellRows_223 : decode M_X11_tellRows.2.1 223 = .ok (.iadd, 1) := by decide +kernel
theorem d_X11_tellRows_224 : decode M_X11_tellRows.2.1 224 = .ok (.iastore, 1) := by decide +kernel
theorem d_X11_tellRows_225 : decode M_X11_tellRows.2.1 225 = .ok (.aload_n 0, 1) := by decide +kernel
theorem d_X11_tellRows_226 : decode M_X11_tellRows.2.1 226 = .ok (.invokevirtual 239, 3) := by decide +kernel
theorem d_X11_tellRows_229 : decode M_X11_tellRows.2.1 229 = .ok (.goto (-192), 3) := by decide +kernel
theorem d_X11_tellRows_232 : decode M_X11_tellRows.2.1 232 = .ok (.aload_n 0, 1) := by decide +kernel
theorem d_X11_tellRows_233 : decode M_X11_tellRows.2.1 233 = .ok (.getfield 218, 3) := by decide +kernel
theorem d_X11_tellRows_236 : decode M_X11_tellRows.2.1 236 = .ok (.ifCond .ne 14, 3) := by decide +kernel
theorem d_X11_tellRows_239 : decode M_X11_tellRows.2.1 239 = .ok (.iload_n 3, 1) := by decide +kernel
theorem d_X11_tellRows_240 : decode M_X11_tellRows.2.1 240 = .ok (.ifCond .ne 10, 3) := by decide +kernel
theorem d_X11_tellRows_243 : decode M_X11_tellRows.2.1 243 = .ok (.aload_n 0, 1) := by decide +kernel
theorem d_X11_tellRows_244 : decode M_X11_tellRows.2.1 244 = .ok (.iconst 5, 1) := by decide +kernel
theorem d_X11_tellRows_245 : decode M_X11_tellRows.2.1 245 = .ok (.iload 4, 2) := by decide +kernel
theorem d_X11_tellRows_247 : decode M_X11_tellRows.2.1 247 = .ok (.invokevirtual 289, 3) := by decide +kernel
theorem d_X11_tellRows_250 : decode M_X11_tellRows.2.1 250 = .ok (.aload_n 0, 1) := by decide +kernel
theorem d_X11_tellRows_251 : decode M_X11_tellRows.2.1 251 = .ok (.iconst 4, 1) := by decide +kernel
theorem d_X11_tellRows_252 : decode M_X11_tellRows.2.1 252 = .ok (.invokevirtual 286, 3) := by decide +kernel
theorem d_X11_tellRows_255 : decode M_X11_tellRows.2.1 255 = .ok (.aload_n 0, 1) := by decide +kernel
theorem d_X11_tellRows_256 : decode M_X11_tellRows.2.1 256 = .ok (.getfield 218, 3) := by decide +kernel
theorem d_X11_tellRows_259 : decode M_X11_tellRows.2.1 259 = .ok (.ifCond .le 4, 3) := by decide +kernel
theorem d_X11_tellRows_262 : decode M_X11_tellRows.2.1 262 = .ok (.return_, 1) := by decide +kernel
theorem d_X11_tellRows_263 : decode M_X11_tellRows.2.1 263 = .ok (.iload_n 2, 1) := by decide +kernel
theorem d_X11_tellRows_264 : decode M_X11_tellRows.2.1 264 = .ok (.ifCond .eq 19, 3) := by decide +kernel
theorem d_X11_tellRows_267 : decode M_X11_tellRows.2.1 267 = .ok (.aload_n 0, 1) := by decide +kernel
theorem d_X11_tellRows_268 : decode M_X11_tellRows.2.1 268 = .ok (.getfield 58, 3) := by decide +kernel
theorem d_X11_tellRows_271 : decode M_X11_tellRows.2.1 271 = .ok (.aload_n 0, 1) := by decide +kernel
theorem d_X11_tellRows_272 : decode M_X11_tellRows.2.1 272 = .ok (.getfield 251, 3) := by decide +kernel
theorem d_X11_tellRows_275 : decode M_X11_tellRows.2.1 275 = .ok (.dup2, 1) := by decide +kernel
theorem d_X11_tellRows_276 : decode M_X11_tellRows.2.1 276 = .ok (.iaload, 1) := by decide +kernel
theorem d_X11_tellRows_277 : decode M_X11_tellRows.2.1 277 = .ok (.iconst 1, 1) := by decide +kernel
theorem d_X11_tellRows_278 : decode M_X11_tellRows.2.1 278 = .ok (.iadd, 1) := by decide +kernel
theorem d_X11_tellRows_279 : decode M_X11_tellRows.2.1 279 = .ok (.iastore, 1) := by decide +kernel
theorem d_X11_tellRows_280 : decode M_X11_tellRows.2.1 280 = .ok (.goto 16, 3) := by decide +kernel
theorem d_X11_tellRows_283 : decode M_X11_tellRows.2.1 283 = .ok (.aload_n 0, 1) := by decide +kernel
theorem d_X11_tellRows_284 : decode M_X11_tellRows.2.1 284 = .ok (.getfield 61, 3) := by decide +kernel
theorem d_X11_tellRows_287 : decode M_X11_tellRows.2.1 287 = .ok (.aload_n 0, 1) := by decide +kernel
theorem d_X11_tellRows_288 : decode M_X11_tellRows.2.1 288 = .ok (.getfield 251, 3) := by decide +kernel
theorem d_X11_tellRows_291 : decode M_X11_tellRows.2.1 291 = .ok (.dup2, 1) := by decide +kernel
theorem d_X11_tellRows_292 : decode M_X11_tellRows.2.1 292 = .ok (.iaload, 1) := by decide +kernel
theorem d_X11_tellRows_293 : decode M_X11_tellRows.2.1 293 = .ok (.iconst 1, 1) := by decide +kernel
theorem d_X11_tellRows_294 : decode M_X11_tellRows.2.1 294 = .ok (.iadd, 1) := by decide +kernel
theorem d_X11_tellRows_295 : decode M_X11_tellRows.2.1 295 = .ok (.iastore, 1) := by decide +kernel
theorem d_X11_tellRows_296 : decode M_X11_tellRows.2.1 296 = .ok (.return_, 1) := by decide +kernel
theorem ce_X11_tellRows : zw_CeV M_X11_tellRows 2 := ⟨⟨⟨by decide +kernel, by decide +kernel, by decide +kernel⟩, (zw_mG (List.mem_of_getElem? (i := 1481) (by decide +kernel)) rfl), (zw_mG (List.mem_of_getElem? (i := 108) (by decide +kernel)) rfl), by decide, by decide +kernel⟩, (zw_mG (List.mem_of_getElem? (i := 1480) (by decide +kernel)) rfl), (zw_mG (List.mem_of_getElem? (i := 63) (by decide +kernel)) rfl)⟩
def j_X11_tellRows_202_121 (v0 : Nat) (v1 : Int32) (v2 : Int32) (v5 : Int32) (v6 : Int32) (s0 : Int32) (I : zI) (R : zR) (J : zJ) : Option ((Int32 × Int32 × zI) ⊕ (Int32 × zI)) :=
  zw_let (v6 + 1 : Int32) fun x40 => (some (.inl (s0, x40, I)))
theorem j_X11_tellRows_202_121_ok (X : zw_X) (P : Option Value → aS → Prop) (v0 : Nat) (v1 : Int32) (v2 : Int32) (v5 : Int32) (v6 : Int32) (s0 : Int32) (I : zI) (R : zR) (J : zJ) (o : (Int32 × Int32 × zI) ⊕ (Int32 × zI)) (hf : j_X11_tellRows_202_121 v0 v1 v2 v5 v6 s0 I R J = some o) (hk : (zw_se (fun t => zy_V X M_X11_tellRows 4 P 121 [.ref v0, .int v1, .int v2, .int t.1, .null, .int v5, .int t.2.1, .null] [] (t.2.2, R, J)) (fun r => zy_V X M_X11_tellRows 4 P 209 [.ref v0, .int v1, .int v2, .int r.1, .null, .null, .null, .null] [] (r.2, R, J)) o)) : zy_V X M_X11_tellRows 4 P 202 [.ref v0, .int v1, .int v2, .null, .null, .int v5, .int v6, .null] [.int s0] (I, R, J) := by
  unfold j_X11_tellRows_202_121 at hf
  refine zx_istore_n (pc := 202) (x2 := s0) (L2 := [.ref v0, .int v1, .int v2, .int s0, .null, .int v5, .int v6, .null]) d_X11_tellRows_202 (by decide) rfl rfl ?_
  obtain ⟨x40, ex40, hf⟩ := zw_letE hf
  refine zx_iinc (pc := 203) (x2 := x40) (L2 := [.ref v0, .int v1, .int v2, .int s0, .null, .int v5, .int x40, .null]) d_X11_tellRows_203 (by decide) rfl zc_i_1 ex40 rfl ?_
  refine zv_goto (pc := 206) (tg := 121) d_X11_tellRows_206 (by decide) ?_
  cases hf
  exact zx_weak (zw_leS (zw_leS (zw_leS (zw_leS (zw_leN (zw_leS (zw_leS (zw_leN zw_leZ)))))))) hk
def j_X11_tellRows_197_121 (v0 : Nat) (v1 : Int32) (v2 : Int32) (v5 : Int32) (v6 : Int32) (I : zI) (R : zR) (J : zJ) : Option ((Int32 × Int32 × zI) ⊕ (Int32 × zI)) :=
  j_X11_tellRows_202_121 v0 v1 v2 v5 v6 1 I R J
theorem j_X11_tellRows_197_121_ok (X : zw_X) (P : Option Value → aS → Prop) (v0 : Nat) (v1 : Int32) (v2 : Int32) (v5 : Int32) (v6 : Int32) (I : zI) (R : zR) (J : zJ) (o : (Int32 × Int32 × zI) ⊕ (Int32 × zI)) (hf : j_X11_tellRows_197_121 v0 v1 v2 v5 v6 I R J = some o) (hk : (zw_se (fun t => zy_V X M_X11_tellRows 4 P 121 [.ref v0, .int v1, .int v2, .int t.1, .null, .int v5, .int t.2.1, .null] [] (t.2.2, R, J)) (fun r => zy_V X M_X11_tellRows 4 P 209 [.ref v0, .int v1, .int v2, .int r.1, .null, .null, .null, .null] [] (r.2, R, J)) o)) : zy_V X M_X11_tellRows 4 P 197 [.ref v0, .int v1, .int v2, .null, .null, .int v5, .int v6, .null] [] (I, R, J) := by
  unfold j_X11_tellRows_197_121 at hf
  refine zv_iconst (pc := 197) d_X11_tellRows_197 zc_i_1 ?_
  refine zv_goto (pc := 198) (tg := 202) d_X11_tellRows_198 (by decide) ?_
  exact zx_weak (zw_leS (zw_leS (zw_leS (zw_leN (zw_leN (zw_leS (zw_leS (zw_leN zw_leZ)))))))) (j_X11_tellRows_202_121_ok X P v0 v1 v2 v5 v6 1 I R J _ hf hk)
def j_X11_tellRows_188_121 (v0 : Nat) (v1 : Int32) (v2 : Int32) (v3 : Int32) (v5 : Int32) (v6 : Int32) (v7 : Int32) (I : zI) (R : zR) (J : zJ) : Option ((Int32 × Int32 × zI) ⊕ (Int32 × zI)) :=
  if ¬ v3 = 0 then j_X11_tellRows_197_121 v0 v1 v2 v5 v6 I R J else if v7 ≤ 0 then j_X11_tellRows_202_121 v0 v1 v2 v5 v6 0 I R J else j_X11_tellRows_197_121 v0 v1 v2 v5 v6 I R J
theorem j_X11_tellRows_188_121_ok (X : zw_X) (P : Option Value → aS → Prop) (v0 : Nat) (v1 : Int32) (v2 : Int32) (v3 : Int32) (v5 : Int32) (v6 : Int32) (v7 : Int32) (I : zI) (R : zR) (J : zJ) (o : (Int32 × Int32 × zI) ⊕ (Int32 × zI)) (hf : j_X11_tellRows_188_121 v0 v1 v2 v3 v5 v6 v7 I R J = some o) (hk : (zw_se (fun t => zy_V X M_X11_tellRows 4 P 121 [.ref v0, .int v1, .int v2, .int t.1, .null, .int v5, .int t.2.1, .null] [] (t.2.2, R, J)) (fun r => zy_V X M_X11_tellRows 4 P 209 [.ref v0, .int v1, .int v2, .int r.1, .null, .null, .null, .null] [] (r.2, R, J)) o)) : zy_V X M_X11_tellRows 4 P 188 [.ref v0, .int v1, .int v2, .int v3, .null, .int v5, .int v6, .int v7] [] (I, R, J) := by
  unfold j_X11_tellRows_188_121 at hf
  refine zv_iload_n (pc := 188) d_X11_tellRows_188 rfl ?_
  rcases zw_ifE hf with ⟨c39, hf⟩ | ⟨c39, hf⟩
  · refine zv_if_ne (pc := 189) (tg := 197) d_X11_tellRows_189 (by decide) (fun _ => ?_) (fun q => absurd q c39)
    exact zx_weak (zw_leS (zw_leS (zw_leS (zw_leN (zw_leN (zw_leS (zw_leS (zw_leN zw_leZ)))))))) (j_X11_tellRows_197_121_ok X P v0 v1 v2 v5 v6 I R J _ hf hk)
  · refine zv_if_ne (pc := 189) (tg := 197) d_X11_tellRows_189 (by decide) (fun q => absurd q c39) (fun _ => ?_)
    refine zv_iload (pc := 192) d_X11_tellRows_192 rfl ?_
    rcases zw_ifE hf with ⟨c41, hf⟩ | ⟨c41, hf⟩
    · refine zv_if_le (pc := 194) (tg := 201) d_X11_tellRows_194 (by decide) (fun _ => ?_) (fun q => absurd c41 q)
      refine zv_iconst (pc := 201) d_X11_tellRows_201 zc_i_0 ?_
      exact zx_weak (zw_leS (zw_leS (zw_leS (zw_leN (zw_leN (zw_leS (zw_leS (zw_leN zw_leZ)))))))) (j_X11_tellRows_202_121_ok X P v0 v1 v2 v5 v6 0 I R J _ hf hk)
    · refine zv_if_le (pc := 194) (tg := 201) d_X11_tellRows_194 (by decide) (fun q => absurd q c41) (fun _ => ?_)
      exact zx_weak (zw_leS (zw_leS (zw_leS (zw_leN (zw_leN (zw_leS (zw_leS (zw_leN zw_leZ)))))))) (j_X11_tellRows_197_121_ok X P v0 v1 v2 v5 v6 I R J _ hf hk)
def s_X11_tellRows_121 (v0 : Nat) (v1 : Int32) (v2 : Int32) (v5 : Int32) (R : zR) (J : zJ) (s : Int32 × Int32 × zI) : Option ((Int32 × Int32 × zI) ⊕ (Int32 × zI)) :=
  if v5 ≤ s.2.1 then some (.inr (s.1, s.2.2)) else zw_g (zw_gc v0 11) (zw_g (zw_gc (R v0 3) 12) (zw_g (zw_gc (R v0 6) 13) (zw_g (zw_in (s.2.2 v0 11) (zw_SH (R v0 6)).2) (zw_g (zw_in (((s.2.2 (R v0 6) (Int32.toNatClampNeg (s.2.2 v0 11))) + 1) + s.2.1) (zw_SH (R v0 3)).2) ((f_X11_cellOf (s.2.2 (R v0 3) (Int32.toNatClampNeg (((s.2.2 (R v0 6) (Int32.toNatClampNeg (s.2.2 v0 11))) + 1) + s.2.1)))).bind fun q35 => (zw_g (zw_gc (R v0 28) 13) (zw_g (zw_in v1 (zw_SH (R v0 28)).2) (if (s.2.2 (R v0 28) (Int32.toNatClampNeg v1)) ≤ s.2.1 then j_X11_tellRows_188_121 v0 v1 v2 s.1 v5 s.2.1 q35 s.2.2 R J else zw_g (zw_gc (R v0 30) 13) (zw_g (zw_gc (R v0 29) 13) (zw_g (zw_in v1 (zw_SH (R v0 29)).2) (zw_g (zw_in (((144 * v1) + (12 * (s.2.2 (R v0 29) (Int32.toNatClampNeg v1)))) + s.2.1) (zw_SH (R v0 30)).2) (zw_let (zw_u s.2.2 (R v0 30) (Int32.toNatClampNeg (((144 * v1) + (12 * (s.2.2 (R v0 29) (Int32.toNatClampNeg v1)))) + s.2.1)) q35 : zI) fun I46 => (j_X11_tellRows_188_121 v0 v1 v2 s.1 v5 s.2.1 q35 I46 R J)))))))))))))
theorem s_X11_tellRows_121_ok (X : zw_X) (P : Option Value → aS → Prop) (v0 : Nat) (v1 : Int32) (v2 : Int32) (v5 : Int32) (R : zR) (J : zJ) (s : Int32 × Int32 × zI) (o : (Int32 × Int32 × zI) ⊕ (Int32 × zI)) (hf : s_X11_tellRows_121 v0 v1 v2 v5 R J s = some o) (hk : (zw_se (fun t => zy_V X M_X11_tellRows 4 P 121 [.ref v0, .int v1, .int v2, .int t.1, .null, .int v5, .int t.2.1, .null] [] (t.2.2, R, J)) (fun r => zy_V X M_X11_tellRows 4 P 209 [.ref v0, .int v1, .int v2, .int r.1, .null, .null, .null, .null] [] (r.2, R, J)) o)) : zy_V X M_X11_tellRows 4 P 121 [.ref v0, .int v1, .int v2, .int s.1, .null, .int v5, .int s.2.1, .null] [] (s.2.2, R, J) := by
  unfold s_X11_tellRows_121 at hf
  refine zv_iload (pc := 121) d_X11_tellRows_121 rfl ?_
  refine zv_iload (pc := 123) d_X11_tellRows_123 rfl ?_
  rcases zw_ifE hf with ⟨c29, hf⟩ | ⟨c29, hf⟩
  · refine zv_icmp_ge (pc := 125) (tg := 209) d_X11_tellRows_125 (by decide) (fun _ => ?_) (fun q => absurd c29 q)
    cases hf
    exact zx_weak (zw_leS (zw_leS (zw_leS (zw_leS (zw_leN (zw_leN (zw_leN (zw_leN zw_leZ)))))))) hk
  · refine zv_icmp_ge (pc := 125) (tg := 209) d_X11_tellRows_125 (by decide) (fun q => absurd q c29) (fun _ => ?_)
    refine zv_aload_n (pc := 128) d_X11_tellRows_128 rfl ?_
    obtain ⟨g30, hf⟩ := zw_gcE hf (by decide)
    obtain ⟨g31, hf⟩ := zw_gcE hf (by decide)
    refine zx_getR (pc := 129) d_X11_tellRows_129 lk_CutStonesModel_17 (by decide) g30 g31 ?_
    refine zv_aload_n (pc := 132) d_X11_tellRows_132 rfl ?_
    obtain ⟨g32, hf⟩ := zw_gcE hf (by decide)
    refine zx_getR (pc := 133) d_X11_tellRows_133 lk_CutStonesModel_24 (by decide) g30 g32 ?_
    refine zv_aload_n (pc := 136) d_X11_tellRows_136 rfl ?_
    refine zx_getI (pc := 137) d_X11_tellRows_137 lk_CutStonesModel_221 (by decide) g30 ?_
    obtain ⟨i33, hf⟩ := zw_inE hf
    refine zx_iald (pc := 140) d_X11_tellRows_140 g32 i33 ?_
    refine zv_iconst (pc := 141) d_X11_tellRows_141 zc_i_1 ?_
    refine zv_iadd (pc := 142) d_X11_tellRows_142 ?_
    refine zv_iload (pc := 143) d_X11_tellRows_143 rfl ?_
    refine zv_iadd (pc := 145) d_X11_tellRows_145 ?_
    obtain ⟨i34, hf⟩ := zw_inE hf
    refine zx_bald (pc := 146) d_X11_tellRows_146 g31 i34 ?_
    obtain ⟨q35, hq35, hf⟩ := zw_bdE hf
    refine zx_callS (pc := 147) (As := [.int (s.2.2 (R v0 3) (Int32.toNatClampNeg (((s.2.2 (R v0 6) (Int32.toNatClampNeg (s.2.2 v0 11))) + 1) + s.2.1)))]) (st := []) (d2 := 0) (M2 := M_X11_cellOf) (P2 := (fun r S => r = (some (.int q35)) ∧ S = (s.2.2, R, J))) d_X11_tellRows_147 (zw_mG (List.mem_of_getElem? (i := 1432) (by decide +kernel)) rfl) ce_X11_cellOf (Nat.le_of_ble_eq_true rfl) rfl (Nat.le_of_ble_eq_true rfl) (by decide) (c_X11_cellOf X (s.2.2 (R v0 3) (Int32.toNatClampNeg (((s.2.2 (R v0 6) (Int32.toNatClampNeg (s.2.2 v0 11))) + 1) + s.2.1))) s.2.2 R J _ hq35 ⟨rfl, rfl⟩) ?_
    rintro _ _ ⟨rfl, rfl⟩
    show zy_V X M_X11_tellRows 4 P (147 + 3) [.ref v0, .int v1, .int v2, .int s.1, .null, .int v5, .int s.2.1, .null] [.int q35] (s.2.2, R, J)
    refine zx_istore (pc := 150) (x2 := q35) (L2 := [.ref v0, .int v1, .int v2, .int s.1, .null, .int v5, .int s.2.1, .int q35]) d_X11_tellRows_150 (by decide) rfl rfl ?_
    refine zv_iload (pc := 152) d_X11_tellRows_152 rfl ?_
    refine zv_aload_n (pc := 154) d_X11_tellRows_154 rfl ?_
    obtain ⟨g36, hf⟩ := zw_gcE hf (by decide)
    refine zx_getR (pc := 155) d_X11_tellRows_155 lk_CutStonesModel_64 (by decide) g30 g36 ?_
    refine zv_iload_n (pc := 158) d_X11_tellRows_158 rfl ?_
    obtain ⟨i37, hf⟩ := zw_inE hf
    refine zx_iald (pc := 159) d_X11_tellRows_159 g36 i37 ?_
    rcases zw_ifE hf with ⟨c38, hf⟩ | ⟨c38, hf⟩
    · refine zv_icmp_ge (pc := 160) (tg := 188) d_X11_tellRows_160 (by decide) (fun _ => ?_) (fun q => absurd c38 q)
      exact zx_weak (zw_leS (zw_leS (zw_leS (zw_leS (zw_leN (zw_leS (zw_leS (zw_leS zw_leZ)))))))) (j_X11_tellRows_188_121_ok X P v0 v1 v2 s.1 v5 s.2.1 q35 s.2.2 R J _ hf hk)
    · refine zv_icmp_ge (pc := 160) (tg := 188) d_X11_tellRows_160 (by decide) (fun q => absurd q c38) (fun _ => ?_)
      refine zv_aload_n (pc := 163) d_X11_tellRows_163 rfl ?_
      obtain ⟨g42, hf⟩ := zw_gcE hf (by decide)
      refine zx_getR (pc := 164) d_X11_tellRows_164 lk_CutStonesModel_70 (by decide) g30 g42 ?_
      refine zv_sipush (pc := 167) d_X11_tellRows_167 zc_s_144 ?_
      refine zv_iload_n (pc := 170) d_X11_tellRows_170 rfl ?_
      refine zv_imul (pc := 171) d_X11_tellRows_171 ?_
      refine zv_bipush (pc := 172) d_X11_tellRows_172 zc_b_12 ?_
      refine zv_aload_n (pc := 174) d_X11_tellRows_174 rfl ?_
      obtain ⟨g43, hf⟩ := zw_gcE hf (by decide)
      refine zx_getR (pc := 175) d_X11_tellRows_175 lk_CutStonesModel_67 (by decide) g30 g43 ?_
      refine zv_iload_n (pc := 178) d_X11_tellRows_178 rfl ?_
      obtain ⟨i44, hf⟩ := zw_inE hf
      refine zx_iald (pc := 179) d_X11_tellRows_179 g43 i44 ?_
      refine zv_imul (pc := 180) d_X11_tellRows_180 ?_
      refine zv_iadd (pc := 181) d_X11_tellRows_181 ?_
      refine zv_iload (pc := 182) d_X11_tellRows_182 rfl ?_
      refine zv_iadd (pc := 184) d_X11_tellRows_184 ?_
      refine zv_iload (pc := 185) d_X11_tellRows_185 rfl ?_
      obtain ⟨i45, hf⟩ := zw_inE hf
      obtain ⟨I46, eI46, hf⟩ := zw_letE hf
      refine zx_iast (pc := 187) (I2 := I46) d_X11_tellRows_187 g42 i45 eI46 ?_
      exact zx_weak (zw_leS (zw_leS (zw_leS (zw_leS (zw_leN (zw_leS (zw_leS (zw_leS zw_leZ)))))))) (j_X11_tellRows_188_121_ok X P v0 v1 v2 s.1 v5 s.2.1 q35 I46 R J _ hf hk)
theorem s_X11_tellRows_121_lp (X : zw_X) (P : Option Value → aS → Prop) (v0 : Nat) (v1 : Int32) (v2 : Int32) (v5 : Int32) (R : zR) (J : zJ) (n : Nat) (s : Int32 × Int32 × zI) (r : Int32 × zI) (h : zw_it (s_X11_tellRows_121 v0 v1 v2 v5 R J) n s = some r) (hq : zy_V X M_X11_tellRows 4 P 209 [.ref v0, .int v1, .int v2, .int r.1, .null, .null, .null, .null] [] (r.2, R, J)) : zy_V X M_X11_tellRows 4 P 121 [.ref v0, .int v1, .int v2, .int s.1, .null, .int v5, .int s.2.1, .null] [] (s.2.2, R, J) :=
  zw_itE (A := (fun t : Int32 × Int32 × zI => zy_V X M_X11_tellRows 4 P 121 [.ref v0, .int v1, .int v2, .int t.1, .null, .int v5, .int t.2.1, .null] [] (t.2.2, R, J))) (Q := (fun r : Int32 × zI => zy_V X M_X11_tellRows 4 P 209 [.ref v0, .int v1, .int v2, .int r.1, .null, .null, .null, .null] [] (r.2, R, J))) (fun s o h1 h2 => s_X11_tellRows_121_ok X P v0 v1 v2 v5 R J s o h1 h2) n s r h hq
def j_X11_tellRows_118_37 (v0 : Nat) (v1 : Int32) (v2 : Int32) (v3 : Int32) (v5 : Int32) (I : zI) (R : zR) (J : zJ) : Option ((Int32 × Int32 × zI) ⊕ ((Int32 × Int32 × zI) ⊕ (zI))) :=
  (zw_it (s_X11_tellRows_121 v0 v1 v2 v5 R J) 1000000 (v3, 0, I)).bind fun q47 => (zw_g (zw_gc v0 11) (zw_let ((q47.2 v0 11) : Int32) fun x49 => (zw_g (zw_gc (R v0 29) 13) (zw_g (zw_in v1 (zw_SH (R v0 29)).2) (zw_g (zw_in v1 (zw_SH (R v0 29)).2) (zw_let (zw_u q47.2 (R v0 29) (Int32.toNatClampNeg v1) ((q47.2 (R v0 29) (Int32.toNatClampNeg v1)) + 1) : zI) fun I53 => ((f_X11_goesOn v0 I53 R).bind fun q54 => (some (.inl (q47.1, x49, q54))))))))))
theorem j_X11_tellRows_118_37_ok (X : zw_X) (P : Option Value → aS → Prop) (v0 : Nat) (v1 : Int32) (v2 : Int32) (v3 : Int32) (v5 : Int32) (I : zI) (R : zR) (J : zJ) (o : (Int32 × Int32 × zI) ⊕ ((Int32 × Int32 × zI) ⊕ (zI))) (hf : j_X11_tellRows_118_37 v0 v1 v2 v3 v5 I R J = some o) (hk : (zw_se (fun t => zy_V X M_X11_tellRows 4 P 37 [.ref v0, .int v1, .int v2, .int t.1, .int t.2.1, .null, .null, .null] [] (t.2.2, R, J)) (fun r => (zw_se (fun r0 => zy_V X M_X11_tellRows 4 P 232 [.ref v0, .null, .int v2, .int r0.1, .int r0.2.1, .null, .null, .null] [] (r0.2.2, R, J)) (fun t0 => zy_V X M_X11_tellRows 4 P 69 [.null, .null, .null, .null, .null, .null, .null, .null] [] (t0, R, J)) r)) o)) : zy_V X M_X11_tellRows 4 P 118 [.ref v0, .int v1, .int v2, .int v3, .null, .int v5, .null, .null] [] (I, R, J) := by
  unfold j_X11_tellRows_118_37 at hf
  refine zv_iconst (pc := 118) d_X11_tellRows_118 zc_i_0 ?_
  refine zx_istore (pc := 119) (x2 := 0) (L2 := [.ref v0, .int v1, .int v2, .int v3, .null, .int v5, .int 0, .null]) d_X11_tellRows_119 (by decide) rfl rfl ?_
  obtain ⟨q47, hq47, hf⟩ := zw_bdE hf
  refine zx_weak (L' := [.ref v0, .int v1, .int v2, .int v3, .null, .int v5, .int 0, .null]) (zw_leS (zw_leS (zw_leS (zw_leS (zw_leN (zw_leS (zw_leS (zw_leN zw_leZ)))))))) (s_X11_tellRows_121_lp X P v0 v1 v2 v5 R J _ _ _ hq47 ?_)
  show zy_V X M_X11_tellRows 4 P 209 [.ref v0, .int v1, .int v2, .int q47.1, .null, .null, .null, .null] [] (q47.2, R, J)
  refine zv_aload_n (pc := 209) d_X11_tellRows_209 rfl ?_
  obtain ⟨g48, hf⟩ := zw_gcE hf (by decide)
  refine zx_getI (pc := 210) d_X11_tellRows_210 lk_CutStonesModel_221 (by decide) g48 ?_
  obtain ⟨x49, ex49, hf⟩ := zw_letE hf
  refine zx_istore (pc := 213) (x2 := x49) (L2 := [.ref v0, .int v1, .int v2, .int q47.1, .int x49, .null, .null, .null]) d_X11_tellRows_213 (by decide) ex49 rfl ?_
  refine zv_aload_n (pc := 215) d_X11_tellRows_215 rfl ?_
  obtain ⟨g50, hf⟩ := zw_gcE hf (by decide)
  refine zx_getR (pc := 216) d_X11_tellRows_216 lk_CutStonesModel_67 (by decide) g48 g50 ?_
  refine zv_iload_n (pc := 219) d_X11_tellRows_219 rfl ?_
  refine zv_dup2 (pc := 220) d_X11_tellRows_220 rfl rfl ?_
  obtain ⟨i51, hf⟩ := zw_inE hf
  refine zx_iald (pc := 221) d_X11_tellRows_221 g50 i51 ?_
  refine zv_iconst (pc := 222) d_X11_tellRows_222 zc_i_1 ?_
  refine zv_iadd (pc := 223) d_X11_tellRows_223 ?_
  obtain ⟨i52, hf⟩ := zw_inE hf
  obtain ⟨I53, eI53, hf⟩ := zw_letE hf
  refine zx_iast (pc := 224) (I2 := I53) d_X11_tellRows_224 g50 i52 eI53 ?_
  refine zv_aload_n (pc := 225) d_X11_tellRows_225 rfl ?_
  obtain ⟨q54, hq54, hf⟩ := zw_bdE hf
  refine zx_callV (pc := 226) (As := []) (o := v0) (st := []) (d2 := 1) (M2 := M_X11_goesOn) (P2 := (fun r S => r = none ∧ S = (q54, R, J))) d_X11_tellRows_226 (zw_mG (List.mem_of_getElem? (i := 1458) (by decide +kernel)) rfl) ce_X11_goesOn (zw_RvK g48 rfl rfl) (Nat.le_of_ble_eq_true rfl) rfl (Nat.le_of_ble_eq_true rfl) (by decide) (c_X11_goesOn X v0 I53 R J _ hq54 ⟨rfl, rfl⟩) ?_
  rintro _ _ ⟨rfl, rfl⟩
  show zy_V X M_X11_tellRows 4 P (226 + 3) [.ref v0, .int v1, .int v2, .int q47.1, .int x49, .null, .null, .null] [] (q54, R, J)
  refine zv_goto (pc := 229) (tg := 37) d_X11_tellRows_229 (by decide) ?_
  cases hf
  exact zx_weak (zw_leS (zw_leS (zw_leS (zw_leS (zw_leS (zw_leN (zw_leN (zw_leN zw_leZ)))))))) hk
def j_X11_tellRows_98_37 (v0 : Nat) (v1 : Int32) (v2 : Int32) (v3 : Int32) (v5 : Int32) (I : zI) (R : zR) (J : zJ) : Option ((Int32 × Int32 × zI) ⊕ ((Int32 × Int32 × zI) ⊕ (zI))) :=
  zw_g (zw_gc v0 11) (zw_g (zw_gc (R v0 28) 13) (zw_g (zw_in v1 (zw_SH (R v0 28)).2) (if v5 = (I (R v0 28) (Int32.toNatClampNeg v1)) then j_X11_tellRows_118_37 v0 v1 v2 v3 v5 I R J else (f_X11_wrong v0 5 (I v0 11) I R).bind fun q55 => (j_X11_tellRows_118_37 v0 v1 v2 v3 v5 q55 R J))))
theorem j_X11_tellRows_98_37_ok (X : zw_X) (P : Option Value → aS → Prop) (v0 : Nat) (v1 : Int32) (v2 : Int32) (v3 : Int32) (v5 : Int32) (I : zI) (R : zR) (J : zJ) (o : (Int32 × Int32 × zI) ⊕ ((Int32 × Int32 × zI) ⊕ (zI))) (hf : j_X11_tellRows_98_37 v0 v1 v2 v3 v5 I R J = some o) (hk : (zw_se (fun t => zy_V X M_X11_tellRows 4 P 37 [.ref v0, .int v1, .int v2, .int t.1, .int t.2.1, .null, .null, .null] [] (t.2.2, R, J)) (fun r => (zw_se (fun r0 => zy_V X M_X11_tellRows 4 P 232 [.ref v0, .null, .int v2, .int r0.1, .int r0.2.1, .null, .null, .null] [] (r0.2.2, R, J)) (fun t0 => zy_V X M_X11_tellRows 4 P 69 [.null, .null, .null, .null, .null, .null, .null, .null] [] (t0, R, J)) r)) o)) : zy_V X M_X11_tellRows 4 P 98 [.ref v0, .int v1, .int v2, .int v3, .null, .int v5, .null, .null] [] (I, R, J) := by
  unfold j_X11_tellRows_98_37 at hf
  refine zv_iload (pc := 98) d_X11_tellRows_98 rfl ?_
  refine zv_aload_n (pc := 100) d_X11_tellRows_100 rfl ?_
  obtain ⟨g25, hf⟩ := zw_gcE hf (by decide)
  obtain ⟨g26, hf⟩ := zw_gcE hf (by decide)
  refine zx_getR (pc := 101) d_X11_tellRows_101 lk_CutStonesModel_64 (by decide) g25 g26 ?_
  refine zv_iload_n (pc := 104) d_X11_tellRows_104 rfl ?_
  obtain ⟨i27, hf⟩ := zw_inE hf
  refine zx_iald (pc := 105) d_X11_tellRows_105 g26 i27 ?_
  rcases zw_ifE hf with ⟨c28, hf⟩ | ⟨c28, hf⟩
  · refine zv_icmp_eq (pc := 106) (tg := 118) d_X11_tellRows_106 (by decide) (fun _ => ?_) (fun q => absurd c28 q)
    exact zx_weak (zw_leS (zw_leS (zw_leS (zw_leS (zw_leN (zw_leS (zw_leN (zw_leN zw_leZ)))))))) (j_X11_tellRows_118_37_ok X P v0 v1 v2 v3 v5 I R J _ hf hk)
  · refine zv_icmp_eq (pc := 106) (tg := 118) d_X11_tellRows_106 (by decide) (fun q => absurd q c28) (fun _ => ?_)
    refine zv_aload_n (pc := 109) d_X11_tellRows_109 rfl ?_
    refine zv_iconst (pc := 110) d_X11_tellRows_110 zc_i_5 ?_
    refine zv_aload_n (pc := 111) d_X11_tellRows_111 rfl ?_
    refine zx_getI (pc := 112) d_X11_tellRows_112 lk_CutStonesModel_221 (by decide) g25 ?_
    obtain ⟨q55, hq55, hf⟩ := zw_bdE hf
    refine zx_callV (pc := 115) (As := [.int 5, .int (I v0 11)]) (o := v0) (st := []) (d2 := 0) (M2 := M_X11_wrong) (P2 := (fun r S => r = none ∧ S = (q55, R, J))) d_X11_tellRows_115 (zw_mG (List.mem_of_getElem? (i := 1470) (by decide +kernel)) rfl) ce_X11_wrong (zw_RvK g25 rfl rfl) (Nat.le_of_ble_eq_true rfl) rfl (Nat.le_of_ble_eq_true rfl) (by decide) (c_X11_wrong X v0 5 (I v0 11) I R J _ hq55 ⟨rfl, rfl⟩) ?_
    rintro _ _ ⟨rfl, rfl⟩
    show zy_V X M_X11_tellRows 4 P (115 + 3) [.ref v0, .int v1, .int v2, .int v3, .null, .int v5, .null, .null] [] (q55, R, J)
    exact zx_weak (zw_leS (zw_leS (zw_leS (zw_leS (zw_leN (zw_leS (zw_leN (zw_leN zw_leZ)))))))) (j_X11_tellRows_118_37_ok X P v0 v1 v2 v3 v5 q55 R J _ hf hk)
def j_X11_tellRows_62_37 (v0 : Nat) (v1 : Int32) (v2 : Int32) (v3 : Int32) (I : zI) (R : zR) (J : zJ) : Option ((Int32 × Int32 × zI) ⊕ ((Int32 × Int32 × zI) ⊕ (zI))) :=
  zw_g (zw_gc v0 11) (if (I v0 13) ≤ 0 then zw_g (zw_gc (R v0 7) 13) (zw_g (zw_in (I v0 11) (zw_SH (R v0 7)).2) (zw_let ((I (R v0 7) (Int32.toNatClampNeg (I v0 11))) : Int32) fun x21 => (zw_g (zw_gc (R v0 29) 13) (zw_g (zw_in v1 (zw_SH (R v0 29)).2) (if ¬ (I (R v0 29) (Int32.toNatClampNeg v1)) = 0 then j_X11_tellRows_98_37 v0 v1 v2 v3 x21 I R J else zw_g (zw_gc (R v0 28) 13) (zw_g (zw_in v1 (zw_SH (R v0 28)).2) (zw_let (zw_u I (R v0 28) (Int32.toNatClampNeg v1) x21 : zI) fun I58 => (j_X11_tellRows_98_37 v0 v1 v2 v3 x21 I58 R J)))))))) else some (.inr (.inr I)))
theorem j_X11_tellRows_62_37_ok (X : zw_X) (P : Option Value → aS → Prop) (v0 : Nat) (v1 : Int32) (v2 : Int32) (v3 : Int32) (I : zI) (R : zR) (J : zJ) (o : (Int32 × Int32 × zI) ⊕ ((Int32 × Int32 × zI) ⊕ (zI))) (hf : j_X11_tellRows_62_37 v0 v1 v2 v3 I R J = some o) (hk : (zw_se (fun t => zy_V X M_X11_tellRows 4 P 37 [.ref v0, .int v1, .int v2, .int t.1, .int t.2.1, .null, .null, .null] [] (t.2.2, R, J)) (fun r => (zw_se (fun r0 => zy_V X M_X11_tellRows 4 P 232 [.ref v0, .null, .int v2, .int r0.1, .int r0.2.1, .null, .null, .null] [] (r0.2.2, R, J)) (fun t0 => zy_V X M_X11_tellRows 4 P 69 [.null, .null, .null, .null, .null, .null, .null, .null] [] (t0, R, J)) r)) o)) : zy_V X M_X11_tellRows 4 P 62 [.ref v0, .int v1, .int v2, .int v3, .null, .null, .null, .null] [] (I, R, J) := by
  unfold j_X11_tellRows_62_37 at hf
  refine zv_aload_n (pc := 62) d_X11_tellRows_62 rfl ?_
  obtain ⟨g17, hf⟩ := zw_gcE hf (by decide)
  refine zx_getI (pc := 63) d_X11_tellRows_63 lk_CutStonesModel_218 (by decide) g17 ?_
  rcases zw_ifE hf with ⟨c18, hf⟩ | ⟨c18, hf⟩
  · refine zv_if_le (pc := 66) (tg := 70) d_X11_tellRows_66 (by decide) (fun _ => ?_) (fun q => absurd c18 q)
    refine zv_aload_n (pc := 70) d_X11_tellRows_70 rfl ?_
    obtain ⟨g19, hf⟩ := zw_gcE hf (by decide)
    refine zx_getR (pc := 71) d_X11_tellRows_71 lk_CutStonesModel_27 (by decide) g17 g19 ?_
    refine zv_aload_n (pc := 74) d_X11_tellRows_74 rfl ?_
    refine zx_getI (pc := 75) d_X11_tellRows_75 lk_CutStonesModel_221 (by decide) g17 ?_
    obtain ⟨i20, hf⟩ := zw_inE hf
    refine zx_iald (pc := 78) d_X11_tellRows_78 g19 i20 ?_
    obtain ⟨x21, ex21, hf⟩ := zw_letE hf
    refine zx_istore (pc := 79) (x2 := x21) (L2 := [.ref v0, .int v1, .int v2, .int v3, .null, .int x21, .null, .null]) d_X11_tellRows_79 (by decide) ex21 rfl ?_
    refine zv_aload_n (pc := 81) d_X11_tellRows_81 rfl ?_
    obtain ⟨g22, hf⟩ := zw_gcE hf (by decide)
    refine zx_getR (pc := 82) d_X11_tellRows_82 lk_CutStonesModel_67 (by decide) g17 g22 ?_
    refine zv_iload_n (pc := 85) d_X11_tellRows_85 rfl ?_
    obtain ⟨i23, hf⟩ := zw_inE hf
    refine zx_iald (pc := 86) d_X11_tellRows_86 g22 i23 ?_
    rcases zw_ifE hf with ⟨c24, hf⟩ | ⟨c24, hf⟩
    · refine zv_if_ne (pc := 87) (tg := 98) d_X11_tellRows_87 (by decide) (fun _ => ?_) (fun q => absurd q c24)
      exact zx_weak (zw_leS (zw_leS (zw_leS (zw_leS (zw_leN (zw_leS (zw_leN (zw_leN zw_leZ)))))))) (j_X11_tellRows_98_37_ok X P v0 v1 v2 v3 x21 I R J _ hf hk)
    · refine zv_if_ne (pc := 87) (tg := 98) d_X11_tellRows_87 (by decide) (fun q => absurd q c24) (fun _ => ?_)
      refine zv_aload_n (pc := 90) d_X11_tellRows_90 rfl ?_
      obtain ⟨g56, hf⟩ := zw_gcE hf (by decide)
      refine zx_getR (pc := 91) d_X11_tellRows_91 lk_CutStonesModel_64 (by decide) g17 g56 ?_
      refine zv_iload_n (pc := 94) d_X11_tellRows_94 rfl ?_
      refine zv_iload (pc := 95) d_X11_tellRows_95 rfl ?_
      obtain ⟨i57, hf⟩ := zw_inE hf
      obtain ⟨I58, eI58, hf⟩ := zw_letE hf
      refine zx_iast (pc := 97) (I2 := I58) d_X11_tellRows_97 g56 i57 eI58 ?_
      exact zx_weak (zw_leS (zw_leS (zw_leS (zw_leS (zw_leN (zw_leS (zw_leN (zw_leN zw_leZ)))))))) (j_X11_tellRows_98_37_ok X P v0 v1 v2 v3 x21 I58 R J _ hf hk)
  · refine zv_if_le (pc := 66) (tg := 70) d_X11_tellRows_66 (by decide) (fun q => absurd q c18) (fun _ => ?_)
    cases hf
    exact zx_weak (zw_leN (zw_leN (zw_leN (zw_leN (zw_leN (zw_leN (zw_leN (zw_leN zw_leZ)))))))) hk
def s_X11_tellRows_37 (v0 : Nat) (v1 : Int32) (v2 : Int32) (R : zR) (J : zJ) (s : Int32 × Int32 × zI) : Option ((Int32 × Int32 × zI) ⊕ ((Int32 × Int32 × zI) ⊕ (zI))) :=
  zw_g (zw_gc v0 11) ((f_X11_is v0 17 s.2.2 R).bind fun q12 => (if q12 = 0 then some (.inr (.inl (s.1, s.2.1, s.2.2))) else zw_g (zw_gc (R v0 29) 13) (zw_g (zw_in v1 (zw_SH (R v0 29)).2) (if ¬ (s.2.2 (R v0 29) (Int32.toNatClampNeg v1)) = 12 then j_X11_tellRows_62_37 v0 v1 v2 s.1 s.2.2 R J else (f_X11_fail v0 2 s.2.2 R).bind fun q59 => (j_X11_tellRows_62_37 v0 v1 v2 s.1 q59 R J)))))
theorem s_X11_tellRows_37_ok (X : zw_X) (P : Option Value → aS → Prop) (v0 : Nat) (v1 : Int32) (v2 : Int32) (R : zR) (J : zJ) (s : Int32 × Int32 × zI) (o : (Int32 × Int32 × zI) ⊕ ((Int32 × Int32 × zI) ⊕ (zI))) (hf : s_X11_tellRows_37 v0 v1 v2 R J s = some o) (hk : (zw_se (fun t => zy_V X M_X11_tellRows 4 P 37 [.ref v0, .int v1, .int v2, .int t.1, .int t.2.1, .null, .null, .null] [] (t.2.2, R, J)) (fun r => (zw_se (fun r0 => zy_V X M_X11_tellRows 4 P 232 [.ref v0, .null, .int v2, .int r0.1, .int r0.2.1, .null, .null, .null] [] (r0.2.2, R, J)) (fun t0 => zy_V X M_X11_tellRows 4 P 69 [.null, .null, .null, .null, .null, .null, .null, .null] [] (t0, R, J)) r)) o)) : zy_V X M_X11_tellRows 4 P 37 [.ref v0, .int v1, .int v2, .int s.1, .int s.2.1, .null, .null, .null] [] (s.2.2, R, J) := by
  unfold s_X11_tellRows_37 at hf
  refine zv_aload_n (pc := 37) d_X11_tellRows_37 rfl ?_
  refine zv_bipush (pc := 38) d_X11_tellRows_38 zc_b_17 ?_
  obtain ⟨g11, hf⟩ := zw_gcE hf (by decide)
  obtain ⟨q12, hq12, hf⟩ := zw_bdE hf
  refine zx_callV (pc := 40) (As := [.int 17]) (o := v0) (st := []) (d2 := 0) (M2 := M_X11_is) (P2 := (fun r S => r = (some (.int q12)) ∧ S = (s.2.2, R, J))) d_X11_tellRows_40 (zw_mG (List.mem_of_getElem? (i := 1442) (by decide +kernel)) rfl) ce_X11_is (zw_RvK g11 rfl rfl) (Nat.le_of_ble_eq_true rfl) rfl (Nat.le_of_ble_eq_true rfl) (by decide) (c_X11_is X v0 17 s.2.2 R J _ hq12 ⟨rfl, rfl⟩) ?_
  rintro _ _ ⟨rfl, rfl⟩
  show zy_V X M_X11_tellRows 4 P (40 + 3) [.ref v0, .int v1, .int v2, .int s.1, .int s.2.1, .null, .null, .null] [.int q12] (s.2.2, R, J)
  rcases zw_ifE hf with ⟨c13, hf⟩ | ⟨c13, hf⟩
  · refine zv_if_eq (pc := 43) (tg := 232) d_X11_tellRows_43 (by decide) (fun _ => ?_) (fun q => absurd c13 q)
    cases hf
    exact zx_weak (zw_leS (zw_leN (zw_leS (zw_leS (zw_leS (zw_leN (zw_leN (zw_leN zw_leZ)))))))) hk
  · refine zv_if_eq (pc := 43) (tg := 232) d_X11_tellRows_43 (by decide) (fun q => absurd q c13) (fun _ => ?_)
    refine zv_aload_n (pc := 46) d_X11_tellRows_46 rfl ?_
    obtain ⟨g14, hf⟩ := zw_gcE hf (by decide)
    refine zx_getR (pc := 47) d_X11_tellRows_47 lk_CutStonesModel_67 (by decide) g11 g14 ?_
    refine zv_iload_n (pc := 50) d_X11_tellRows_50 rfl ?_
    obtain ⟨i15, hf⟩ := zw_inE hf
    refine zx_iald (pc := 51) d_X11_tellRows_51 g14 i15 ?_
    refine zv_bipush (pc := 52) d_X11_tellRows_52 zc_b_12 ?_
    rcases zw_ifE hf with ⟨c16, hf⟩ | ⟨c16, hf⟩
    · refine zv_icmp_ne (pc := 54) (tg := 62) d_X11_tellRows_54 (by decide) (fun _ => ?_) (fun q => absurd q c16)
      exact zx_weak (zw_leS (zw_leS (zw_leS (zw_leS (zw_leN (zw_leN (zw_leN (zw_leN zw_leZ)))))))) (j_X11_tellRows_62_37_ok X P v0 v1 v2 s.1 s.2.2 R J _ hf hk)
    · refine zv_icmp_ne (pc := 54) (tg := 62) d_X11_tellRows_54 (by decide) (fun q => absurd q c16) (fun _ => ?_)
      refine zv_aload_n (pc := 57) d_X11_tellRows_57 rfl ?_
      refine zv_iconst (pc := 58) d_X11_tellRows_58 zc_i_2 ?_
      obtain ⟨q59, hq59, hf⟩ := zw_bdE hf
      refine zx_callV (pc := 59) (As := [.int 2]) (o := v0) (st := []) (d2 := 0) (M2 := M_X11_fail) (P2 := (fun r S => r = none ∧ S = (q59, R, J))) d_X11_tellRows_59 (zw_mG (List.mem_of_getElem? (i := 1450) (by decide +kernel)) rfl) ce_X11_fail (zw_RvK g11 rfl rfl) (Nat.le_of_ble_eq_true rfl) rfl (Nat.le_of_ble_eq_true rfl) (by decide) (c_X11_fail X v0 2 s.2.2 R J _ hq59 ⟨rfl, rfl⟩) ?_
      rintro _ _ ⟨rfl, rfl⟩
      show zy_V X M_X11_tellRows 4 P (59 + 3) [.ref v0, .int v1, .int v2, .int s.1, .int s.2.1, .null, .null, .null] [] (q59, R, J)
      exact zx_weak (zw_leS (zw_leS (zw_leS (zw_leS (zw_leN (zw_leN (zw_leN (zw_leN zw_leZ)))))))) (j_X11_tellRows_62_37_ok X P v0 v1 v2 s.1 q59 R J _ hf hk)
theorem s_X11_tellRows_37_lp (X : zw_X) (P : Option Value → aS → Prop) (v0 : Nat) (v1 : Int32) (v2 : Int32) (R : zR) (J : zJ) (n : Nat) (s : Int32 × Int32 × zI) (r : (Int32 × Int32 × zI) ⊕ (zI)) (h : zw_it (s_X11_tellRows_37 v0 v1 v2 R J) n s = some r) (hq : (zw_se (fun r0 => zy_V X M_X11_tellRows 4 P 232 [.ref v0, .null, .int v2, .int r0.1, .int r0.2.1, .null, .null, .null] [] (r0.2.2, R, J)) (fun t0 => zy_V X M_X11_tellRows 4 P 69 [.null, .null, .null, .null, .null, .null, .null, .null] [] (t0, R, J)) r)) : zy_V X M_X11_tellRows 4 P 37 [.ref v0, .int v1, .int v2, .int s.1, .int s.2.1, .null, .null, .null] [] (s.2.2, R, J) :=
  zw_itE (A := (fun t : Int32 × Int32 × zI => zy_V X M_X11_tellRows 4 P 37 [.ref v0, .int v1, .int v2, .int t.1, .int t.2.1, .null, .null, .null] [] (t.2.2, R, J))) (Q := (fun r : (Int32 × Int32 × zI) ⊕ (zI) => (zw_se (fun r0 => zy_V X M_X11_tellRows 4 P 232 [.ref v0, .null, .int v2, .int r0.1, .int r0.2.1, .null, .null, .null] [] (r0.2.2, R, J)) (fun t0 => zy_V X M_X11_tellRows 4 P 69 [.null, .null, .null, .null, .null, .null, .null, .null] [] (t0, R, J)) r))) (fun s o h1 h2 => s_X11_tellRows_37_ok X P v0 v1 v2 R J s o h1 h2) n s r h hq
def j_X11_tellRows_250 (v0 : Nat) (v2 : Int32) (I : zI) (R : zR) (J : zJ) : Option (zI × zJ) :=
  zw_g (zw_gc v0 11) ((f_X11_must v0 4 I R).bind fun q65 => (if (q65 v0 13) ≤ 0 then if v2 = 0 then zw_g (zw_gc (R v0 27) 13) (zw_g (zw_in (q65 v0 19) (zw_SH (R v0 27)).2) (zw_g (zw_in (q65 v0 19) (zw_SH (R v0 27)).2) (zw_let (zw_u q65 (R v0 27) (Int32.toNatClampNeg (q65 v0 19)) ((q65 (R v0 27) (Int32.toNatClampNeg (q65 v0 19))) + 1) : zI) fun I71 => (some (I71, J))))) else zw_g (zw_gc (R v0 26) 13) (zw_g (zw_in (q65 v0 19) (zw_SH (R v0 26)).2) (zw_g (zw_in (q65 v0 19) (zw_SH (R v0 26)).2) (zw_let (zw_u q65 (R v0 26) (Int32.toNatClampNeg (q65 v0 19)) ((q65 (R v0 26) (Int32.toNatClampNeg (q65 v0 19))) + 1) : zI) fun I75 => (some (I75, J))))) else some (q65, J)))
theorem j_X11_tellRows_250_ok (X : zw_X) (P : Option Value → aS → Prop) (v0 : Nat) (v2 : Int32) (I : zI) (R : zR) (J : zJ) (o : zI × zJ) (hf : j_X11_tellRows_250 v0 v2 I R J = some o) (hk : P none (o.1, R, o.2)) : zy_V X M_X11_tellRows 4 P 250 [.ref v0, .null, .int v2, .null, .null, .null, .null, .null] [] (I, R, J) := by
  unfold j_X11_tellRows_250 at hf
  refine zv_aload_n (pc := 250) d_X11_tellRows_250 rfl ?_
  refine zv_iconst (pc := 251) d_X11_tellRows_251 zc_i_4 ?_
  obtain ⟨g64, hf⟩ := zw_gcE hf (by decide)
  obtain ⟨q65, hq65, hf⟩ := zw_bdE hf
  refine zx_callV (pc := 252) (As := [.int 4]) (o := v0) (st := []) (d2 := 2) (M2 := M_X11_must) (P2 := (fun r S => r = none ∧ S = (q65, R, J))) d_X11_tellRows_252 (zw_mG (List.mem_of_getElem? (i := 1466) (by decide +kernel)) rfl) ce_X11_must (zw_RvK g64 rfl rfl) (Nat.le_of_ble_eq_true rfl) rfl (Nat.le_of_ble_eq_true rfl) (by decide) (c_X11_must X v0 4 I R J _ hq65 ⟨rfl, rfl⟩) ?_
  rintro _ _ ⟨rfl, rfl⟩
  show zy_V X M_X11_tellRows 4 P (252 + 3) [.ref v0, .null, .int v2, .null, .null, .null, .null, .null] [] (q65, R, J)
  refine zv_aload_n (pc := 255) d_X11_tellRows_255 rfl ?_
  refine zx_getI (pc := 256) d_X11_tellRows_256 lk_CutStonesModel_218 (by decide) g64 ?_
  rcases zw_ifE hf with ⟨c66, hf⟩ | ⟨c66, hf⟩
  · refine zv_if_le (pc := 259) (tg := 263) d_X11_tellRows_259 (by decide) (fun _ => ?_) (fun q => absurd c66 q)
    refine zv_iload_n (pc := 263) d_X11_tellRows_263 rfl ?_
    rcases zw_ifE hf with ⟨c67, hf⟩ | ⟨c67, hf⟩
    · refine zv_if_eq (pc := 264) (tg := 283) d_X11_tellRows_264 (by decide) (fun _ => ?_) (fun q => absurd c67 q)
      refine zv_aload_n (pc := 283) d_X11_tellRows_283 rfl ?_
      obtain ⟨g68, hf⟩ := zw_gcE hf (by decide)
      refine zx_getR (pc := 284) d_X11_tellRows_284 lk_CutStonesModel_61 (by decide) g64 g68 ?_
      refine zv_aload_n (pc := 287) d_X11_tellRows_287 rfl ?_
      refine zx_getI (pc := 288) d_X11_tellRows_288 lk_CutStonesModel_251 (by decide) g64 ?_
      refine zv_dup2 (pc := 291) d_X11_tellRows_291 rfl rfl ?_
      obtain ⟨i69, hf⟩ := zw_inE hf
      refine zx_iald (pc := 292) d_X11_tellRows_292 g68 i69 ?_
      refine zv_iconst (pc := 293) d_X11_tellRows_293 zc_i_1 ?_
      refine zv_iadd (pc := 294) d_X11_tellRows_294 ?_
      obtain ⟨i70, hf⟩ := zw_inE hf
      obtain ⟨I71, eI71, hf⟩ := zw_letE hf
      refine zx_iast (pc := 295) (I2 := I71) d_X11_tellRows_295 g68 i70 eI71 ?_
      cases hf
      exact zx_vret (pc := 296) d_X11_tellRows_296 rfl hk
    · refine zv_if_eq (pc := 264) (tg := 283) d_X11_tellRows_264 (by decide) (fun q => absurd q c67) (fun _ => ?_)
      refine zv_aload_n (pc := 267) d_X11_tellRows_267 rfl ?_
      obtain ⟨g72, hf⟩ := zw_gcE hf (by decide)
      refine zx_getR (pc := 268) d_X11_tellRows_268 lk_CutStonesModel_58 (by decide) g64 g72 ?_
      refine zv_aload_n (pc := 271) d_X11_tellRows_271 rfl ?_
      refine zx_getI (pc := 272) d_X11_tellRows_272 lk_CutStonesModel_251 (by decide) g64 ?_
      refine zv_dup2 (pc := 275) d_X11_tellRows_275 rfl rfl ?_
      obtain ⟨i73, hf⟩ := zw_inE hf
      refine zx_iald (pc := 276) d_X11_tellRows_276 g72 i73 ?_
      refine zv_iconst (pc := 277) d_X11_tellRows_277 zc_i_1 ?_
      refine zv_iadd (pc := 278) d_X11_tellRows_278 ?_
      obtain ⟨i74, hf⟩ := zw_inE hf
      obtain ⟨I75, eI75, hf⟩ := zw_letE hf
      refine zx_iast (pc := 279) (I2 := I75) d_X11_tellRows_279 g72 i74 eI75 ?_
      refine zv_goto (pc := 280) (tg := 296) d_X11_tellRows_280 (by decide) ?_
      cases hf
      exact zx_vret (pc := 296) d_X11_tellRows_296 rfl hk
  · refine zv_if_le (pc := 259) (tg := 263) d_X11_tellRows_259 (by decide) (fun q => absurd q c66) (fun _ => ?_)
    cases hf
    exact zx_vret (pc := 262) d_X11_tellRows_262 rfl hk
def j_X11_tellRows_22 (v0 : Nat) (v1 : Int32) (v2 : Int32) (I : zI) (R : zR) (J : zJ) : Option (zI × zJ) :=
  zw_g (zw_gc v0 11) (zw_g (zw_gc (R v0 29) 13) (zw_g (zw_in v1 (zw_SH (R v0 29)).2) (zw_let (zw_u I (R v0 29) (Int32.toNatClampNeg v1) 0 : zI) fun I9 => (zw_let ((I9 v0 11) : Int32) fun x10 => ((zw_it (s_X11_tellRows_37 v0 v1 v2 R J) 1000000 (0, x10, I9)).bind fun q60 => (match q60 with | .inl a61 => (if ¬ (a61.2.2 v0 13) = 0 then j_X11_tellRows_250 v0 v2 a61.2.2 R J else if ¬ a61.1 = 0 then j_X11_tellRows_250 v0 v2 a61.2.2 R J else (f_X11_wrong v0 5 a61.2.1 a61.2.2 R).bind fun q77 => (j_X11_tellRows_250 v0 v2 q77 R J)) | .inr a62 => (some (a62, J))))))))
theorem j_X11_tellRows_22_ok (X : zw_X) (P : Option Value → aS → Prop) (v0 : Nat) (v1 : Int32) (v2 : Int32) (I : zI) (R : zR) (J : zJ) (o : zI × zJ) (hf : j_X11_tellRows_22 v0 v1 v2 I R J = some o) (hk : P none (o.1, R, o.2)) : zy_V X M_X11_tellRows 4 P 22 [.ref v0, .int v1, .int v2, .null, .null, .null, .null, .null] [] (I, R, J) := by
  unfold j_X11_tellRows_22 at hf
  refine zv_aload_n (pc := 22) d_X11_tellRows_22 rfl ?_
  obtain ⟨g6, hf⟩ := zw_gcE hf (by decide)
  obtain ⟨g7, hf⟩ := zw_gcE hf (by decide)
  refine zx_getR (pc := 23) d_X11_tellRows_23 lk_CutStonesModel_67 (by decide) g6 g7 ?_
  refine zv_iload_n (pc := 26) d_X11_tellRows_26 rfl ?_
  refine zv_iconst (pc := 27) d_X11_tellRows_27 zc_i_0 ?_
  obtain ⟨i8, hf⟩ := zw_inE hf
  obtain ⟨I9, eI9, hf⟩ := zw_letE hf
  refine zx_iast (pc := 28) (I2 := I9) d_X11_tellRows_28 g7 i8 eI9 ?_
  refine zv_iconst (pc := 29) d_X11_tellRows_29 zc_i_0 ?_
  refine zx_istore_n (pc := 30) (x2 := 0) (L2 := [.ref v0, .int v1, .int v2, .int 0, .null, .null, .null, .null]) d_X11_tellRows_30 (by decide) rfl rfl ?_
  refine zv_aload_n (pc := 31) d_X11_tellRows_31 rfl ?_
  refine zx_getI (pc := 32) d_X11_tellRows_32 lk_CutStonesModel_221 (by decide) g6 ?_
  obtain ⟨x10, ex10, hf⟩ := zw_letE hf
  refine zx_istore (pc := 35) (x2 := x10) (L2 := [.ref v0, .int v1, .int v2, .int 0, .int x10, .null, .null, .null]) d_X11_tellRows_35 (by decide) ex10 rfl ?_
  obtain ⟨q60, hq60, hf⟩ := zw_bdE hf
  refine zx_weak (L' := [.ref v0, .int v1, .int v2, .int 0, .int x10, .null, .null, .null]) (zw_leS (zw_leS (zw_leS (zw_leS (zw_leS (zw_leN (zw_leN (zw_leN zw_leZ)))))))) (s_X11_tellRows_37_lp X P v0 v1 v2 R J _ _ _ hq60 ?_)
  rcases q60 with a61 | a62
  ·
    show zy_V X M_X11_tellRows 4 P 232 [.ref v0, .null, .int v2, .int a61.1, .int a61.2.1, .null, .null, .null] [] (a61.2.2, R, J)
    refine zv_aload_n (pc := 232) d_X11_tellRows_232 rfl ?_
    refine zx_getI (pc := 233) d_X11_tellRows_233 lk_CutStonesModel_218 (by decide) g6 ?_
    rcases zw_ifE hf with ⟨c63, hf⟩ | ⟨c63, hf⟩
    · refine zv_if_ne (pc := 236) (tg := 250) d_X11_tellRows_236 (by decide) (fun _ => ?_) (fun q => absurd q c63)
      exact zx_weak (zw_leS (zw_leN (zw_leS (zw_leN (zw_leN (zw_leN (zw_leN (zw_leN zw_leZ)))))))) (j_X11_tellRows_250_ok X P v0 v2 a61.2.2 R J _ hf hk)
    · refine zv_if_ne (pc := 236) (tg := 250) d_X11_tellRows_236 (by decide) (fun q => absurd q c63) (fun _ => ?_)
      refine zv_iload_n (pc := 239) d_X11_tellRows_239 rfl ?_
      rcases zw_ifE hf with ⟨c76, hf⟩ | ⟨c76, hf⟩
      · refine zv_if_ne (pc := 240) (tg := 250) d_X11_tellRows_240 (by decide) (fun _ => ?_) (fun q => absurd q c76)
        exact zx_weak (zw_leS (zw_leN (zw_leS (zw_leN (zw_leN (zw_leN (zw_leN (zw_leN zw_leZ)))))))) (j_X11_tellRows_250_ok X P v0 v2 a61.2.2 R J _ hf hk)
      · refine zv_if_ne (pc := 240) (tg := 250) d_X11_tellRows_240 (by decide) (fun q => absurd q c76) (fun _ => ?_)
        refine zv_aload_n (pc := 243) d_X11_tellRows_243 rfl ?_
        refine zv_iconst (pc := 244) d_X11_tellRows_244 zc_i_5 ?_
        refine zv_iload (pc := 245) d_X11_tellRows_245 rfl ?_
        obtain ⟨q77, hq77, hf⟩ := zw_bdE hf
        refine zx_callV (pc := 247) (As := [.int 5, .int a61.2.1]) (o := v0) (st := []) (d2 := 0) (M2 := M_X11_wrong) (P2 := (fun r S => r = none ∧ S = (q77, R, J))) d_X11_tellRows_247 (zw_mG (List.mem_of_getElem? (i := 1470) (by decide +kernel)) rfl) ce_X11_wrong (zw_RvK g6 rfl rfl) (Nat.le_of_ble_eq_true rfl) rfl (Nat.le_of_ble_eq_true rfl) (by decide) (c_X11_wrong X v0 5 a61.2.1 a61.2.2 R J _ hq77 ⟨rfl, rfl⟩) ?_
        rintro _ _ ⟨rfl, rfl⟩
        show zy_V X M_X11_tellRows 4 P (247 + 3) [.ref v0, .null, .int v2, .int a61.1, .int a61.2.1, .null, .null, .null] [] (q77, R, J)
        exact zx_weak (zw_leS (zw_leN (zw_leS (zw_leN (zw_leN (zw_leN (zw_leN (zw_leN zw_leZ)))))))) (j_X11_tellRows_250_ok X P v0 v2 q77 R J _ hf hk)
  ·
    show zy_V X M_X11_tellRows 4 P 69 [.null, .null, .null, .null, .null, .null, .null, .null] [] (a62, R, J)
    cases hf
    exact zx_vret (pc := 69) d_X11_tellRows_69 rfl hk
def f_X11_tellRows (v0 : Nat) (v1 : Int32) (v2 : Int32) (I : zI) (R : zR) (J : zJ) : Option (zI × zJ) :=
  zw_g (zw_gc v0 11) ((f_X11_goesOn v0 I R).bind fun q2 => ((f_X11_named v0 q2 R J).bind fun q3 => ((f_X11_is v0 17 q3.1 R).bind fun q4 => (if ¬ q4 = 0 then j_X11_tellRows_22 v0 v1 v2 q3.1 R q3.2 else (f_X11_fail v0 1 q3.1 R).bind fun q78 => (j_X11_tellRows_22 v0 v1 v2 q78 R q3.2)))))
theorem c_X11_tellRows (X : zw_X) (v0 : Nat) (v1 : Int32) (v2 : Int32) (I : zI) (R : zR) (J : zJ) {P : Option Value → aS → Prop} (o : zI × zJ) (hf : f_X11_tellRows v0 v1 v2 I R J = some o) (hk : P none (o.1, R, o.2)) : zw_C X M_X11_tellRows 4 0 0 199 [.ref v0, .int v1, .int v2] (I, R, J) P := by
  show zy_V X M_X11_tellRows 4 P 0 [.ref v0, .int v1, .int v2, .null, .null, .null, .null, .null] [] (I, R, J)
  unfold f_X11_tellRows at hf
  refine zv_aload_n (pc := 0) d_X11_tellRows_0 rfl ?_
  obtain ⟨g1, hf⟩ := zw_gcE hf (by decide)
  obtain ⟨q2, hq2, hf⟩ := zw_bdE hf
  refine zx_callV (pc := 1) (As := []) (o := v0) (st := []) (d2 := 1) (M2 := M_X11_goesOn) (P2 := (fun r S => r = none ∧ S = (q2, R, J))) d_X11_tellRows_1 (zw_mG (List.mem_of_getElem? (i := 1458) (by decide +kernel)) rfl) ce_X11_goesOn (zw_RvK g1 rfl rfl) (Nat.le_of_ble_eq_true rfl) rfl (Nat.le_of_ble_eq_true rfl) (by decide) (c_X11_goesOn X v0 I R J _ hq2 ⟨rfl, rfl⟩) ?_
  rintro _ _ ⟨rfl, rfl⟩
  show zy_V X M_X11_tellRows 4 P (1 + 3) [.ref v0, .int v1, .int v2, .null, .null, .null, .null, .null] [] (q2, R, J)
  refine zv_aload_n (pc := 4) d_X11_tellRows_4 rfl ?_
  obtain ⟨q3, hq3, hf⟩ := zw_bdE hf
  refine zx_callV (pc := 5) (As := []) (o := v0) (st := []) (d2 := 3) (M2 := M_X11_named) (P2 := (fun r S => r = none ∧ S = (q3.1, R, q3.2))) d_X11_tellRows_5 (zw_mG (List.mem_of_getElem? (i := 1462) (by decide +kernel)) rfl) ce_X11_named (zw_RvK g1 rfl rfl) (Nat.le_of_ble_eq_true rfl) rfl (Nat.le_of_ble_eq_true rfl) (by decide) (c_X11_named X v0 q2 R J _ hq3 ⟨rfl, rfl⟩) ?_
  rintro _ _ ⟨rfl, rfl⟩
  show zy_V X M_X11_tellRows 4 P (5 + 3) [.ref v0, .int v1, .int v2, .null, .null, .null, .null, .null] [] (q3.1, R, q3.2)
  refine zv_aload_n (pc := 8) d_X11_tellRows_8 rfl ?_
  refine zv_bipush (pc := 9) d_X11_tellRows_9 zc_b_17 ?_
  obtain ⟨q4, hq4, hf⟩ := zw_bdE hf
  refine zx_callV (pc := 11) (As := [.int 17]) (o := v0) (st := []) (d2 := 0) (M2 := M_X11_is) (P2 := (fun r S => r = (some (.int q4)) ∧ S = (q3.1, R, q3.2))) d_X11_tellRows_11 (zw_mG (List.mem_of_getElem? (i := 1442) (by decide +kernel)) rfl) ce_X11_is (zw_RvK g1 rfl rfl) (Nat.le_of_ble_eq_true rfl) rfl (Nat.le_of_ble_eq_true rfl) (by decide) (c_X11_is X v0 17 q3.1 R q3.2 _ hq4 ⟨rfl, rfl⟩) ?_
  rintro _ _ ⟨rfl, rfl⟩
  show zy_V X M_X11_tellRows 4 P (11 + 3) [.ref v0, .int v1, .int v2, .null, .null, .null, .null, .null] [.int q4] (q3.1, R, q3.2)
  rcases zw_ifE hf with ⟨c5, hf⟩ | ⟨c5, hf⟩
  · refine zv_if_ne (pc := 14) (tg := 22) d_X11_tellRows_14 (by decide) (fun _ => ?_) (fun q => absurd q c5)
    exact zx_weak (zw_leS (zw_leS (zw_leS (zw_leN (zw_leN (zw_leN (zw_leN (zw_leN zw_leZ)))))))) (j_X11_tellRows_22_ok X P v0 v1 v2 q3.1 R q3.2 _ hf hk)
  · refine zv_if_ne (pc := 14) (tg := 22) d_X11_tellRows_14 (by decide) (fun q => absurd q c5) (fun _ => ?_)
    refine zv_aload_n (pc := 17) d_X11_tellRows_17 rfl ?_
    refine zv_iconst (pc := 18) d_X11_tellRows_18 zc_i_1 ?_
    obtain ⟨q78, hq78, hf⟩ := zw_bdE hf
    refine zx_callV (pc := 19) (As := [.int 1]) (o := v0) (st := []) (d2 := 0) (M2 := M_X11_fail) (P2 := (fun r S => r = none ∧ S = (q78, R, q3.2))) d_X11_tellRows_19 (zw_mG (List.mem_of_getElem? (i := 1450) (by decide +kernel)) rfl) ce_X11_fail (zw_RvK g1 rfl rfl) (Nat.le_of_ble_eq_true rfl) rfl (Nat.le_of_ble_eq_true rfl) (by decide) (c_X11_fail X v0 1 q3.1 R q3.2 _ hq78 ⟨rfl, rfl⟩) ?_
    rintro _ _ ⟨rfl, rfl⟩
    show zy_V X M_X11_tellRows 4 P (19 + 3) [.ref v0, .int v1, .int v2, .null, .null, .null, .null, .null] [] (q78, R, q3.2)
    exact zx_weak (zw_leS (zw_leS (zw_leS (zw_leN (zw_leN (zw_leN (zw_leN (zw_leN zw_leZ)))))))) (j_X11_tellRows_22_ok X P v0 v1 v2 q78 R q3.2 _ hf hk)
