theorem d_L_law_282 : decode M_L_law.2.1 282 = .ok (.aload_n 0, 1) := by decide +kernel
theorem d_L_law_283 : decode M_L_law.2.1 283 = .ok (.iload_n 3, 1) := by decide +kernel
theorem d_L_law_284 : decode M_L_law.2.1 284 = .ok (.iconst 2, 1) := by decide +kernel
theorem d_L_law_285 : decode M_L_law.2.1 285 = .ok (.iadd, 1) := by decide +kernel
theorem d_L_law_286 : decode M_L_law.2.1 286 = .ok (.iaload, 1) := by decide +kernel
theorem d_L_law_287 : decode M_L_law.2.1 287 = .ok (.invokevirtual 32, 3) := by decide +kernel
theorem d_L_law_290 : decode M_L_law.2.1 290 = .ok (.aload_n 2, 1) := by decide +kernel
theorem d_L_law_291 : decode M_L_law.2.1 291 = .ok (.aload_n 0, 1) := by decide +kernel
theorem d_L_law_292 : decode M_L_law.2.1 292 = .ok (.iload_n 3, 1) := by decide +kernel
theorem d_L_law_293 : decode M_L_law.2.1 293 = .ok (.iconst 1, 1) := by decide +kernel
theorem d_L_law_294 : decode M_L_law.2.1 294 = .ok (.iadd, 1) := by decide +kernel
theorem d_L_law_295 : decode M_L_law.2.1 295 = .ok (.iaload, 1) := by decide +kernel
theorem d_L_law_296 : decode M_L_law.2.1 296 = .ok (.ifCond .eq 7, 3) := by decide +kernel
theorem d_L_law_299 : decode M_L_law.2.1 299 = .ok (.iconst 1, 1) := by decide +kernel
theorem d_L_law_300 : decode M_L_law.2.1 300 = .ok (.goto 4, 3) := by decide +kernel
theorem d_L_law_303 : decode M_L_law.2.1 303 = .ok (.iconst 0, 1) := by decide +kernel
theorem d_L_law_304 : decode M_L_law.2.1 304 = .ok (.aload_n 0, 1) := by decide +kernel
theorem d_L_law_305 : decode M_L_law.2.1 305 = .ok (.iload_n 3, 1) := by decide +kernel
theorem d_L_law_306 : decode M_L_law.2.1 306 = .ok (.iconst 2, 1) := by decide +kernel
theorem d_L_law_307 : decode M_L_law.2.1 307 = .ok (.iadd, 1) := by decide +kernel
theorem d_L_law_308 : decode M_L_law.2.1 308 = .ok (.iaload, 1) := by decide +kernel
theorem d_L_law_309 : decode M_L_law.2.1 309 = .ok (.invokevirtual 36, 3) := by decide +kernel
theorem d_L_law_312 : decode M_L_law.2.1 312 = .ok (.if_icmp .eq 795, 3) := by decide +kernel
theorem d_L_law_315 : decode M_L_law.2.1 315 = .ok (.iconst 0, 1) := by decide +kernel
theorem d_L_law_316 : decode M_L_law.2.1 316 = .ok (.ireturn, 1) := by decide +kernel
theorem d_L_law_317 : decode M_L_law.2.1 317 = .ok (.aload_n 1, 1) := by decide +kernel
theorem d_L_law_318 : decode M_L_law.2.1 318 = .ok (.aload_n 0, 1) := by decide +kernel
theorem d_L_law_319 : decode M_L_law.2.1 319 = .ok (.iload_n 3, 1) := by decide +kernel
theorem d_L_law_320 : decode M_L_law.2.1 320 = .ok (.iconst 1, 1) := by decide +kernel
theorem d_L_law_321 : decode M_L_law.2.1 321 = .ok (.iadd, 1) := by decide +kernel
theorem d_L_law_322 : decode M_L_law.2.1 322 = .ok (.iaload, 1) := by decide +kernel
theorem d_L_law_323 : decode M_L_law.2.1 323 = .ok (.ifCond .eq 7, 3) := by decide +kernel
theorem d_L_law_326 : decode M_L_law.2.1 326 = .ok (.iconst 1, 1) := by decide +kernel
theorem d_L_law_327 : decode M_L_law.2.1 327 = .ok (.goto 4, 3) := by decide +kernel
theorem d_L_law_330 : decode M_L_law.2.1 330 = .ok (.iconst 0, 1) := by decide +kernel
theorem d_L_law_331 : decode M_L_law.2.1 331 = .ok (.aload_n 0, 1) := by decide +kernel
theorem d_L_law_332 : decode M_L_law.2.1 332 = .ok (.iload_n 3, 1) := by decide +kernel
theorem d_L_law_333 : decode M_L_law.2.1 333 = .ok (.iconst 2, 1) := by decide +kernel
theorem d_L_law_334 : decode M_L_law.2.1 334 = .ok (.iadd, 1) := by decide +kernel
theorem d_L_law_335 : decode M_L_law.2.1 335 = .ok (.iaload, 1) := by decide +kernel
theorem d_L_law_336 : decode M_L_law.2.1 336 = .ok (.aload_n 0, 1) := by decide +kernel
theorem d_L_law_337 : decode M_L_law.2.1 337 = .ok (.iload_n 3, 1) := by decide +kernel
theorem d_L_law_338 : decode M_L_law.2.1 338 = .ok (.iconst 3, 1) := by decide +kernel
theorem d_L_law_339 : decode M_L_law.2.1 339 = .ok (.iadd, 1) := by decide +kernel
theorem d_L_law_340 : decode M_L_law.2.1 340 = .ok (.iaload, 1) := by decide +kernel
theorem d_L_law_341 : decode M_L_law.2.1 341 = .ok (.aload_n 0, 1) := by decide +kernel
theorem d_L_law_342 : decode M_L_law.2.1 342 = .ok (.iload_n 3, 1) := by decide +kernel
theorem d_L_law_343 : decode M_L_law.2.1 343 = .ok (.iconst 4, 1) := by decide +kernel
theorem d_L_law_344 : decode M_L_law.2.1 344 = .ok (.iadd, 1) := by decide +kernel
theorem d_L_law_345 : decode M_L_law.2.1 345 = .ok (.iaload, 1) := by decide +kernel
theorem d_L_law_346 : decode M_L_law.2.1 346 = .ok (.invokevirtual 37, 3) := by decide +kernel
theorem d_L_law_349 : decode M_L_law.2.1 349 = .ok (.aload_n 2, 1) := by decide +kernel
theorem d_L_law_350 : decode M_L_law.2.1 350 = .ok (.aload_n 0, 1) := by decide +kernel
theorem d_L_law_351 : decode M_L_law.2.1 351 = .ok (.iload_n 3, 1) := by decide +kernel
theorem d_L_law_352 : decode M_L_law.2.1 352 = .ok (.iconst 1, 1) := by decide +kernel
theorem d_L_law_353 : decode M_L_law.2.1 353 = .ok (.iadd, 1) := by decide +kernel
theorem d_L_law_354 : decode M_L_law.2.1 354 = .ok (.iaload, 1) := by decide +kernel
theorem d_L_law_355 : decode M_L_law.2.1 355 = .ok (.ifCond .eq 7, 3) := by decide +kernel
theorem d_L_law_358 : decode M_L_law.2.1 358 = .ok (.iconst 1, 1) := by decide +kernel
theorem d_L_law_359 : decode M_L_law.2.1 359 = .ok (.goto 4, 3) := by decide +kernel
