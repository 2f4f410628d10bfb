theorem d_L_law_362 : decode M_L_law.2.1 362 = .ok (.iconst 0, 1) := by decide +kernel
theorem d_L_law_363 : decode M_L_law.2.1 363 = .ok (.aload_n 0, 1) := by decide +kernel
theorem d_L_law_364 : decode M_L_law.2.1 364 = .ok (.iload_n 3, 1) := by decide +kernel
theorem d_L_law_365 : decode M_L_law.2.1 365 = .ok (.iconst 2, 1) := by decide +kernel
theorem d_L_law_366 : decode M_L_law.2.1 366 = .ok (.iadd, 1) := by decide +kernel
theorem d_L_law_367 : decode M_L_law.2.1 367 = .ok (.iaload, 1) := by decide +kernel
theorem d_L_law_368 : decode M_L_law.2.1 368 = .ok (.aload_n 0, 1) := by decide +kernel
theorem d_L_law_369 : decode M_L_law.2.1 369 = .ok (.iload_n 3, 1) := by decide +kernel
theorem d_L_law_370 : decode M_L_law.2.1 370 = .ok (.iconst 3, 1) := by decide +kernel
theorem d_L_law_371 : decode M_L_law.2.1 371 = .ok (.iadd, 1) := by decide +kernel
theorem d_L_law_372 : decode M_L_law.2.1 372 = .ok (.iaload, 1) := by decide +kernel
theorem d_L_law_373 : decode M_L_law.2.1 373 = .ok (.aload_n 0, 1) := by decide +kernel
theorem d_L_law_374 : decode M_L_law.2.1 374 = .ok (.iload_n 3, 1) := by decide +kernel
theorem d_L_law_375 : decode M_L_law.2.1 375 = .ok (.iconst 4, 1) := by decide +kernel
theorem d_L_law_376 : decode M_L_law.2.1 376 = .ok (.iadd, 1) := by decide +kernel
theorem d_L_law_377 : decode M_L_law.2.1 377 = .ok (.iaload, 1) := by decide +kernel
theorem d_L_law_378 : decode M_L_law.2.1 378 = .ok (.invokevirtual 41, 3) := by decide +kernel
theorem d_L_law_381 : decode M_L_law.2.1 381 = .ok (.if_icmp .eq 726, 3) := by decide +kernel
theorem d_L_law_384 : decode M_L_law.2.1 384 = .ok (.iconst 0, 1) := by decide +kernel
theorem d_L_law_385 : decode M_L_law.2.1 385 = .ok (.ireturn, 1) := by decide +kernel
theorem d_L_law_386 : decode M_L_law.2.1 386 = .ok (.aload_n 1, 1) := by decide +kernel
theorem d_L_law_387 : decode M_L_law.2.1 387 = .ok (.aload_n 0, 1) := by decide +kernel
theorem d_L_law_388 : decode M_L_law.2.1 388 = .ok (.iload_n 3, 1) := by decide +kernel
theorem d_L_law_389 : decode M_L_law.2.1 389 = .ok (.iconst 1, 1) := by decide +kernel
theorem d_L_law_390 : decode M_L_law.2.1 390 = .ok (.iadd, 1) := by decide +kernel
theorem d_L_law_391 : decode M_L_law.2.1 391 = .ok (.iaload, 1) := by decide +kernel
theorem d_L_law_392 : decode M_L_law.2.1 392 = .ok (.invokevirtual 42, 3) := by decide +kernel
theorem d_L_law_395 : decode M_L_law.2.1 395 = .ok (.aload_n 2, 1) := by decide +kernel
theorem d_L_law_396 : decode M_L_law.2.1 396 = .ok (.aload_n 0, 1) := by decide +kernel
theorem d_L_law_397 : decode M_L_law.2.1 397 = .ok (.iload_n 3, 1) := by decide +kernel
theorem d_L_law_398 : decode M_L_law.2.1 398 = .ok (.iconst 1, 1) := by decide +kernel
theorem d_L_law_399 : decode M_L_law.2.1 399 = .ok (.iadd, 1) := by decide +kernel
theorem d_L_law_400 : decode M_L_law.2.1 400 = .ok (.iaload, 1) := by decide +kernel
theorem d_L_law_401 : decode M_L_law.2.1 401 = .ok (.invokevirtual 45, 3) := by decide +kernel
theorem d_L_law_404 : decode M_L_law.2.1 404 = .ok (.if_icmp .eq 703, 3) := by decide +kernel
theorem d_L_law_407 : decode M_L_law.2.1 407 = .ok (.iconst 0, 1) := by decide +kernel
theorem d_L_law_408 : decode M_L_law.2.1 408 = .ok (.ireturn, 1) := by decide +kernel
theorem d_L_law_409 : decode M_L_law.2.1 409 = .ok (.aload_n 1, 1) := by decide +kernel
theorem d_L_law_410 : decode M_L_law.2.1 410 = .ok (.aload_n 0, 1) := by decide +kernel
theorem d_L_law_411 : decode M_L_law.2.1 411 = .ok (.iload_n 3, 1) := by decide +kernel
theorem d_L_law_412 : decode M_L_law.2.1 412 = .ok (.iconst 1, 1) := by decide +kernel
theorem d_L_law_413 : decode M_L_law.2.1 413 = .ok (.iadd, 1) := by decide +kernel
theorem d_L_law_414 : decode M_L_law.2.1 414 = .ok (.iaload, 1) := by decide +kernel
theorem d_L_law_415 : decode M_L_law.2.1 415 = .ok (.aload_n 0, 1) := by decide +kernel
theorem d_L_law_416 : decode M_L_law.2.1 416 = .ok (.iload_n 3, 1) := by decide +kernel
theorem d_L_law_417 : decode M_L_law.2.1 417 = .ok (.iconst 2, 1) := by decide +kernel
theorem d_L_law_418 : decode M_L_law.2.1 418 = .ok (.iadd, 1) := by decide +kernel
theorem d_L_law_419 : decode M_L_law.2.1 419 = .ok (.iaload, 1) := by decide +kernel
theorem d_L_law_420 : decode M_L_law.2.1 420 = .ok (.aload_n 0, 1) := by decide +kernel
theorem d_L_law_421 : decode M_L_law.2.1 421 = .ok (.iload_n 3, 1) := by decide +kernel
theorem d_L_law_422 : decode M_L_law.2.1 422 = .ok (.iconst 3, 1) := by decide +kernel
theorem d_L_law_423 : decode M_L_law.2.1 423 = .ok (.iadd, 1) := by decide +kernel
theorem d_L_law_424 : decode M_L_law.2.1 424 = .ok (.iaload, 1) := by decide +kernel
theorem d_L_law_425 : decode M_L_law.2.1 425 = .ok (.aload_n 0, 1) := by decide +kernel
theorem d_L_law_426 : decode M_L_law.2.1 426 = .ok (.iload_n 3, 1) := by decide +kernel
theorem d_L_law_427 : decode M_L_law.2.1 427 = .ok (.iconst 4, 1) := by decide +kernel
theorem d_L_law_428 : decode M_L_law.2.1 428 = .ok (.iadd, 1) := by decide +kernel
theorem d_L_law_429 : decode M_L_law.2.1 429 = .ok (.iaload, 1) := by decide +kernel
theorem d_L_law_430 : decode M_L_law.2.1 430 = .ok (.aload_n 0, 1) := by decide +kernel
theorem d_L_law_431 : decode M_L_law.2.1 431 = .ok (.iload_n 3, 1) := by decide +kernel
