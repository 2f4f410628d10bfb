theorem d_L_law_432 : decode M_L_law.2.1 432 = .ok (.iconst 5, 1) := by decide +kernel
theorem d_L_law_433 : decode M_L_law.2.1 433 = .ok (.iadd, 1) := by decide +kernel
theorem d_L_law_434 : decode M_L_law.2.1 434 = .ok (.iaload, 1) := by decide +kernel
theorem d_L_law_435 : decode M_L_law.2.1 435 = .ok (.aload_n 0, 1) := by decide +kernel
theorem d_L_law_436 : decode M_L_law.2.1 436 = .ok (.iload_n 3, 1) := by decide +kernel
theorem d_L_law_437 : decode M_L_law.2.1 437 = .ok (.bipush 6, 2) := by decide +kernel
theorem d_L_law_439 : decode M_L_law.2.1 439 = .ok (.iadd, 1) := by decide +kernel
theorem d_L_law_440 : decode M_L_law.2.1 440 = .ok (.iaload, 1) := by decide +kernel
theorem d_L_law_441 : decode M_L_law.2.1 441 = .ok (.invokevirtual 46, 3) := by decide +kernel
theorem d_L_law_444 : decode M_L_law.2.1 444 = .ok (.aload_n 2, 1) := by decide +kernel
theorem d_L_law_445 : decode M_L_law.2.1 445 = .ok (.aload_n 0, 1) := by decide +kernel
theorem d_L_law_446 : decode M_L_law.2.1 446 = .ok (.iload_n 3, 1) := by decide +kernel
theorem d_L_law_447 : decode M_L_law.2.1 447 = .ok (.iconst 1, 1) := by decide +kernel
theorem d_L_law_448 : decode M_L_law.2.1 448 = .ok (.iadd, 1) := by decide +kernel
theorem d_L_law_449 : decode M_L_law.2.1 449 = .ok (.iaload, 1) := by decide +kernel
theorem d_L_law_450 : decode M_L_law.2.1 450 = .ok (.aload_n 0, 1) := by decide +kernel
theorem d_L_law_451 : decode M_L_law.2.1 451 = .ok (.iload_n 3, 1) := by decide +kernel
theorem d_L_law_452 : decode M_L_law.2.1 452 = .ok (.iconst 2, 1) := by decide +kernel
theorem d_L_law_453 : decode M_L_law.2.1 453 = .ok (.iadd, 1) := by decide +kernel
theorem d_L_law_454 : decode M_L_law.2.1 454 = .ok (.iaload, 1) := by decide +kernel
theorem d_L_law_455 : decode M_L_law.2.1 455 = .ok (.aload_n 0, 1) := by decide +kernel
theorem d_L_law_456 : decode M_L_law.2.1 456 = .ok (.iload_n 3, 1) := by decide +kernel
theorem d_L_law_457 : decode M_L_law.2.1 457 = .ok (.iconst 3, 1) := by decide +kernel
theorem d_L_law_458 : decode M_L_law.2.1 458 = .ok (.iadd, 1) := by decide +kernel
theorem d_L_law_459 : decode M_L_law.2.1 459 = .ok (.iaload, 1) := by decide +kernel
theorem d_L_law_460 : decode M_L_law.2.1 460 = .ok (.aload_n 0, 1) := by decide +kernel
theorem d_L_law_461 : decode M_L_law.2.1 461 = .ok (.iload_n 3, 1) := by decide +kernel
theorem d_L_law_462 : decode M_L_law.2.1 462 = .ok (.iconst 4, 1) := by decide +kernel
theorem d_L_law_463 : decode M_L_law.2.1 463 = .ok (.iadd, 1) := by decide +kernel
theorem d_L_law_464 : decode M_L_law.2.1 464 = .ok (.iaload, 1) := by decide +kernel
theorem d_L_law_465 : decode M_L_law.2.1 465 = .ok (.aload_n 0, 1) := by decide +kernel
theorem d_L_law_466 : decode M_L_law.2.1 466 = .ok (.iload_n 3, 1) := by decide +kernel
theorem d_L_law_467 : decode M_L_law.2.1 467 = .ok (.iconst 5, 1) := by decide +kernel
theorem d_L_law_468 : decode M_L_law.2.1 468 = .ok (.iadd, 1) := by decide +kernel
theorem d_L_law_469 : decode M_L_law.2.1 469 = .ok (.iaload, 1) := by decide +kernel
theorem d_L_law_470 : decode M_L_law.2.1 470 = .ok (.aload_n 0, 1) := by decide +kernel
theorem d_L_law_471 : decode M_L_law.2.1 471 = .ok (.iload_n 3, 1) := by decide +kernel
theorem d_L_law_472 : decode M_L_law.2.1 472 = .ok (.bipush 6, 2) := by decide +kernel
theorem d_L_law_474 : decode M_L_law.2.1 474 = .ok (.iadd, 1) := by decide +kernel
theorem d_L_law_475 : decode M_L_law.2.1 475 = .ok (.iaload, 1) := by decide +kernel
theorem d_L_law_476 : decode M_L_law.2.1 476 = .ok (.invokevirtual 50, 3) := by decide +kernel
theorem d_L_law_479 : decode M_L_law.2.1 479 = .ok (.if_icmp .eq 628, 3) := by decide +kernel
theorem d_L_law_482 : decode M_L_law.2.1 482 = .ok (.iconst 0, 1) := by decide +kernel
theorem d_L_law_483 : decode M_L_law.2.1 483 = .ok (.ireturn, 1) := by decide +kernel
theorem d_L_law_484 : decode M_L_law.2.1 484 = .ok (.aload_n 1, 1) := by decide +kernel
theorem d_L_law_485 : decode M_L_law.2.1 485 = .ok (.aload_n 0, 1) := by decide +kernel
theorem d_L_law_486 : decode M_L_law.2.1 486 = .ok (.iload_n 3, 1) := by decide +kernel
theorem d_L_law_487 : decode M_L_law.2.1 487 = .ok (.iconst 1, 1) := by decide +kernel
theorem d_L_law_488 : decode M_L_law.2.1 488 = .ok (.iadd, 1) := by decide +kernel
theorem d_L_law_489 : decode M_L_law.2.1 489 = .ok (.iaload, 1) := by decide +kernel
theorem d_L_law_490 : decode M_L_law.2.1 490 = .ok (.invokevirtual 51, 3) := by decide +kernel
theorem d_L_law_493 : decode M_L_law.2.1 493 = .ok (.aload_n 2, 1) := by decide +kernel
theorem d_L_law_494 : decode M_L_law.2.1 494 = .ok (.aload_n 0, 1) := by decide +kernel
theorem d_L_law_495 : decode M_L_law.2.1 495 = .ok (.iload_n 3, 1) := by decide +kernel
theorem d_L_law_496 : decode M_L_law.2.1 496 = .ok (.iconst 1, 1) := by decide +kernel
theorem d_L_law_497 : decode M_L_law.2.1 497 = .ok (.iadd, 1) := by decide +kernel
theorem d_L_law_498 : decode M_L_law.2.1 498 = .ok (.iaload, 1) := by decide +kernel
theorem d_L_law_499 : decode M_L_law.2.1 499 = .ok (.invokevirtual 54, 3) := by decide +kernel
theorem d_L_law_502 : decode M_L_law.2.1 502 = .ok (.if_icmp .eq 605, 3) := by decide +kernel
theorem d_L_law_505 : decode M_L_law.2.1 505 = .ok (.iconst 0, 1) := by decide +kernel
