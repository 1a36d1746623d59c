theorem d_L_law_408 : decode code 408 = .ok (.aload_n 0, 1) := by decide +kernel
theorem d_L_law_409 : decode code 409 = .ok (.iload_n 3, 1) := by decide +kernel
theorem d_L_law_410 : decode code 410 = .ok (.iconst 1, 1) := by decide +kernel
theorem d_L_law_411 : decode code 411 = .ok (.iadd, 1) := by decide +kernel
theorem d_L_law_412 : decode code 412 = .ok (.iaload, 1) := by decide +kernel
theorem d_L_law_413 : decode code 413 = .ok (.ifCond .eq 7, 3) := by decide +kernel
theorem d_L_law_416 : decode code 416 = .ok (.iconst 1, 1) := by decide +kernel
theorem d_L_law_417 : decode code 417 = .ok (.goto 4, 3) := by decide +kernel
theorem d_L_law_420 : decode code 420 = .ok (.iconst 0, 1) := by decide +kernel
theorem d_L_law_421 : decode code 421 = .ok (.aload_n 0, 1) := by decide +kernel
theorem d_L_law_422 : decode code 422 = .ok (.iload_n 3, 1) := by decide +kernel
theorem d_L_law_423 : decode code 423 = .ok (.iconst 2, 1) := by decide +kernel
theorem d_L_law_424 : decode code 424 = .ok (.iadd, 1) := by decide +kernel
theorem d_L_law_425 : decode code 425 = .ok (.iaload, 1) := by decide +kernel
theorem d_L_law_426 : decode code 426 = .ok (.aload_n 0, 1) := by decide +kernel
theorem d_L_law_427 : decode code 427 = .ok (.iload_n 3, 1) := by decide +kernel
theorem d_L_law_428 : decode code 428 = .ok (.iconst 3, 1) := by decide +kernel
theorem d_L_law_429 : decode code 429 = .ok (.iadd, 1) := by decide +kernel
theorem d_L_law_430 : decode code 430 = .ok (.iaload, 1) := by decide +kernel
theorem d_L_law_431 : decode code 431 = .ok (.invokevirtual 47, 3) := by decide +kernel
theorem d_L_law_434 : decode code 434 = .ok (.if_icmp .eq 198, 3) := by decide +kernel
theorem d_L_law_437 : decode code 437 = .ok (.iconst 0, 1) := by decide +kernel
theorem d_L_law_438 : decode code 438 = .ok (.ireturn, 1) := by decide +kernel
theorem d_L_law_439 : decode code 439 = .ok (.aload_n 1, 1) := by decide +kernel
theorem d_L_law_440 : decode code 440 = .ok (.invokevirtual 48, 3) := by decide +kernel
theorem d_L_law_443 : decode code 443 = .ok (.aload_n 2, 1) := by decide +kernel
theorem d_L_law_444 : decode code 444 = .ok (.invokevirtual 52, 3) := by decide +kernel
theorem d_L_law_447 : decode code 447 = .ok (.if_icmp .eq 185, 3) := by decide +kernel
theorem d_L_law_450 : decode code 450 = .ok (.iconst 0, 1) := by decide +kernel
theorem d_L_law_451 : decode code 451 = .ok (.ireturn, 1) := by decide +kernel
theorem d_L_law_452 : decode code 452 = .ok (.aload_n 1, 1) := by decide +kernel
theorem d_L_law_453 : decode code 453 = .ok (.invokevirtual 53, 3) := by decide +kernel
theorem d_L_law_456 : decode code 456 = .ok (.aload_n 2, 1) := by decide +kernel
theorem d_L_law_457 : decode code 457 = .ok (.invokevirtual 57, 3) := by decide +kernel
theorem d_L_law_460 : decode code 460 = .ok (.lcmp, 1) := by decide +kernel
theorem d_L_law_461 : decode code 461 = .ok (.ifCond .eq 171, 3) := by decide +kernel
theorem d_L_law_464 : decode code 464 = .ok (.iconst 0, 1) := by decide +kernel
theorem d_L_law_465 : decode code 465 = .ok (.ireturn, 1) := by decide +kernel
theorem d_L_law_466 : decode code 466 = .ok (.aload_n 1, 1) := by decide +kernel
theorem d_L_law_467 : decode code 467 = .ok (.invokevirtual 58, 3) := by decide +kernel
theorem d_L_law_470 : decode code 470 = .ok (.aload_n 2, 1) := by decide +kernel
theorem d_L_law_471 : decode code 471 = .ok (.invokevirtual 61, 3) := by decide +kernel
theorem d_L_law_474 : decode code 474 = .ok (.if_icmp .eq 158, 3) := by decide +kernel
theorem d_L_law_477 : decode code 477 = .ok (.iconst 0, 1) := by decide +kernel
theorem d_L_law_478 : decode code 478 = .ok (.ireturn, 1) := by decide +kernel
theorem d_L_law_479 : decode code 479 = .ok (.aload_n 1, 1) := by decide +kernel
theorem d_L_law_480 : decode code 480 = .ok (.aload_n 0, 1) := by decide +kernel
theorem d_L_law_481 : decode code 481 = .ok (.iload_n 3, 1) := by decide +kernel
theorem d_L_law_482 : decode code 482 = .ok (.iconst 1, 1) := by decide +kernel
theorem d_L_law_483 : decode code 483 = .ok (.iadd, 1) := by decide +kernel
theorem d_L_law_484 : decode code 484 = .ok (.iaload, 1) := by decide +kernel
theorem d_L_law_485 : decode code 485 = .ok (.i2l, 1) := by decide +kernel
theorem d_L_law_486 : decode code 486 = .ok (.bipush 32, 2) := by decide +kernel
theorem d_L_law_488 : decode code 488 = .ok (.lshl, 1) := by decide +kernel
theorem d_L_law_489 : decode code 489 = .ok (.aload_n 0, 1) := by decide +kernel
theorem d_L_law_490 : decode code 490 = .ok (.iload_n 3, 1) := by decide +kernel
theorem d_L_law_491 : decode code 491 = .ok (.iconst 2, 1) := by decide +kernel
theorem d_L_law_492 : decode code 492 = .ok (.iadd, 1) := by decide +kernel
theorem d_L_law_493 : decode code 493 = .ok (.iaload, 1) := by decide +kernel
theorem d_L_law_494 : decode code 494 = .ok (.i2l, 1) := by decide +kernel
theorem d_L_law_495 : decode code 495 = .ok (.ldc2_w 26, 3) := by decide +kernel
theorem d_L_law_498 : decode code 498 = .ok (.land, 1) := by decide +kernel
theorem d_L_law_499 : decode code 499 = .ok (.lor, 1) := by decide +kernel
theorem d_L_law_500 : decode code 500 = .ok (.invokevirtual 62, 3) := by decide +kernel
theorem d_L_law_503 : decode code 503 = .ok (.aload_n 2, 1) := by decide +kernel
theorem d_L_law_504 : decode code 504 = .ok (.aload_n 0, 1) := by decide +kernel
theorem d_L_law_505 : decode code 505 = .ok (.iload_n 3, 1) := by decide +kernel
theorem d_L_law_506 : decode code 506 = .ok (.iconst 1, 1) := by decide +kernel
theorem d_L_law_507 : decode code 507 = .ok (.iadd, 1) := by decide +kernel
theorem d_L_law_508 : decode code 508 = .ok (.iaload, 1) := by decide +kernel
theorem d_L_law_509 : decode code 509 = .ok (.i2l, 1) := by decide +kernel
theorem d_L_law_510 : decode code 510 = .ok (.bipush 32, 2) := by decide +kernel
theorem d_L_law_512 : decode code 512 = .ok (.lshl, 1) := by decide +kernel
theorem d_L_law_513 : decode code 513 = .ok (.aload_n 0, 1) := by decide +kernel
theorem d_L_law_514 : decode code 514 = .ok (.iload_n 3, 1) := by decide +kernel
theorem d_L_law_515 : decode code 515 = .ok (.iconst 2, 1) := by decide +kernel
theorem d_L_law_516 : decode code 516 = .ok (.iadd, 1) := by decide +kernel
theorem d_L_law_517 : decode code 517 = .ok (.iaload, 1) := by decide +kernel
theorem d_L_law_518 : decode code 518 = .ok (.i2l, 1) := by decide +kernel
theorem d_L_law_519 : decode code 519 = .ok (.ldc2_w 26, 3) := by decide +kernel
theorem d_L_law_522 : decode code 522 = .ok (.land, 1) := by decide +kernel
theorem d_L_law_523 : decode code 523 = .ok (.lor, 1) := by decide +kernel
theorem d_L_law_524 : decode code 524 = .ok (.invokevirtual 66, 3) := by decide +kernel
theorem d_L_law_527 : decode code 527 = .ok (.if_icmp .eq 105, 3) := by decide +kernel
theorem d_L_law_530 : decode code 530 = .ok (.iconst 0, 1) := by decide +kernel
theorem d_L_law_531 : decode code 531 = .ok (.ireturn, 1) := by decide +kernel
theorem d_L_law_532 : decode code 532 = .ok (.aload_n 1, 1) := by decide +kernel
theorem d_L_law_533 : decode code 533 = .ok (.aload_n 0, 1) := by decide +kernel
theorem d_L_law_534 : decode code 534 = .ok (.iload_n 3, 1) := by decide +kernel
theorem d_L_law_535 : decode code 535 = .ok (.iconst 1, 1) := by decide +kernel
