theorem dL_388 : decode code 388 = .ok (.iadd, 1) := by decide +kernel
theorem dL_389 : decode code 389 = .ok (.iaload, 1) := by decide +kernel
theorem dL_390 : decode code 390 = .ok (.invokevirtual 54, 3) := by decide +kernel
theorem dL_393 : decode code 393 = .ok (.lcmp, 1) := by decide +kernel
theorem dL_394 : decode code 394 = .ok (.ifCond .eq 520, 3) := by decide +kernel
theorem dL_397 : decode code 397 = .ok (.iconst 0, 1) := by decide +kernel
theorem dL_398 : decode code 398 = .ok (.ireturn, 1) := by decide +kernel
theorem dL_399 : decode code 399 = .ok (.aload_n 1, 1) := by decide +kernel
theorem dL_400 : decode code 400 = .ok (.aload_n 0, 1) := by decide +kernel
theorem dL_401 : decode code 401 = .ok (.iload_n 3, 1) := by decide +kernel
theorem dL_402 : decode code 402 = .ok (.iconst 1, 1) := by decide +kernel
theorem dL_403 : decode code 403 = .ok (.iadd, 1) := by decide +kernel
theorem dL_404 : decode code 404 = .ok (.iaload, 1) := by decide +kernel
theorem dL_405 : decode code 405 = .ok (.invokevirtual 55, 3) := by decide +kernel
theorem dL_408 : decode code 408 = .ok (.aload_n 2, 1) := by decide +kernel
theorem dL_409 : decode code 409 = .ok (.aload_n 0, 1) := by decide +kernel
theorem dL_410 : decode code 410 = .ok (.iload_n 3, 1) := by decide +kernel
theorem dL_411 : decode code 411 = .ok (.iconst 1, 1) := by decide +kernel
theorem dL_412 : decode code 412 = .ok (.iadd, 1) := by decide +kernel
theorem dL_413 : decode code 413 = .ok (.iaload, 1) := by decide +kernel
theorem dL_414 : decode code 414 = .ok (.invokevirtual 59, 3) := by decide +kernel
theorem dL_417 : decode code 417 = .ok (.lcmp, 1) := by decide +kernel
theorem dL_418 : decode code 418 = .ok (.ifCond .eq 496, 3) := by decide +kernel
theorem dL_421 : decode code 421 = .ok (.iconst 0, 1) := by decide +kernel
theorem dL_422 : decode code 422 = .ok (.ireturn, 1) := by decide +kernel
theorem dL_423 : decode code 423 = .ok (.aload_n 1, 1) := by decide +kernel
theorem dL_424 : decode code 424 = .ok (.invokevirtual 60, 3) := by decide +kernel
theorem dL_427 : decode code 427 = .ok (.aload_n 2, 1) := by decide +kernel
theorem dL_428 : decode code 428 = .ok (.invokevirtual 64, 3) := by decide +kernel
theorem dL_431 : decode code 431 = .ok (.lcmp, 1) := by decide +kernel
theorem dL_432 : decode code 432 = .ok (.ifCond .eq 482, 3) := by decide +kernel
theorem dL_435 : decode code 435 = .ok (.iconst 0, 1) := by decide +kernel
theorem dL_436 : decode code 436 = .ok (.ireturn, 1) := by decide +kernel
theorem dL_437 : decode code 437 = .ok (.aload_n 1, 1) := by decide +kernel
theorem dL_438 : decode code 438 = .ok (.invokevirtual 65, 3) := by decide +kernel
theorem dL_441 : decode code 441 = .ok (.aload_n 2, 1) := by decide +kernel
theorem dL_442 : decode code 442 = .ok (.invokevirtual 68, 3) := by decide +kernel
theorem dL_445 : decode code 445 = .ok (.if_icmp .eq 469, 3) := by decide +kernel
theorem dL_448 : decode code 448 = .ok (.iconst 0, 1) := by decide +kernel
theorem dL_449 : decode code 449 = .ok (.ireturn, 1) := by decide +kernel
theorem dL_450 : decode code 450 = .ok (.aload_n 1, 1) := by decide +kernel
theorem dL_451 : decode code 451 = .ok (.aload_n 0, 1) := by decide +kernel
theorem dL_452 : decode code 452 = .ok (.iload_n 3, 1) := by decide +kernel
theorem dL_453 : decode code 453 = .ok (.iconst 1, 1) := by decide +kernel
theorem dL_454 : decode code 454 = .ok (.iadd, 1) := by decide +kernel
theorem dL_455 : decode code 455 = .ok (.iaload, 1) := by decide +kernel
theorem dL_456 : decode code 456 = .ok (.i2l, 1) := by decide +kernel
theorem dL_457 : decode code 457 = .ok (.bipush 32, 2) := by decide +kernel
theorem dL_459 : decode code 459 = .ok (.lshl, 1) := by decide +kernel
theorem dL_460 : decode code 460 = .ok (.aload_n 0, 1) := by decide +kernel
theorem dL_461 : decode code 461 = .ok (.iload_n 3, 1) := by decide +kernel
theorem dL_462 : decode code 462 = .ok (.iconst 2, 1) := by decide +kernel
theorem dL_463 : decode code 463 = .ok (.iadd, 1) := by decide +kernel
theorem dL_464 : decode code 464 = .ok (.iaload, 1) := by decide +kernel
theorem dL_465 : decode code 465 = .ok (.i2l, 1) := by decide +kernel
theorem dL_466 : decode code 466 = .ok (.ldc2_w 69, 3) := by decide +kernel
theorem dL_469 : decode code 469 = .ok (.land, 1) := by decide +kernel
theorem dL_470 : decode code 470 = .ok (.lor, 1) := by decide +kernel
theorem dL_471 : decode code 471 = .ok (.invokevirtual 71, 3) := by decide +kernel
theorem dL_474 : decode code 474 = .ok (.aload_n 2, 1) := by decide +kernel
theorem dL_475 : decode code 475 = .ok (.aload_n 0, 1) := by decide +kernel
theorem dL_476 : decode code 476 = .ok (.iload_n 3, 1) := by decide +kernel
theorem dL_477 : decode code 477 = .ok (.iconst 1, 1) := by decide +kernel
theorem dL_478 : decode code 478 = .ok (.iadd, 1) := by decide +kernel
theorem dL_479 : decode code 479 = .ok (.iaload, 1) := by decide +kernel
theorem dL_480 : decode code 480 = .ok (.i2l, 1) := by decide +kernel
theorem dL_481 : decode code 481 = .ok (.bipush 32, 2) := by decide +kernel
theorem dL_483 : decode code 483 = .ok (.lshl, 1) := by decide +kernel
theorem dL_484 : decode code 484 = .ok (.aload_n 0, 1) := by decide +kernel
theorem dL_485 : decode code 485 = .ok (.iload_n 3, 1) := by decide +kernel
theorem dL_486 : decode code 486 = .ok (.iconst 2, 1) := by decide +kernel
theorem dL_487 : decode code 487 = .ok (.iadd, 1) := by decide +kernel
theorem dL_488 : decode code 488 = .ok (.iaload, 1) := by decide +kernel
theorem dL_489 : decode code 489 = .ok (.i2l, 1) := by decide +kernel
theorem dL_490 : decode code 490 = .ok (.ldc2_w 69, 3) := by decide +kernel
theorem dL_493 : decode code 493 = .ok (.land, 1) := by decide +kernel
theorem dL_494 : decode code 494 = .ok (.lor, 1) := by decide +kernel
theorem dL_495 : decode code 495 = .ok (.invokevirtual 75, 3) := by decide +kernel
theorem dL_498 : decode code 498 = .ok (.if_icmp .eq 416, 3) := by decide +kernel
theorem dL_501 : decode code 501 = .ok (.iconst 0, 1) := by decide +kernel
theorem dL_502 : decode code 502 = .ok (.ireturn, 1) := by decide +kernel
theorem dL_503 : decode code 503 = .ok (.aload_n 1, 1) := by decide +kernel
theorem dL_504 : decode code 504 = .ok (.aload_n 0, 1) := by decide +kernel
theorem dL_505 : decode code 505 = .ok (.iload_n 3, 1) := by decide +kernel
theorem dL_506 : decode code 506 = .ok (.iconst 1, 1) := by decide +kernel
theorem dL_507 : decode code 507 = .ok (.iadd, 1) := by decide +kernel
theorem dL_508 : decode code 508 = .ok (.iaload, 1) := by decide +kernel
theorem dL_509 : decode code 509 = .ok (.i2l, 1) := by decide +kernel
theorem dL_510 : decode code 510 = .ok (.bipush 32, 2) := by decide +kernel
theorem dL_512 : decode code 512 = .ok (.lshl, 1) := by decide +kernel
theorem dL_513 : decode code 513 = .ok (.aload_n 0, 1) := by decide +kernel
theorem dL_514 : decode code 514 = .ok (.iload_n 3, 1) := by decide +kernel
theorem dL_515 : decode code 515 = .ok (.iconst 2, 1) := by decide +kernel
theorem dL_516 : decode code 516 = .ok (.iadd, 1) := by decide +kernel
theorem dL_517 : decode code 517 = .ok (.iaload, 1) := by decide +kernel
theorem dL_518 : decode code 518 = .ok (.i2l, 1) := by decide +kernel
theorem dL_519 : decode code 519 = .ok (.ldc2_w 69, 3) := by decide +kernel
theorem dL_522 : decode code 522 = .ok (.land, 1) := by decide +kernel
theorem dL_523 : decode code 523 = .ok (.lor, 1) := by decide +kernel
theorem dL_524 : decode code 524 = .ok (.invokevirtual 76, 3) := by decide +kernel
