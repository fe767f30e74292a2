theorem d_La_law_416 : decode b_La_law 416 = .ok (.aload_n 3, 1) := by decide +kernel
theorem d_La_law_417 : decode b_La_law 417 = .ok (.invokestatic 79, 3) := by decide +kernel
theorem d_La_law_420 : decode b_La_law 420 = .ok (.istore 5, 2) := by decide +kernel
theorem d_La_law_422 : decode b_La_law 422 = .ok (.aload_n 2, 1) := by decide +kernel
theorem d_La_law_423 : decode b_La_law 423 = .ok (.aload_n 0, 1) := by decide +kernel
theorem d_La_law_424 : decode b_La_law 424 = .ok (.iload 4, 2) := by decide +kernel
theorem d_La_law_426 : decode b_La_law 426 = .ok (.iconst 1, 1) := by decide +kernel
theorem d_La_law_427 : decode b_La_law 427 = .ok (.iadd, 1) := by decide +kernel
theorem d_La_law_428 : decode b_La_law 428 = .ok (.iaload, 1) := by decide +kernel
theorem d_La_law_429 : decode b_La_law 429 = .ok (.aload_n 0, 1) := by decide +kernel
theorem d_La_law_430 : decode b_La_law 430 = .ok (.iload 4, 2) := by decide +kernel
theorem d_La_law_432 : decode b_La_law 432 = .ok (.iconst 2, 1) := by decide +kernel
theorem d_La_law_433 : decode b_La_law 433 = .ok (.iadd, 1) := by decide +kernel
theorem d_La_law_434 : decode b_La_law 434 = .ok (.iaload, 1) := by decide +kernel
theorem d_La_law_435 : decode b_La_law 435 = .ok (.invokevirtual 81, 3) := by decide +kernel
theorem d_La_law_438 : decode b_La_law 438 = .ok (.istore 6, 2) := by decide +kernel
theorem d_La_law_440 : decode b_La_law 440 = .ok (.aload_n 2, 1) := by decide +kernel
theorem d_La_law_441 : decode b_La_law 441 = .ok (.invokevirtual 62, 3) := by decide +kernel
theorem d_La_law_444 : decode b_La_law 444 = .ok (.iload 5, 2) := by decide +kernel
theorem d_La_law_446 : decode b_La_law 446 = .ok (.if_icmp .eq 5, 3) := by decide +kernel
theorem d_La_law_449 : decode b_La_law 449 = .ok (.iconst 0, 1) := by decide +kernel
theorem d_La_law_450 : decode b_La_law 450 = .ok (.ireturn, 1) := by decide +kernel
theorem d_La_law_451 : decode b_La_law 451 = .ok (.iload 5, 2) := by decide +kernel
theorem d_La_law_453 : decode b_La_law 453 = .ok (.ifCond .ne 15, 3) := by decide +kernel
theorem d_La_law_456 : decode b_La_law 456 = .ok (.aload_n 3, 1) := by decide +kernel
theorem d_La_law_457 : decode b_La_law 457 = .ok (.iconst 0, 1) := by decide +kernel
theorem d_La_law_458 : decode b_La_law 458 = .ok (.laload, 1) := by decide +kernel
theorem d_La_law_459 : decode b_La_law 459 = .ok (.iload 6, 2) := by decide +kernel
theorem d_La_law_461 : decode b_La_law 461 = .ok (.i2l, 1) := by decide +kernel
theorem d_La_law_462 : decode b_La_law 462 = .ok (.lcmp, 1) := by decide +kernel
theorem d_La_law_463 : decode b_La_law 463 = .ok (.ifCond .eq 5, 3) := by decide +kernel
theorem d_La_law_466 : decode b_La_law 466 = .ok (.iconst 0, 1) := by decide +kernel
theorem d_La_law_467 : decode b_La_law 467 = .ok (.ireturn, 1) := by decide +kernel
theorem d_La_law_468 : decode b_La_law 468 = .ok (.goto 261, 3) := by decide +kernel
theorem d_La_law_471 : decode b_La_law 471 = .ok (.aload_n 1, 1) := by decide +kernel
theorem d_La_law_472 : decode b_La_law 472 = .ok (.aload_n 0, 1) := by decide +kernel
theorem d_La_law_473 : decode b_La_law 473 = .ok (.iload 4, 2) := by decide +kernel
theorem d_La_law_475 : decode b_La_law 475 = .ok (.iconst 1, 1) := by decide +kernel
theorem d_La_law_476 : decode b_La_law 476 = .ok (.iadd, 1) := by decide +kernel
theorem d_La_law_477 : decode b_La_law 477 = .ok (.iaload, 1) := by decide +kernel
theorem d_La_law_478 : decode b_La_law 478 = .ok (.aload_n 0, 1) := by decide +kernel
theorem d_La_law_479 : decode b_La_law 479 = .ok (.iload 4, 2) := by decide +kernel
theorem d_La_law_481 : decode b_La_law 481 = .ok (.iconst 2, 1) := by decide +kernel
theorem d_La_law_482 : decode b_La_law 482 = .ok (.iadd, 1) := by decide +kernel
theorem d_La_law_483 : decode b_La_law 483 = .ok (.iaload, 1) := by decide +kernel
theorem d_La_law_484 : decode b_La_law 484 = .ok (.aload_n 3, 1) := by decide +kernel
theorem d_La_law_485 : decode b_La_law 485 = .ok (.invokestatic 82, 3) := by decide +kernel
theorem d_La_law_488 : decode b_La_law 488 = .ok (.istore 5, 2) := by decide +kernel
theorem d_La_law_490 : decode b_La_law 490 = .ok (.aload_n 2, 1) := by decide +kernel
theorem d_La_law_491 : decode b_La_law 491 = .ok (.aload_n 0, 1) := by decide +kernel
theorem d_La_law_492 : decode b_La_law 492 = .ok (.iload 4, 2) := by decide +kernel
theorem d_La_law_494 : decode b_La_law 494 = .ok (.iconst 1, 1) := by decide +kernel
theorem d_La_law_495 : decode b_La_law 495 = .ok (.iadd, 1) := by decide +kernel
theorem d_La_law_496 : decode b_La_law 496 = .ok (.iaload, 1) := by decide +kernel
theorem d_La_law_497 : decode b_La_law 497 = .ok (.aload_n 0, 1) := by decide +kernel
theorem d_La_law_498 : decode b_La_law 498 = .ok (.iload 4, 2) := by decide +kernel
theorem d_La_law_500 : decode b_La_law 500 = .ok (.iconst 2, 1) := by decide +kernel
theorem d_La_law_501 : decode b_La_law 501 = .ok (.iadd, 1) := by decide +kernel
theorem d_La_law_502 : decode b_La_law 502 = .ok (.iaload, 1) := by decide +kernel
theorem d_La_law_503 : decode b_La_law 503 = .ok (.invokevirtual 84, 3) := by decide +kernel
theorem d_La_law_506 : decode b_La_law 506 = .ok (.istore 6, 2) := by decide +kernel
theorem d_La_law_508 : decode b_La_law 508 = .ok (.aload_n 2, 1) := by decide +kernel
theorem d_La_law_509 : decode b_La_law 509 = .ok (.invokevirtual 62, 3) := by decide +kernel
theorem d_La_law_512 : decode b_La_law 512 = .ok (.iload 5, 2) := by decide +kernel
theorem d_La_law_514 : decode b_La_law 514 = .ok (.if_icmp .eq 5, 3) := by decide +kernel
theorem d_La_law_517 : decode b_La_law 517 = .ok (.iconst 0, 1) := by decide +kernel
theorem d_La_law_518 : decode b_La_law 518 = .ok (.ireturn, 1) := by decide +kernel
theorem d_La_law_519 : decode b_La_law 519 = .ok (.iload 5, 2) := by decide +kernel
theorem d_La_law_521 : decode b_La_law 521 = .ok (.ifCond .ne 15, 3) := by decide +kernel
theorem d_La_law_524 : decode b_La_law 524 = .ok (.aload_n 3, 1) := by decide +kernel
theorem d_La_law_525 : decode b_La_law 525 = .ok (.iconst 0, 1) := by decide +kernel
theorem d_La_law_526 : decode b_La_law 526 = .ok (.laload, 1) := by decide +kernel
theorem d_La_law_527 : decode b_La_law 527 = .ok (.iload 6, 2) := by decide +kernel
theorem d_La_law_529 : decode b_La_law 529 = .ok (.i2l, 1) := by decide +kernel
theorem d_La_law_530 : decode b_La_law 530 = .ok (.lcmp, 1) := by decide +kernel
theorem d_La_law_531 : decode b_La_law 531 = .ok (.ifCond .eq 5, 3) := by decide +kernel
theorem d_La_law_534 : decode b_La_law 534 = .ok (.iconst 0, 1) := by decide +kernel
theorem d_La_law_535 : decode b_La_law 535 = .ok (.ireturn, 1) := by decide +kernel
theorem d_La_law_536 : decode b_La_law 536 = .ok (.goto 193, 3) := by decide +kernel
theorem d_La_law_539 : decode b_La_law 539 = .ok (.aload_n 1, 1) := by decide +kernel
theorem d_La_law_540 : decode b_La_law 540 = .ok (.aload_n 0, 1) := by decide +kernel
theorem d_La_law_541 : decode b_La_law 541 = .ok (.iload 4, 2) := by decide +kernel
theorem d_La_law_543 : decode b_La_law 543 = .ok (.iconst 1, 1) := by decide +kernel
theorem d_La_law_544 : decode b_La_law 544 = .ok (.iadd, 1) := by decide +kernel
theorem d_La_law_545 : decode b_La_law 545 = .ok (.iaload, 1) := by decide +kernel
theorem d_La_law_546 : decode b_La_law 546 = .ok (.aload_n 3, 1) := by decide +kernel
theorem d_La_law_547 : decode b_La_law 547 = .ok (.invokestatic 85, 3) := by decide +kernel
theorem d_La_law_550 : decode b_La_law 550 = .ok (.istore 5, 2) := by decide +kernel
theorem d_La_law_552 : decode b_La_law 552 = .ok (.aload_n 2, 1) := by decide +kernel
theorem d_La_law_553 : decode b_La_law 553 = .ok (.aload_n 0, 1) := by decide +kernel
theorem d_La_law_554 : decode b_La_law 554 = .ok (.iload 4, 2) := by decide +kernel
theorem d_La_law_556 : decode b_La_law 556 = .ok (.iconst 1, 1) := by decide +kernel
theorem d_La_law_557 : decode b_La_law 557 = .ok (.iadd, 1) := by decide +kernel
theorem d_La_law_558 : decode b_La_law 558 = .ok (.iaload, 1) := by decide +kernel
theorem d_La_law_559 : decode b_La_law 559 = .ok (.invokevirtual 87, 3) := by decide +kernel
theorem d_La_law_562 : decode b_La_law 562 = .ok (.istore 6, 2) := by decide +kernel
theorem d_La_law_564 : decode b_La_law 564 = .ok (.aload_n 2, 1) := by decide +kernel
theorem d_La_law_565 : decode b_La_law 565 = .ok (.invokevirtual 62, 3) := by decide +kernel
theorem d_La_law_568 : decode b_La_law 568 = .ok (.iload 5, 2) := by decide +kernel
theorem d_La_law_570 : decode b_La_law 570 = .ok (.if_icmp .eq 5, 3) := by decide +kernel
theorem d_La_law_573 : decode b_La_law 573 = .ok (.iconst 0, 1) := by decide +kernel
theorem d_La_law_574 : decode b_La_law 574 = .ok (.ireturn, 1) := by decide +kernel
theorem d_La_law_575 : decode b_La_law 575 = .ok (.iload 5, 2) := by decide +kernel
theorem d_La_law_577 : decode b_La_law 577 = .ok (.ifCond .ne 15, 3) := by decide +kernel
theorem d_La_law_580 : decode b_La_law 580 = .ok (.aload_n 3, 1) := by decide +kernel
theorem d_La_law_581 : decode b_La_law 581 = .ok (.iconst 0, 1) := by decide +kernel
theorem d_La_law_582 : decode b_La_law 582 = .ok (.laload, 1) := by decide +kernel
theorem d_La_law_583 : decode b_La_law 583 = .ok (.iload 6, 2) := by decide +kernel
theorem d_La_law_585 : decode b_La_law 585 = .ok (.i2l, 1) := by decide +kernel
theorem d_La_law_586 : decode b_La_law 586 = .ok (.lcmp, 1) := by decide +kernel
