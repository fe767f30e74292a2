theorem d_M_init_356 : decode b_M_init 356 = .ok (.iastore, 1) := by decide +kernel
theorem d_M_init_357 : decode b_M_init 357 = .ok (.dup, 1) := by decide +kernel
theorem d_M_init_358 : decode b_M_init 358 = .ok (.bipush 6, 2) := by decide +kernel
theorem d_M_init_360 : decode b_M_init 360 = .ok (.bipush 7, 2) := by decide +kernel
theorem d_M_init_362 : decode b_M_init 362 = .ok (.iastore, 1) := by decide +kernel
theorem d_M_init_363 : decode b_M_init 363 = .ok (.dup, 1) := by decide +kernel
theorem d_M_init_364 : decode b_M_init 364 = .ok (.bipush 7, 2) := by decide +kernel
theorem d_M_init_366 : decode b_M_init 366 = .ok (.bipush 8, 2) := by decide +kernel
theorem d_M_init_368 : decode b_M_init 368 = .ok (.iastore, 1) := by decide +kernel
theorem d_M_init_369 : decode b_M_init 369 = .ok (.dup, 1) := by decide +kernel
theorem d_M_init_370 : decode b_M_init 370 = .ok (.bipush 8, 2) := by decide +kernel
theorem d_M_init_372 : decode b_M_init 372 = .ok (.bipush 9, 2) := by decide +kernel
theorem d_M_init_374 : decode b_M_init 374 = .ok (.iastore, 1) := by decide +kernel
theorem d_M_init_375 : decode b_M_init 375 = .ok (.dup, 1) := by decide +kernel
theorem d_M_init_376 : decode b_M_init 376 = .ok (.bipush 9, 2) := by decide +kernel
theorem d_M_init_378 : decode b_M_init 378 = .ok (.bipush 10, 2) := by decide +kernel
theorem d_M_init_380 : decode b_M_init 380 = .ok (.iastore, 1) := by decide +kernel
theorem d_M_init_381 : decode b_M_init 381 = .ok (.dup, 1) := by decide +kernel
theorem d_M_init_382 : decode b_M_init 382 = .ok (.bipush 10, 2) := by decide +kernel
theorem d_M_init_384 : decode b_M_init 384 = .ok (.bipush 11, 2) := by decide +kernel
theorem d_M_init_386 : decode b_M_init 386 = .ok (.iastore, 1) := by decide +kernel
theorem d_M_init_387 : decode b_M_init 387 = .ok (.dup, 1) := by decide +kernel
theorem d_M_init_388 : decode b_M_init 388 = .ok (.bipush 11, 2) := by decide +kernel
theorem d_M_init_390 : decode b_M_init 390 = .ok (.bipush 12, 2) := by decide +kernel
theorem d_M_init_392 : decode b_M_init 392 = .ok (.iastore, 1) := by decide +kernel
theorem d_M_init_393 : decode b_M_init 393 = .ok (.dup, 1) := by decide +kernel
theorem d_M_init_394 : decode b_M_init 394 = .ok (.bipush 12, 2) := by decide +kernel
theorem d_M_init_396 : decode b_M_init 396 = .ok (.bipush 13, 2) := by decide +kernel
theorem d_M_init_398 : decode b_M_init 398 = .ok (.iastore, 1) := by decide +kernel
theorem d_M_init_399 : decode b_M_init 399 = .ok (.dup, 1) := by decide +kernel
theorem d_M_init_400 : decode b_M_init 400 = .ok (.bipush 13, 2) := by decide +kernel
theorem d_M_init_402 : decode b_M_init 402 = .ok (.bipush 29, 2) := by decide +kernel
theorem d_M_init_404 : decode b_M_init 404 = .ok (.iastore, 1) := by decide +kernel
theorem d_M_init_405 : decode b_M_init 405 = .ok (.dup, 1) := by decide +kernel
theorem d_M_init_406 : decode b_M_init 406 = .ok (.bipush 14, 2) := by decide +kernel
theorem d_M_init_408 : decode b_M_init 408 = .ok (.bipush 15, 2) := by decide +kernel
theorem d_M_init_410 : decode b_M_init 410 = .ok (.iastore, 1) := by decide +kernel
theorem d_M_init_411 : decode b_M_init 411 = .ok (.dup, 1) := by decide +kernel
theorem d_M_init_412 : decode b_M_init 412 = .ok (.bipush 15, 2) := by decide +kernel
theorem d_M_init_414 : decode b_M_init 414 = .ok (.bipush 16, 2) := by decide +kernel
theorem d_M_init_416 : decode b_M_init 416 = .ok (.iastore, 1) := by decide +kernel
theorem d_M_init_417 : decode b_M_init 417 = .ok (.dup, 1) := by decide +kernel
theorem d_M_init_418 : decode b_M_init 418 = .ok (.bipush 16, 2) := by decide +kernel
theorem d_M_init_420 : decode b_M_init 420 = .ok (.bipush 17, 2) := by decide +kernel
theorem d_M_init_422 : decode b_M_init 422 = .ok (.iastore, 1) := by decide +kernel
theorem d_M_init_423 : decode b_M_init 423 = .ok (.dup, 1) := by decide +kernel
theorem d_M_init_424 : decode b_M_init 424 = .ok (.bipush 17, 2) := by decide +kernel
theorem d_M_init_426 : decode b_M_init 426 = .ok (.bipush 18, 2) := by decide +kernel
theorem d_M_init_428 : decode b_M_init 428 = .ok (.iastore, 1) := by decide +kernel
theorem d_M_init_429 : decode b_M_init 429 = .ok (.dup, 1) := by decide +kernel
theorem d_M_init_430 : decode b_M_init 430 = .ok (.bipush 18, 2) := by decide +kernel
theorem d_M_init_432 : decode b_M_init 432 = .ok (.bipush 19, 2) := by decide +kernel
theorem d_M_init_434 : decode b_M_init 434 = .ok (.iastore, 1) := by decide +kernel
theorem d_M_init_435 : decode b_M_init 435 = .ok (.dup, 1) := by decide +kernel
theorem d_M_init_436 : decode b_M_init 436 = .ok (.bipush 19, 2) := by decide +kernel
theorem d_M_init_438 : decode b_M_init 438 = .ok (.bipush 20, 2) := by decide +kernel
theorem d_M_init_440 : decode b_M_init 440 = .ok (.iastore, 1) := by decide +kernel
theorem d_M_init_441 : decode b_M_init 441 = .ok (.dup, 1) := by decide +kernel
theorem d_M_init_442 : decode b_M_init 442 = .ok (.bipush 20, 2) := by decide +kernel
theorem d_M_init_444 : decode b_M_init 444 = .ok (.bipush 21, 2) := by decide +kernel
theorem d_M_init_446 : decode b_M_init 446 = .ok (.iastore, 1) := by decide +kernel
theorem d_M_init_447 : decode b_M_init 447 = .ok (.dup, 1) := by decide +kernel
theorem d_M_init_448 : decode b_M_init 448 = .ok (.bipush 21, 2) := by decide +kernel
theorem d_M_init_450 : decode b_M_init 450 = .ok (.bipush 22, 2) := by decide +kernel
theorem d_M_init_452 : decode b_M_init 452 = .ok (.iastore, 1) := by decide +kernel
theorem d_M_init_453 : decode b_M_init 453 = .ok (.dup, 1) := by decide +kernel
theorem d_M_init_454 : decode b_M_init 454 = .ok (.bipush 22, 2) := by decide +kernel
theorem d_M_init_456 : decode b_M_init 456 = .ok (.bipush 23, 2) := by decide +kernel
theorem d_M_init_458 : decode b_M_init 458 = .ok (.iastore, 1) := by decide +kernel
theorem d_M_init_459 : decode b_M_init 459 = .ok (.dup, 1) := by decide +kernel
theorem d_M_init_460 : decode b_M_init 460 = .ok (.bipush 23, 2) := by decide +kernel
theorem d_M_init_462 : decode b_M_init 462 = .ok (.bipush 24, 2) := by decide +kernel
theorem d_M_init_464 : decode b_M_init 464 = .ok (.iastore, 1) := by decide +kernel
theorem d_M_init_465 : decode b_M_init 465 = .ok (.dup, 1) := by decide +kernel
theorem d_M_init_466 : decode b_M_init 466 = .ok (.bipush 24, 2) := by decide +kernel
theorem d_M_init_468 : decode b_M_init 468 = .ok (.bipush 25, 2) := by decide +kernel
theorem d_M_init_470 : decode b_M_init 470 = .ok (.iastore, 1) := by decide +kernel
theorem d_M_init_471 : decode b_M_init 471 = .ok (.dup, 1) := by decide +kernel
theorem d_M_init_472 : decode b_M_init 472 = .ok (.bipush 25, 2) := by decide +kernel
theorem d_M_init_474 : decode b_M_init 474 = .ok (.bipush 26, 2) := by decide +kernel
theorem d_M_init_476 : decode b_M_init 476 = .ok (.iastore, 1) := by decide +kernel
theorem d_M_init_477 : decode b_M_init 477 = .ok (.dup, 1) := by decide +kernel
theorem d_M_init_478 : decode b_M_init 478 = .ok (.bipush 26, 2) := by decide +kernel
theorem d_M_init_480 : decode b_M_init 480 = .ok (.bipush 27, 2) := by decide +kernel
theorem d_M_init_482 : decode b_M_init 482 = .ok (.iastore, 1) := by decide +kernel
theorem d_M_init_483 : decode b_M_init 483 = .ok (.dup, 1) := by decide +kernel
theorem d_M_init_484 : decode b_M_init 484 = .ok (.bipush 27, 2) := by decide +kernel
theorem d_M_init_486 : decode b_M_init 486 = .ok (.bipush 28, 2) := by decide +kernel
theorem d_M_init_488 : decode b_M_init 488 = .ok (.iastore, 1) := by decide +kernel
theorem d_M_init_489 : decode b_M_init 489 = .ok (.dup, 1) := by decide +kernel
theorem d_M_init_490 : decode b_M_init 490 = .ok (.bipush 28, 2) := by decide +kernel
theorem d_M_init_492 : decode b_M_init 492 = .ok (.bipush 29, 2) := by decide +kernel
theorem d_M_init_494 : decode b_M_init 494 = .ok (.iastore, 1) := by decide +kernel
theorem d_M_init_495 : decode b_M_init 495 = .ok (.dup, 1) := by decide +kernel
theorem d_M_init_496 : decode b_M_init 496 = .ok (.bipush 29, 2) := by decide +kernel
theorem d_M_init_498 : decode b_M_init 498 = .ok (.bipush 30, 2) := by decide +kernel
theorem d_M_init_500 : decode b_M_init 500 = .ok (.iastore, 1) := by decide +kernel
theorem d_M_init_501 : decode b_M_init 501 = .ok (.dup, 1) := by decide +kernel
theorem d_M_init_502 : decode b_M_init 502 = .ok (.bipush 30, 2) := by decide +kernel
theorem d_M_init_504 : decode b_M_init 504 = .ok (.bipush 31, 2) := by decide +kernel
theorem d_M_init_506 : decode b_M_init 506 = .ok (.iastore, 1) := by decide +kernel
theorem d_M_init_507 : decode b_M_init 507 = .ok (.dup, 1) := by decide +kernel
theorem d_M_init_508 : decode b_M_init 508 = .ok (.bipush 31, 2) := by decide +kernel
theorem d_M_init_510 : decode b_M_init 510 = .ok (.bipush 32, 2) := by decide +kernel
theorem d_M_init_512 : decode b_M_init 512 = .ok (.iastore, 1) := by decide +kernel
theorem d_M_init_513 : decode b_M_init 513 = .ok (.dup, 1) := by decide +kernel
theorem d_M_init_514 : decode b_M_init 514 = .ok (.bipush 32, 2) := by decide +kernel
theorem d_M_init_516 : decode b_M_init 516 = .ok (.bipush 33, 2) := by decide +kernel
theorem d_M_init_518 : decode b_M_init 518 = .ok (.iastore, 1) := by decide +kernel
theorem d_M_init_519 : decode b_M_init 519 = .ok (.dup, 1) := by decide +kernel
