theorem d_M_init_520 : decode b_M_init 520 = .ok (.bipush 33, 2) := by decide +kernel
theorem d_M_init_522 : decode b_M_init 522 = .ok (.bipush 34, 2) := by decide +kernel
theorem d_M_init_524 : decode b_M_init 524 = .ok (.iastore, 1) := by decide +kernel
theorem d_M_init_525 : decode b_M_init 525 = .ok (.dup, 1) := by decide +kernel
theorem d_M_init_526 : decode b_M_init 526 = .ok (.bipush 34, 2) := by decide +kernel
theorem d_M_init_528 : decode b_M_init 528 = .ok (.bipush 35, 2) := by decide +kernel
theorem d_M_init_530 : decode b_M_init 530 = .ok (.iastore, 1) := by decide +kernel
theorem d_M_init_531 : decode b_M_init 531 = .ok (.dup, 1) := by decide +kernel
theorem d_M_init_532 : decode b_M_init 532 = .ok (.bipush 35, 2) := by decide +kernel
theorem d_M_init_534 : decode b_M_init 534 = .ok (.bipush 36, 2) := by decide +kernel
theorem d_M_init_536 : decode b_M_init 536 = .ok (.iastore, 1) := by decide +kernel
theorem d_M_init_537 : decode b_M_init 537 = .ok (.dup, 1) := by decide +kernel
theorem d_M_init_538 : decode b_M_init 538 = .ok (.bipush 36, 2) := by decide +kernel
theorem d_M_init_540 : decode b_M_init 540 = .ok (.bipush 37, 2) := by decide +kernel
theorem d_M_init_542 : decode b_M_init 542 = .ok (.iastore, 1) := by decide +kernel
theorem d_M_init_543 : decode b_M_init 543 = .ok (.dup, 1) := by decide +kernel
theorem d_M_init_544 : decode b_M_init 544 = .ok (.bipush 37, 2) := by decide +kernel
theorem d_M_init_546 : decode b_M_init 546 = .ok (.bipush 38, 2) := by decide +kernel
theorem d_M_init_548 : decode b_M_init 548 = .ok (.iastore, 1) := by decide +kernel
theorem d_M_init_549 : decode b_M_init 549 = .ok (.dup, 1) := by decide +kernel
theorem d_M_init_550 : decode b_M_init 550 = .ok (.bipush 38, 2) := by decide +kernel
theorem d_M_init_552 : decode b_M_init 552 = .ok (.bipush 39, 2) := by decide +kernel
theorem d_M_init_554 : decode b_M_init 554 = .ok (.iastore, 1) := by decide +kernel
theorem d_M_init_555 : decode b_M_init 555 = .ok (.dup, 1) := by decide +kernel
theorem d_M_init_556 : decode b_M_init 556 = .ok (.bipush 39, 2) := by decide +kernel
theorem d_M_init_558 : decode b_M_init 558 = .ok (.bipush 40, 2) := by decide +kernel
theorem d_M_init_560 : decode b_M_init 560 = .ok (.iastore, 1) := by decide +kernel
theorem d_M_init_561 : decode b_M_init 561 = .ok (.dup, 1) := by decide +kernel
theorem d_M_init_562 : decode b_M_init 562 = .ok (.bipush 40, 2) := by decide +kernel
theorem d_M_init_564 : decode b_M_init 564 = .ok (.bipush 41, 2) := by decide +kernel
theorem d_M_init_566 : decode b_M_init 566 = .ok (.iastore, 1) := by decide +kernel
theorem d_M_init_567 : decode b_M_init 567 = .ok (.dup, 1) := by decide +kernel
theorem d_M_init_568 : decode b_M_init 568 = .ok (.bipush 41, 2) := by decide +kernel
theorem d_M_init_570 : decode b_M_init 570 = .ok (.bipush 42, 2) := by decide +kernel
theorem d_M_init_572 : decode b_M_init 572 = .ok (.iastore, 1) := by decide +kernel
theorem d_M_init_573 : decode b_M_init 573 = .ok (.dup, 1) := by decide +kernel
theorem d_M_init_574 : decode b_M_init 574 = .ok (.bipush 42, 2) := by decide +kernel
theorem d_M_init_576 : decode b_M_init 576 = .ok (.bipush 43, 2) := by decide +kernel
theorem d_M_init_578 : decode b_M_init 578 = .ok (.iastore, 1) := by decide +kernel
theorem d_M_init_579 : decode b_M_init 579 = .ok (.dup, 1) := by decide +kernel
theorem d_M_init_580 : decode b_M_init 580 = .ok (.bipush 43, 2) := by decide +kernel
theorem d_M_init_582 : decode b_M_init 582 = .ok (.bipush 44, 2) := by decide +kernel
theorem d_M_init_584 : decode b_M_init 584 = .ok (.iastore, 1) := by decide +kernel
theorem d_M_init_585 : decode b_M_init 585 = .ok (.dup, 1) := by decide +kernel
theorem d_M_init_586 : decode b_M_init 586 = .ok (.bipush 44, 2) := by decide +kernel
theorem d_M_init_588 : decode b_M_init 588 = .ok (.bipush 45, 2) := by decide +kernel
theorem d_M_init_590 : decode b_M_init 590 = .ok (.iastore, 1) := by decide +kernel
theorem d_M_init_591 : decode b_M_init 591 = .ok (.dup, 1) := by decide +kernel
theorem d_M_init_592 : decode b_M_init 592 = .ok (.bipush 45, 2) := by decide +kernel
theorem d_M_init_594 : decode b_M_init 594 = .ok (.bipush 45, 2) := by decide +kernel
theorem d_M_init_596 : decode b_M_init 596 = .ok (.iastore, 1) := by decide +kernel
theorem d_M_init_597 : decode b_M_init 597 = .ok (.dup, 1) := by decide +kernel
theorem d_M_init_598 : decode b_M_init 598 = .ok (.bipush 46, 2) := by decide +kernel
theorem d_M_init_600 : decode b_M_init 600 = .ok (.bipush 46, 2) := by decide +kernel
theorem d_M_init_602 : decode b_M_init 602 = .ok (.iastore, 1) := by decide +kernel
theorem d_M_init_603 : decode b_M_init 603 = .ok (.putfield 13, 3) := by decide +kernel
theorem d_M_init_606 : decode b_M_init 606 = .ok (.aload_n 0, 1) := by decide +kernel
theorem d_M_init_607 : decode b_M_init 607 = .ok (.bipush 47, 2) := by decide +kernel
theorem d_M_init_609 : decode b_M_init 609 = .ok (.newarray .int, 2) := by decide +kernel
theorem d_M_init_611 : decode b_M_init 611 = .ok (.dup, 1) := by decide +kernel
theorem d_M_init_612 : decode b_M_init 612 = .ok (.iconst 0, 1) := by decide +kernel
theorem d_M_init_613 : decode b_M_init 613 = .ok (.iconst 1, 1) := by decide +kernel
theorem d_M_init_614 : decode b_M_init 614 = .ok (.iastore, 1) := by decide +kernel
theorem d_M_init_615 : decode b_M_init 615 = .ok (.dup, 1) := by decide +kernel
theorem d_M_init_616 : decode b_M_init 616 = .ok (.iconst 1, 1) := by decide +kernel
theorem d_M_init_617 : decode b_M_init 617 = .ok (.bipush 6, 2) := by decide +kernel
theorem d_M_init_619 : decode b_M_init 619 = .ok (.iastore, 1) := by decide +kernel
theorem d_M_init_620 : decode b_M_init 620 = .ok (.dup, 1) := by decide +kernel
theorem d_M_init_621 : decode b_M_init 621 = .ok (.iconst 2, 1) := by decide +kernel
theorem d_M_init_622 : decode b_M_init 622 = .ok (.bipush 9, 2) := by decide +kernel
theorem d_M_init_624 : decode b_M_init 624 = .ok (.iastore, 1) := by decide +kernel
theorem d_M_init_625 : decode b_M_init 625 = .ok (.dup, 1) := by decide +kernel
theorem d_M_init_626 : decode b_M_init 626 = .ok (.iconst 3, 1) := by decide +kernel
theorem d_M_init_627 : decode b_M_init 627 = .ok (.bipush 12, 2) := by decide +kernel
theorem d_M_init_629 : decode b_M_init 629 = .ok (.iastore, 1) := by decide +kernel
theorem d_M_init_630 : decode b_M_init 630 = .ok (.dup, 1) := by decide +kernel
theorem d_M_init_631 : decode b_M_init 631 = .ok (.iconst 4, 1) := by decide +kernel
theorem d_M_init_632 : decode b_M_init 632 = .ok (.bipush 29, 2) := by decide +kernel
theorem d_M_init_634 : decode b_M_init 634 = .ok (.iastore, 1) := by decide +kernel
theorem d_M_init_635 : decode b_M_init 635 = .ok (.dup, 1) := by decide +kernel
theorem d_M_init_636 : decode b_M_init 636 = .ok (.iconst 5, 1) := by decide +kernel
theorem d_M_init_637 : decode b_M_init 637 = .ok (.bipush 33, 2) := by decide +kernel
theorem d_M_init_639 : decode b_M_init 639 = .ok (.iastore, 1) := by decide +kernel
theorem d_M_init_640 : decode b_M_init 640 = .ok (.dup, 1) := by decide +kernel
theorem d_M_init_641 : decode b_M_init 641 = .ok (.bipush 6, 2) := by decide +kernel
theorem d_M_init_643 : decode b_M_init 643 = .ok (.bipush 6, 2) := by decide +kernel
theorem d_M_init_645 : decode b_M_init 645 = .ok (.iastore, 1) := by decide +kernel
theorem d_M_init_646 : decode b_M_init 646 = .ok (.dup, 1) := by decide +kernel
theorem d_M_init_647 : decode b_M_init 647 = .ok (.bipush 7, 2) := by decide +kernel
theorem d_M_init_649 : decode b_M_init 649 = .ok (.bipush 14, 2) := by decide +kernel
theorem d_M_init_651 : decode b_M_init 651 = .ok (.iastore, 1) := by decide +kernel
theorem d_M_init_652 : decode b_M_init 652 = .ok (.dup, 1) := by decide +kernel
theorem d_M_init_653 : decode b_M_init 653 = .ok (.bipush 8, 2) := by decide +kernel
theorem d_M_init_655 : decode b_M_init 655 = .ok (.bipush 14, 2) := by decide +kernel
theorem d_M_init_657 : decode b_M_init 657 = .ok (.iastore, 1) := by decide +kernel
theorem d_M_init_658 : decode b_M_init 658 = .ok (.dup, 1) := by decide +kernel
theorem d_M_init_659 : decode b_M_init 659 = .ok (.bipush 9, 2) := by decide +kernel
theorem d_M_init_661 : decode b_M_init 661 = .ok (.bipush 14, 2) := by decide +kernel
theorem d_M_init_663 : decode b_M_init 663 = .ok (.iastore, 1) := by decide +kernel
theorem d_M_init_664 : decode b_M_init 664 = .ok (.dup, 1) := by decide +kernel
theorem d_M_init_665 : decode b_M_init 665 = .ok (.bipush 10, 2) := by decide +kernel
theorem d_M_init_667 : decode b_M_init 667 = .ok (.bipush 17, 2) := by decide +kernel
theorem d_M_init_669 : decode b_M_init 669 = .ok (.iastore, 1) := by decide +kernel
theorem d_M_init_670 : decode b_M_init 670 = .ok (.dup, 1) := by decide +kernel
theorem d_M_init_671 : decode b_M_init 671 = .ok (.bipush 11, 2) := by decide +kernel
theorem d_M_init_673 : decode b_M_init 673 = .ok (.bipush 18, 2) := by decide +kernel
theorem d_M_init_675 : decode b_M_init 675 = .ok (.iastore, 1) := by decide +kernel
theorem d_M_init_676 : decode b_M_init 676 = .ok (.dup, 1) := by decide +kernel
theorem d_M_init_677 : decode b_M_init 677 = .ok (.bipush 12, 2) := by decide +kernel
theorem d_M_init_679 : decode b_M_init 679 = .ok (.bipush 20, 2) := by decide +kernel
