theorem d_La_law_587 : decode b_La_law 587 = .ok (.ifCond .eq 5, 3) := by decide +kernel
theorem d_La_law_590 : decode b_La_law 590 = .ok (.iconst 0, 1) := by decide +kernel
theorem d_La_law_591 : decode b_La_law 591 = .ok (.ireturn, 1) := by decide +kernel
theorem d_La_law_592 : decode b_La_law 592 = .ok (.goto 137, 3) := by decide +kernel
theorem d_La_law_595 : decode b_La_law 595 = .ok (.aload_n 1, 1) := by decide +kernel
theorem d_La_law_596 : decode b_La_law 596 = .ok (.aload_n 3, 1) := by decide +kernel
theorem d_La_law_597 : decode b_La_law 597 = .ok (.invokestatic 88, 3) := by decide +kernel
theorem d_La_law_600 : decode b_La_law 600 = .ok (.istore 5, 2) := by decide +kernel
theorem d_La_law_602 : decode b_La_law 602 = .ok (.aload_n 2, 1) := by decide +kernel
theorem d_La_law_603 : decode b_La_law 603 = .ok (.invokevirtual 90, 3) := by decide +kernel
theorem d_La_law_606 : decode b_La_law 606 = .ok (.istore 6, 2) := by decide +kernel
theorem d_La_law_608 : decode b_La_law 608 = .ok (.aload_n 2, 1) := by decide +kernel
theorem d_La_law_609 : decode b_La_law 609 = .ok (.invokevirtual 62, 3) := by decide +kernel
theorem d_La_law_612 : decode b_La_law 612 = .ok (.iload 5, 2) := by decide +kernel
theorem d_La_law_614 : decode b_La_law 614 = .ok (.if_icmp .eq 5, 3) := by decide +kernel
theorem d_La_law_617 : decode b_La_law 617 = .ok (.iconst 0, 1) := by decide +kernel
theorem d_La_law_618 : decode b_La_law 618 = .ok (.ireturn, 1) := by decide +kernel
theorem d_La_law_619 : decode b_La_law 619 = .ok (.iload 5, 2) := by decide +kernel
theorem d_La_law_621 : decode b_La_law 621 = .ok (.ifCond .ne 15, 3) := by decide +kernel
theorem d_La_law_624 : decode b_La_law 624 = .ok (.aload_n 3, 1) := by decide +kernel
theorem d_La_law_625 : decode b_La_law 625 = .ok (.iconst 0, 1) := by decide +kernel
theorem d_La_law_626 : decode b_La_law 626 = .ok (.laload, 1) := by decide +kernel
theorem d_La_law_627 : decode b_La_law 627 = .ok (.iload 6, 2) := by decide +kernel
theorem d_La_law_629 : decode b_La_law 629 = .ok (.i2l, 1) := by decide +kernel
theorem d_La_law_630 : decode b_La_law 630 = .ok (.lcmp, 1) := by decide +kernel
theorem d_La_law_631 : decode b_La_law 631 = .ok (.ifCond .eq 5, 3) := by decide +kernel
theorem d_La_law_634 : decode b_La_law 634 = .ok (.iconst 0, 1) := by decide +kernel
theorem d_La_law_635 : decode b_La_law 635 = .ok (.ireturn, 1) := by decide +kernel
theorem d_La_law_636 : decode b_La_law 636 = .ok (.goto 93, 3) := by decide +kernel
theorem d_La_law_639 : decode b_La_law 639 = .ok (.aload_n 1, 1) := by decide +kernel
theorem d_La_law_640 : decode b_La_law 640 = .ok (.aload_n 0, 1) := by decide +kernel
theorem d_La_law_641 : decode b_La_law 641 = .ok (.iload 4, 2) := by decide +kernel
theorem d_La_law_643 : decode b_La_law 643 = .ok (.iconst 1, 1) := by decide +kernel
theorem d_La_law_644 : decode b_La_law 644 = .ok (.iadd, 1) := by decide +kernel
theorem d_La_law_645 : decode b_La_law 645 = .ok (.iaload, 1) := by decide +kernel
theorem d_La_law_646 : decode b_La_law 646 = .ok (.invokevirtual 91, 3) := by decide +kernel
theorem d_La_law_649 : decode b_La_law 649 = .ok (.aload_n 2, 1) := by decide +kernel
theorem d_La_law_650 : decode b_La_law 650 = .ok (.aload_n 0, 1) := by decide +kernel
theorem d_La_law_651 : decode b_La_law 651 = .ok (.iload 4, 2) := by decide +kernel
theorem d_La_law_653 : decode b_La_law 653 = .ok (.iconst 1, 1) := by decide +kernel
theorem d_La_law_654 : decode b_La_law 654 = .ok (.iadd, 1) := by decide +kernel
theorem d_La_law_655 : decode b_La_law 655 = .ok (.iaload, 1) := by decide +kernel
theorem d_La_law_656 : decode b_La_law 656 = .ok (.invokevirtual 94, 3) := by decide +kernel
theorem d_La_law_659 : decode b_La_law 659 = .ok (.if_icmp .eq 70, 3) := by decide +kernel
theorem d_La_law_662 : decode b_La_law 662 = .ok (.iconst 0, 1) := by decide +kernel
theorem d_La_law_663 : decode b_La_law 663 = .ok (.ireturn, 1) := by decide +kernel
theorem d_La_law_664 : decode b_La_law 664 = .ok (.aload_n 1, 1) := by decide +kernel
theorem d_La_law_665 : decode b_La_law 665 = .ok (.aload_n 0, 1) := by decide +kernel
theorem d_La_law_666 : decode b_La_law 666 = .ok (.iload 4, 2) := by decide +kernel
theorem d_La_law_668 : decode b_La_law 668 = .ok (.iconst 1, 1) := by decide +kernel
theorem d_La_law_669 : decode b_La_law 669 = .ok (.iadd, 1) := by decide +kernel
theorem d_La_law_670 : decode b_La_law 670 = .ok (.iaload, 1) := by decide +kernel
theorem d_La_law_671 : decode b_La_law 671 = .ok (.ifCond .eq 7, 3) := by decide +kernel
theorem d_La_law_674 : decode b_La_law 674 = .ok (.iconst 1, 1) := by decide +kernel
theorem d_La_law_675 : decode b_La_law 675 = .ok (.goto 4, 3) := by decide +kernel
theorem d_La_law_678 : decode b_La_law 678 = .ok (.iconst 0, 1) := by decide +kernel
theorem d_La_law_679 : decode b_La_law 679 = .ok (.invokevirtual 95, 3) := by decide +kernel
theorem d_La_law_682 : decode b_La_law 682 = .ok (.aload_n 2, 1) := by decide +kernel
theorem d_La_law_683 : decode b_La_law 683 = .ok (.aload_n 0, 1) := by decide +kernel
theorem d_La_law_684 : decode b_La_law 684 = .ok (.iload 4, 2) := by decide +kernel
theorem d_La_law_686 : decode b_La_law 686 = .ok (.iconst 1, 1) := by decide +kernel
theorem d_La_law_687 : decode b_La_law 687 = .ok (.iadd, 1) := by decide +kernel
theorem d_La_law_688 : decode b_La_law 688 = .ok (.iaload, 1) := by decide +kernel
theorem d_La_law_689 : decode b_La_law 689 = .ok (.ifCond .eq 7, 3) := by decide +kernel
theorem d_La_law_692 : decode b_La_law 692 = .ok (.iconst 1, 1) := by decide +kernel
theorem d_La_law_693 : decode b_La_law 693 = .ok (.goto 4, 3) := by decide +kernel
theorem d_La_law_696 : decode b_La_law 696 = .ok (.iconst 0, 1) := by decide +kernel
theorem d_La_law_697 : decode b_La_law 697 = .ok (.invokevirtual 99, 3) := by decide +kernel
theorem d_La_law_700 : decode b_La_law 700 = .ok (.if_icmp .eq 29, 3) := by decide +kernel
theorem d_La_law_703 : decode b_La_law 703 = .ok (.iconst 0, 1) := by decide +kernel
theorem d_La_law_704 : decode b_La_law 704 = .ok (.ireturn, 1) := by decide +kernel
theorem d_La_law_705 : decode b_La_law 705 = .ok (.aload_n 1, 1) := by decide +kernel
theorem d_La_law_706 : decode b_La_law 706 = .ok (.invokevirtual 100, 3) := by decide +kernel
theorem d_La_law_709 : decode b_La_law 709 = .ok (.aload_n 2, 1) := by decide +kernel
theorem d_La_law_710 : decode b_La_law 710 = .ok (.invokevirtual 103, 3) := by decide +kernel
theorem d_La_law_713 : decode b_La_law 713 = .ok (.if_icmp .eq 16, 3) := by decide +kernel
theorem d_La_law_716 : decode b_La_law 716 = .ok (.iconst 0, 1) := by decide +kernel
theorem d_La_law_717 : decode b_La_law 717 = .ok (.ireturn, 1) := by decide +kernel
theorem d_La_law_718 : decode b_La_law 718 = .ok (.aload_n 1, 1) := by decide +kernel
theorem d_La_law_719 : decode b_La_law 719 = .ok (.invokevirtual 104, 3) := by decide +kernel
theorem d_La_law_722 : decode b_La_law 722 = .ok (.aload_n 2, 1) := by decide +kernel
theorem d_La_law_723 : decode b_La_law 723 = .ok (.invokevirtual 107, 3) := by decide +kernel
theorem d_La_law_726 : decode b_La_law 726 = .ok (.goto 3, 3) := by decide +kernel
theorem d_La_law_729 : decode b_La_law 729 = .ok (.iinc 4 3, 3) := by decide +kernel
theorem d_La_law_732 : decode b_La_law 732 = .ok (.goto (-699), 3) := by decide +kernel
theorem d_La_law_735 : decode b_La_law 735 = .ok (.iconst 1, 1) := by decide +kernel
theorem d_La_law_736 : decode b_La_law 736 = .ok (.ireturn, 1) := by decide +kernel
