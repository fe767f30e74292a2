theorem d_M_init_681 : decode b_M_init 681 = .ok (.iastore, 1) := by decide +kernel
theorem d_M_init_682 : decode b_M_init 682 = .ok (.dup, 1) := by decide +kernel
theorem d_M_init_683 : decode b_M_init 683 = .ok (.bipush 13, 2) := by decide +kernel
theorem d_M_init_685 : decode b_M_init 685 = .ok (.bipush 21, 2) := by decide +kernel
theorem d_M_init_687 : decode b_M_init 687 = .ok (.iastore, 1) := by decide +kernel
theorem d_M_init_688 : decode b_M_init 688 = .ok (.dup, 1) := by decide +kernel
theorem d_M_init_689 : decode b_M_init 689 = .ok (.bipush 14, 2) := by decide +kernel
theorem d_M_init_691 : decode b_M_init 691 = .ok (.bipush 14, 2) := by decide +kernel
theorem d_M_init_693 : decode b_M_init 693 = .ok (.iastore, 1) := by decide +kernel
theorem d_M_init_694 : decode b_M_init 694 = .ok (.dup, 1) := by decide +kernel
theorem d_M_init_695 : decode b_M_init 695 = .ok (.bipush 15, 2) := by decide +kernel
theorem d_M_init_697 : decode b_M_init 697 = .ok (.bipush 14, 2) := by decide +kernel
theorem d_M_init_699 : decode b_M_init 699 = .ok (.iastore, 1) := by decide +kernel
theorem d_M_init_700 : decode b_M_init 700 = .ok (.dup, 1) := by decide +kernel
theorem d_M_init_701 : decode b_M_init 701 = .ok (.bipush 16, 2) := by decide +kernel
theorem d_M_init_703 : decode b_M_init 703 = .ok (.bipush 15, 2) := by decide +kernel
theorem d_M_init_705 : decode b_M_init 705 = .ok (.iastore, 1) := by decide +kernel
theorem d_M_init_706 : decode b_M_init 706 = .ok (.dup, 1) := by decide +kernel
theorem d_M_init_707 : decode b_M_init 707 = .ok (.bipush 17, 2) := by decide +kernel
theorem d_M_init_709 : decode b_M_init 709 = .ok (.bipush 16, 2) := by decide +kernel
theorem d_M_init_711 : decode b_M_init 711 = .ok (.iastore, 1) := by decide +kernel
theorem d_M_init_712 : decode b_M_init 712 = .ok (.dup, 1) := by decide +kernel
theorem d_M_init_713 : decode b_M_init 713 = .ok (.bipush 18, 2) := by decide +kernel
theorem d_M_init_715 : decode b_M_init 715 = .ok (.bipush 17, 2) := by decide +kernel
theorem d_M_init_717 : decode b_M_init 717 = .ok (.iastore, 1) := by decide +kernel
theorem d_M_init_718 : decode b_M_init 718 = .ok (.dup, 1) := by decide +kernel
theorem d_M_init_719 : decode b_M_init 719 = .ok (.bipush 19, 2) := by decide +kernel
theorem d_M_init_721 : decode b_M_init 721 = .ok (.bipush 18, 2) := by decide +kernel
theorem d_M_init_723 : decode b_M_init 723 = .ok (.iastore, 1) := by decide +kernel
theorem d_M_init_724 : decode b_M_init 724 = .ok (.dup, 1) := by decide +kernel
theorem d_M_init_725 : decode b_M_init 725 = .ok (.bipush 20, 2) := by decide +kernel
theorem d_M_init_727 : decode b_M_init 727 = .ok (.bipush 19, 2) := by decide +kernel
theorem d_M_init_729 : decode b_M_init 729 = .ok (.iastore, 1) := by decide +kernel
theorem d_M_init_730 : decode b_M_init 730 = .ok (.dup, 1) := by decide +kernel
theorem d_M_init_731 : decode b_M_init 731 = .ok (.bipush 21, 2) := by decide +kernel
theorem d_M_init_733 : decode b_M_init 733 = .ok (.bipush 19, 2) := by decide +kernel
theorem d_M_init_735 : decode b_M_init 735 = .ok (.iastore, 1) := by decide +kernel
theorem d_M_init_736 : decode b_M_init 736 = .ok (.dup, 1) := by decide +kernel
theorem d_M_init_737 : decode b_M_init 737 = .ok (.bipush 22, 2) := by decide +kernel
theorem d_M_init_739 : decode b_M_init 739 = .ok (.bipush 20, 2) := by decide +kernel
theorem d_M_init_741 : decode b_M_init 741 = .ok (.iastore, 1) := by decide +kernel
theorem d_M_init_742 : decode b_M_init 742 = .ok (.dup, 1) := by decide +kernel
theorem d_M_init_743 : decode b_M_init 743 = .ok (.bipush 23, 2) := by decide +kernel
theorem d_M_init_745 : decode b_M_init 745 = .ok (.bipush 21, 2) := by decide +kernel
theorem d_M_init_747 : decode b_M_init 747 = .ok (.iastore, 1) := by decide +kernel
theorem d_M_init_748 : decode b_M_init 748 = .ok (.dup, 1) := by decide +kernel
theorem d_M_init_749 : decode b_M_init 749 = .ok (.bipush 24, 2) := by decide +kernel
theorem d_M_init_751 : decode b_M_init 751 = .ok (.bipush 22, 2) := by decide +kernel
theorem d_M_init_753 : decode b_M_init 753 = .ok (.iastore, 1) := by decide +kernel
theorem d_M_init_754 : decode b_M_init 754 = .ok (.dup, 1) := by decide +kernel
theorem d_M_init_755 : decode b_M_init 755 = .ok (.bipush 25, 2) := by decide +kernel
theorem d_M_init_757 : decode b_M_init 757 = .ok (.bipush 23, 2) := by decide +kernel
theorem d_M_init_759 : decode b_M_init 759 = .ok (.iastore, 1) := by decide +kernel
theorem d_M_init_760 : decode b_M_init 760 = .ok (.dup, 1) := by decide +kernel
theorem d_M_init_761 : decode b_M_init 761 = .ok (.bipush 26, 2) := by decide +kernel
theorem d_M_init_763 : decode b_M_init 763 = .ok (.bipush 24, 2) := by decide +kernel
theorem d_M_init_765 : decode b_M_init 765 = .ok (.iastore, 1) := by decide +kernel
theorem d_M_init_766 : decode b_M_init 766 = .ok (.dup, 1) := by decide +kernel
theorem d_M_init_767 : decode b_M_init 767 = .ok (.bipush 27, 2) := by decide +kernel
theorem d_M_init_769 : decode b_M_init 769 = .ok (.bipush 25, 2) := by decide +kernel
theorem d_M_init_771 : decode b_M_init 771 = .ok (.iastore, 1) := by decide +kernel
theorem d_M_init_772 : decode b_M_init 772 = .ok (.dup, 1) := by decide +kernel
theorem d_M_init_773 : decode b_M_init 773 = .ok (.bipush 28, 2) := by decide +kernel
theorem d_M_init_775 : decode b_M_init 775 = .ok (.bipush 26, 2) := by decide +kernel
theorem d_M_init_777 : decode b_M_init 777 = .ok (.iastore, 1) := by decide +kernel
theorem d_M_init_778 : decode b_M_init 778 = .ok (.dup, 1) := by decide +kernel
theorem d_M_init_779 : decode b_M_init 779 = .ok (.bipush 29, 2) := by decide +kernel
theorem d_M_init_781 : decode b_M_init 781 = .ok (.bipush 27, 2) := by decide +kernel
theorem d_M_init_783 : decode b_M_init 783 = .ok (.iastore, 1) := by decide +kernel
theorem d_M_init_784 : decode b_M_init 784 = .ok (.dup, 1) := by decide +kernel
theorem d_M_init_785 : decode b_M_init 785 = .ok (.bipush 30, 2) := by decide +kernel
theorem d_M_init_787 : decode b_M_init 787 = .ok (.bipush 28, 2) := by decide +kernel
theorem d_M_init_789 : decode b_M_init 789 = .ok (.iastore, 1) := by decide +kernel
theorem d_M_init_790 : decode b_M_init 790 = .ok (.dup, 1) := by decide +kernel
theorem d_M_init_791 : decode b_M_init 791 = .ok (.bipush 31, 2) := by decide +kernel
theorem d_M_init_793 : decode b_M_init 793 = .ok (.bipush 29, 2) := by decide +kernel
theorem d_M_init_795 : decode b_M_init 795 = .ok (.iastore, 1) := by decide +kernel
theorem d_M_init_796 : decode b_M_init 796 = .ok (.dup, 1) := by decide +kernel
theorem d_M_init_797 : decode b_M_init 797 = .ok (.bipush 32, 2) := by decide +kernel
theorem d_M_init_799 : decode b_M_init 799 = .ok (.bipush 30, 2) := by decide +kernel
theorem d_M_init_801 : decode b_M_init 801 = .ok (.iastore, 1) := by decide +kernel
theorem d_M_init_802 : decode b_M_init 802 = .ok (.dup, 1) := by decide +kernel
theorem d_M_init_803 : decode b_M_init 803 = .ok (.bipush 33, 2) := by decide +kernel
theorem d_M_init_805 : decode b_M_init 805 = .ok (.bipush 31, 2) := by decide +kernel
theorem d_M_init_807 : decode b_M_init 807 = .ok (.iastore, 1) := by decide +kernel
theorem d_M_init_808 : decode b_M_init 808 = .ok (.dup, 1) := by decide +kernel
theorem d_M_init_809 : decode b_M_init 809 = .ok (.bipush 34, 2) := by decide +kernel
theorem d_M_init_811 : decode b_M_init 811 = .ok (.bipush 32, 2) := by decide +kernel
theorem d_M_init_813 : decode b_M_init 813 = .ok (.iastore, 1) := by decide +kernel
theorem d_M_init_814 : decode b_M_init 814 = .ok (.dup, 1) := by decide +kernel
theorem d_M_init_815 : decode b_M_init 815 = .ok (.bipush 35, 2) := by decide +kernel
theorem d_M_init_817 : decode b_M_init 817 = .ok (.bipush 33, 2) := by decide +kernel
theorem d_M_init_819 : decode b_M_init 819 = .ok (.iastore, 1) := by decide +kernel
theorem d_M_init_820 : decode b_M_init 820 = .ok (.dup, 1) := by decide +kernel
theorem d_M_init_821 : decode b_M_init 821 = .ok (.bipush 36, 2) := by decide +kernel
theorem d_M_init_823 : decode b_M_init 823 = .ok (.bipush 34, 2) := by decide +kernel
theorem d_M_init_825 : decode b_M_init 825 = .ok (.iastore, 1) := by decide +kernel
theorem d_M_init_826 : decode b_M_init 826 = .ok (.dup, 1) := by decide +kernel
theorem d_M_init_827 : decode b_M_init 827 = .ok (.bipush 37, 2) := by decide +kernel
theorem d_M_init_829 : decode b_M_init 829 = .ok (.bipush 35, 2) := by decide +kernel
theorem d_M_init_831 : decode b_M_init 831 = .ok (.iastore, 1) := by decide +kernel
theorem d_M_init_832 : decode b_M_init 832 = .ok (.dup, 1) := by decide +kernel
theorem d_M_init_833 : decode b_M_init 833 = .ok (.bipush 38, 2) := by decide +kernel
theorem d_M_init_835 : decode b_M_init 835 = .ok (.bipush 36, 2) := by decide +kernel
theorem d_M_init_837 : decode b_M_init 837 = .ok (.iastore, 1) := by decide +kernel
theorem d_M_init_838 : decode b_M_init 838 = .ok (.dup, 1) := by decide +kernel
theorem d_M_init_839 : decode b_M_init 839 = .ok (.bipush 39, 2) := by decide +kernel
theorem d_M_init_841 : decode b_M_init 841 = .ok (.bipush 37, 2) := by decide +kernel
theorem d_M_init_843 : decode b_M_init 843 = .ok (.iastore, 1) := by decide +kernel
theorem d_M_init_844 : decode b_M_init 844 = .ok (.dup, 1) := by decide +kernel
