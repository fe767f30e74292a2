theorem d_M_init_845 : decode b_M_init 845 = .ok (.bipush 40, 2) := by decide +kernel
theorem d_M_init_847 : decode b_M_init 847 = .ok (.bipush 38, 2) := by decide +kernel
theorem d_M_init_849 : decode b_M_init 849 = .ok (.iastore, 1) := by decide +kernel
theorem d_M_init_850 : decode b_M_init 850 = .ok (.dup, 1) := by decide +kernel
theorem d_M_init_851 : decode b_M_init 851 = .ok (.bipush 41, 2) := by decide +kernel
theorem d_M_init_853 : decode b_M_init 853 = .ok (.bipush 39, 2) := by decide +kernel
theorem d_M_init_855 : decode b_M_init 855 = .ok (.iastore, 1) := by decide +kernel
theorem d_M_init_856 : decode b_M_init 856 = .ok (.dup, 1) := by decide +kernel
theorem d_M_init_857 : decode b_M_init 857 = .ok (.bipush 42, 2) := by decide +kernel
theorem d_M_init_859 : decode b_M_init 859 = .ok (.bipush 40, 2) := by decide +kernel
theorem d_M_init_861 : decode b_M_init 861 = .ok (.iastore, 1) := by decide +kernel
theorem d_M_init_862 : decode b_M_init 862 = .ok (.dup, 1) := by decide +kernel
theorem d_M_init_863 : decode b_M_init 863 = .ok (.bipush 43, 2) := by decide +kernel
theorem d_M_init_865 : decode b_M_init 865 = .ok (.bipush 41, 2) := by decide +kernel
theorem d_M_init_867 : decode b_M_init 867 = .ok (.iastore, 1) := by decide +kernel
theorem d_M_init_868 : decode b_M_init 868 = .ok (.dup, 1) := by decide +kernel
theorem d_M_init_869 : decode b_M_init 869 = .ok (.bipush 44, 2) := by decide +kernel
theorem d_M_init_871 : decode b_M_init 871 = .ok (.bipush 42, 2) := by decide +kernel
theorem d_M_init_873 : decode b_M_init 873 = .ok (.iastore, 1) := by decide +kernel
theorem d_M_init_874 : decode b_M_init 874 = .ok (.dup, 1) := by decide +kernel
theorem d_M_init_875 : decode b_M_init 875 = .ok (.bipush 45, 2) := by decide +kernel
theorem d_M_init_877 : decode b_M_init 877 = .ok (.bipush 43, 2) := by decide +kernel
theorem d_M_init_879 : decode b_M_init 879 = .ok (.iastore, 1) := by decide +kernel
theorem d_M_init_880 : decode b_M_init 880 = .ok (.dup, 1) := by decide +kernel
theorem d_M_init_881 : decode b_M_init 881 = .ok (.bipush 46, 2) := by decide +kernel
theorem d_M_init_883 : decode b_M_init 883 = .ok (.bipush 46, 2) := by decide +kernel
theorem d_M_init_885 : decode b_M_init 885 = .ok (.iastore, 1) := by decide +kernel
theorem d_M_init_886 : decode b_M_init 886 = .ok (.putfield 16, 3) := by decide +kernel
theorem d_M_init_889 : decode b_M_init 889 = .ok (.aload_n 0, 1) := by decide +kernel
theorem d_M_init_890 : decode b_M_init 890 = .ok (.ldc 19, 2) := by decide +kernel
theorem d_M_init_892 : decode b_M_init 892 = .ok (.newarray .int, 2) := by decide +kernel
theorem d_M_init_894 : decode b_M_init 894 = .ok (.putfield 20, 3) := by decide +kernel
theorem d_M_init_897 : decode b_M_init 897 = .ok (.aload_n 0, 1) := by decide +kernel
theorem d_M_init_898 : decode b_M_init 898 = .ok (.ldc 23, 2) := by decide +kernel
theorem d_M_init_900 : decode b_M_init 900 = .ok (.newarray .int, 2) := by decide +kernel
theorem d_M_init_902 : decode b_M_init 902 = .ok (.putfield 24, 3) := by decide +kernel
theorem d_M_init_905 : decode b_M_init 905 = .ok (.aload_n 0, 1) := by decide +kernel
theorem d_M_init_906 : decode b_M_init 906 = .ok (.sipush 1100, 3) := by decide +kernel
theorem d_M_init_909 : decode b_M_init 909 = .ok (.newarray .int, 2) := by decide +kernel
theorem d_M_init_911 : decode b_M_init 911 = .ok (.putfield 27, 3) := by decide +kernel
theorem d_M_init_914 : decode b_M_init 914 = .ok (.aload_n 0, 1) := by decide +kernel
theorem d_M_init_915 : decode b_M_init 915 = .ok (.sipush 1100, 3) := by decide +kernel
theorem d_M_init_918 : decode b_M_init 918 = .ok (.newarray .boolean, 2) := by decide +kernel
theorem d_M_init_920 : decode b_M_init 920 = .ok (.putfield 30, 3) := by decide +kernel
theorem d_M_init_923 : decode b_M_init 923 = .ok (.aload_n 0, 1) := by decide +kernel
theorem d_M_init_924 : decode b_M_init 924 = .ok (.ldc 34, 2) := by decide +kernel
theorem d_M_init_926 : decode b_M_init 926 = .ok (.newarray .int, 2) := by decide +kernel
theorem d_M_init_928 : decode b_M_init 928 = .ok (.putfield 35, 3) := by decide +kernel
theorem d_M_init_931 : decode b_M_init 931 = .ok (.aload_n 0, 1) := by decide +kernel
theorem d_M_init_932 : decode b_M_init 932 = .ok (.iload_n 1, 1) := by decide +kernel
theorem d_M_init_933 : decode b_M_init 933 = .ok (.iconst 1, 1) := by decide +kernel
theorem d_M_init_934 : decode b_M_init 934 = .ok (.if_icmp .ge 7, 3) := by decide +kernel
theorem d_M_init_937 : decode b_M_init 937 = .ok (.iconst 1, 1) := by decide +kernel
theorem d_M_init_938 : decode b_M_init 938 = .ok (.goto 15, 3) := by decide +kernel
theorem d_M_init_941 : decode b_M_init 941 = .ok (.iload_n 1, 1) := by decide +kernel
theorem d_M_init_942 : decode b_M_init 942 = .ok (.ldc 38, 2) := by decide +kernel
theorem d_M_init_944 : decode b_M_init 944 = .ok (.if_icmp .le 8, 3) := by decide +kernel
theorem d_M_init_947 : decode b_M_init 947 = .ok (.ldc 38, 2) := by decide +kernel
theorem d_M_init_949 : decode b_M_init 949 = .ok (.goto 4, 3) := by decide +kernel
theorem d_M_init_952 : decode b_M_init 952 = .ok (.iload_n 1, 1) := by decide +kernel
theorem d_M_init_953 : decode b_M_init 953 = .ok (.putfield 39, 3) := by decide +kernel
theorem d_M_init_956 : decode b_M_init 956 = .ok (.aload_n 0, 1) := by decide +kernel
theorem d_M_init_957 : decode b_M_init 957 = .ok (.iconst 0, 1) := by decide +kernel
theorem d_M_init_958 : decode b_M_init 958 = .ok (.invokevirtual 43, 3) := by decide +kernel
theorem d_M_init_961 : decode b_M_init 961 = .ok (.return_, 1) := by decide +kernel
