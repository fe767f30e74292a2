theorem d_M_thrown_0 : decode b_M_thrown 0 = .ok (.aload_n 0, 1) := by decide +kernel
theorem d_M_thrown_1 : decode b_M_thrown 1 = .ok (.getfield 47, 3) := by decide +kernel
theorem d_M_thrown_4 : decode b_M_thrown 4 = .ok (.ireturn, 1) := by decide +kernel
theorem d_M_in_0 : decode b_M_in 0 = .ok (.iload_n 0, 1) := by decide +kernel
theorem d_M_in_1 : decode b_M_in 1 = .ok (.iload_n 1, 1) := by decide +kernel
theorem d_M_in_2 : decode b_M_in 2 = .ok (.if_icmp .lt 12, 3) := by decide +kernel
theorem d_M_in_5 : decode b_M_in 5 = .ok (.iload_n 0, 1) := by decide +kernel
theorem d_M_in_6 : decode b_M_in 6 = .ok (.iload_n 2, 1) := by decide +kernel
theorem d_M_in_7 : decode b_M_in 7 = .ok (.if_icmp .gt 7, 3) := by decide +kernel
theorem d_M_in_10 : decode b_M_in 10 = .ok (.iconst 1, 1) := by decide +kernel
theorem d_M_in_11 : decode b_M_in 11 = .ok (.goto 4, 3) := by decide +kernel
theorem d_M_in_14 : decode b_M_in 14 = .ok (.iconst 0, 1) := by decide +kernel
theorem d_M_in_15 : decode b_M_in 15 = .ok (.ireturn, 1) := by decide +kernel
theorem d_M_side_0 : decode b_M_side 0 = .ok (.aload_n 0, 1) := by decide +kernel
theorem d_M_side_1 : decode b_M_side 1 = .ok (.getfield 50, 3) := by decide +kernel
theorem d_M_side_4 : decode b_M_side 4 = .ok (.ifCond .eq 7, 3) := by decide +kernel
theorem d_M_side_7 : decode b_M_side 7 = .ok (.iconst 1, 1) := by decide +kernel
theorem d_M_side_8 : decode b_M_side 8 = .ok (.goto 4, 3) := by decide +kernel
theorem d_M_side_11 : decode b_M_side 11 = .ok (.iconst 0, 1) := by decide +kernel
theorem d_M_side_12 : decode b_M_side 12 = .ok (.ireturn, 1) := by decide +kernel
theorem d_M_placeOf_0 : decode b_M_placeOf 0 = .ok (.ldc 38, 2) := by decide +kernel
theorem d_M_placeOf_2 : decode b_M_placeOf 2 = .ok (.aload_n 0, 1) := by decide +kernel
theorem d_M_placeOf_3 : decode b_M_placeOf 3 = .ok (.invokevirtual 54, 3) := by decide +kernel
theorem d_M_placeOf_6 : decode b_M_placeOf 6 = .ok (.imul, 1) := by decide +kernel
theorem d_M_placeOf_7 : decode b_M_placeOf 7 = .ok (.iload_n 1, 1) := by decide +kernel
theorem d_M_placeOf_8 : decode b_M_placeOf 8 = .ok (.iadd, 1) := by decide +kernel
theorem d_M_placeOf_9 : decode b_M_placeOf 9 = .ok (.ireturn, 1) := by decide +kernel
theorem d_M_placeIn_0 : decode b_M_placeIn 0 = .ok (.ldc 58, 2) := by decide +kernel
theorem d_M_placeIn_2 : decode b_M_placeIn 2 = .ok (.sipush 512, 3) := by decide +kernel
theorem d_M_placeIn_5 : decode b_M_placeIn 5 = .ok (.bipush 8, 2) := by decide +kernel
theorem d_M_placeIn_7 : decode b_M_placeIn 7 = .ok (.aload_n 0, 1) := by decide +kernel
theorem d_M_placeIn_8 : decode b_M_placeIn 8 = .ok (.invokevirtual 54, 3) := by decide +kernel
theorem d_M_placeIn_11 : decode b_M_placeIn 11 = .ok (.imul, 1) := by decide +kernel
theorem d_M_placeIn_12 : decode b_M_placeIn 12 = .ok (.iload_n 1, 1) := by decide +kernel
theorem d_M_placeIn_13 : decode b_M_placeIn 13 = .ok (.iadd, 1) := by decide +kernel
theorem d_M_placeIn_14 : decode b_M_placeIn 14 = .ok (.imul, 1) := by decide +kernel
theorem d_M_placeIn_15 : decode b_M_placeIn 15 = .ok (.iadd, 1) := by decide +kernel
theorem d_M_placeIn_16 : decode b_M_placeIn 16 = .ok (.iload_n 2, 1) := by decide +kernel
theorem d_M_placeIn_17 : decode b_M_placeIn 17 = .ok (.iadd, 1) := by decide +kernel
theorem d_M_placeIn_18 : decode b_M_placeIn 18 = .ok (.ireturn, 1) := by decide +kernel
theorem d_M_sizeOf_0 : decode b_M_sizeOf 0 = .ok (.aload_n 0, 1) := by decide +kernel
theorem d_M_sizeOf_1 : decode b_M_sizeOf 1 = .ok (.getfield 7, 3) := by decide +kernel
theorem d_M_sizeOf_4 : decode b_M_sizeOf 4 = .ok (.aload_n 0, 1) := by decide +kernel
theorem d_M_sizeOf_5 : decode b_M_sizeOf 5 = .ok (.getfield 20, 3) := by decide +kernel
theorem d_M_sizeOf_8 : decode b_M_sizeOf 8 = .ok (.iload_n 1, 1) := by decide +kernel
theorem d_M_sizeOf_9 : decode b_M_sizeOf 9 = .ok (.iaload, 1) := by decide +kernel
theorem d_M_sizeOf_10 : decode b_M_sizeOf 10 = .ok (.iconst 2, 1) := by decide +kernel
theorem d_M_sizeOf_11 : decode b_M_sizeOf 11 = .ok (.idiv, 1) := by decide +kernel
theorem d_M_sizeOf_12 : decode b_M_sizeOf 12 = .ok (.iaload, 1) := by decide +kernel
theorem d_M_sizeOf_13 : decode b_M_sizeOf 13 = .ok (.ireturn, 1) := by decide +kernel
theorem d_M_learn_0 : decode b_M_learn 0 = .ok (.aload_n 0, 1) := by decide +kernel
theorem d_M_learn_1 : decode b_M_learn 1 = .ok (.getfield 20, 3) := by decide +kernel
theorem d_M_learn_4 : decode b_M_learn 4 = .ok (.iload_n 1, 1) := by decide +kernel
theorem d_M_learn_5 : decode b_M_learn 5 = .ok (.iaload, 1) := by decide +kernel
theorem d_M_learn_6 : decode b_M_learn 6 = .ok (.iconst 2, 1) := by decide +kernel
theorem d_M_learn_7 : decode b_M_learn 7 = .ok (.idiv, 1) := by decide +kernel
theorem d_M_learn_8 : decode b_M_learn 8 = .ok (.istore_n 3, 1) := by decide +kernel
theorem d_M_learn_9 : decode b_M_learn 9 = .ok (.aload_n 0, 1) := by decide +kernel
theorem d_M_learn_10 : decode b_M_learn 10 = .ok (.getfield 20, 3) := by decide +kernel
theorem d_M_learn_13 : decode b_M_learn 13 = .ok (.iload_n 1, 1) := by decide +kernel
theorem d_M_learn_14 : decode b_M_learn 14 = .ok (.iaload, 1) := by decide +kernel
theorem d_M_learn_15 : decode b_M_learn 15 = .ok (.iconst 2, 1) := by decide +kernel
theorem d_M_learn_16 : decode b_M_learn 16 = .ok (.irem, 1) := by decide +kernel
theorem d_M_learn_17 : decode b_M_learn 17 = .ok (.istore 4, 2) := by decide +kernel
theorem d_M_learn_19 : decode b_M_learn 19 = .ok (.iload_n 2, 1) := by decide +kernel
theorem d_M_learn_20 : decode b_M_learn 20 = .ok (.ifCond .eq 23, 3) := by decide +kernel
theorem d_M_learn_23 : decode b_M_learn 23 = .ok (.aload_n 0, 1) := by decide +kernel
theorem d_M_learn_24 : decode b_M_learn 24 = .ok (.getfield 20, 3) := by decide +kernel
theorem d_M_learn_27 : decode b_M_learn 27 = .ok (.iload_n 1, 1) := by decide +kernel
theorem d_M_learn_28 : decode b_M_learn 28 = .ok (.iconst 2, 1) := by decide +kernel
theorem d_M_learn_29 : decode b_M_learn 29 = .ok (.aload_n 0, 1) := by decide +kernel
theorem d_M_learn_30 : decode b_M_learn 30 = .ok (.getfield 13, 3) := by decide +kernel
theorem d_M_learn_33 : decode b_M_learn 33 = .ok (.iload_n 3, 1) := by decide +kernel
theorem d_M_learn_34 : decode b_M_learn 34 = .ok (.iaload, 1) := by decide +kernel
theorem d_M_learn_35 : decode b_M_learn 35 = .ok (.imul, 1) := by decide +kernel
theorem d_M_learn_36 : decode b_M_learn 36 = .ok (.iload 4, 2) := by decide +kernel
theorem d_M_learn_38 : decode b_M_learn 38 = .ok (.iadd, 1) := by decide +kernel
theorem d_M_learn_39 : decode b_M_learn 39 = .ok (.iastore, 1) := by decide +kernel
theorem d_M_learn_40 : decode b_M_learn 40 = .ok (.goto 55, 3) := by decide +kernel
theorem d_M_learn_43 : decode b_M_learn 43 = .ok (.iload_n 3, 1) := by decide +kernel
theorem d_M_learn_44 : decode b_M_learn 44 = .ok (.ifCond .eq 15, 3) := by decide +kernel
theorem d_M_learn_47 : decode b_M_learn 47 = .ok (.iload_n 3, 1) := by decide +kernel
theorem d_M_learn_48 : decode b_M_learn 48 = .ok (.bipush 6, 2) := by decide +kernel
theorem d_M_learn_50 : decode b_M_learn 50 = .ok (.if_icmp .eq 9, 3) := by decide +kernel
theorem d_M_learn_53 : decode b_M_learn 53 = .ok (.iload_n 3, 1) := by decide +kernel
theorem d_M_learn_54 : decode b_M_learn 54 = .ok (.bipush 14, 2) := by decide +kernel
theorem d_M_learn_56 : decode b_M_learn 56 = .ok (.if_icmp .ne 7, 3) := by decide +kernel
theorem d_M_learn_59 : decode b_M_learn 59 = .ok (.iconst 1, 1) := by decide +kernel
theorem d_M_learn_60 : decode b_M_learn 60 = .ok (.goto 4, 3) := by decide +kernel
theorem d_M_learn_63 : decode b_M_learn 63 = .ok (.iconst 0, 1) := by decide +kernel
theorem d_M_learn_64 : decode b_M_learn 64 = .ok (.istore 5, 2) := by decide +kernel
theorem d_M_learn_66 : decode b_M_learn 66 = .ok (.aload_n 0, 1) := by decide +kernel
theorem d_M_learn_67 : decode b_M_learn 67 = .ok (.getfield 20, 3) := by decide +kernel
theorem d_M_learn_70 : decode b_M_learn 70 = .ok (.iload_n 1, 1) := by decide +kernel
theorem d_M_learn_71 : decode b_M_learn 71 = .ok (.iconst 2, 1) := by decide +kernel
theorem d_M_learn_72 : decode b_M_learn 72 = .ok (.aload_n 0, 1) := by decide +kernel
theorem d_M_learn_73 : decode b_M_learn 73 = .ok (.getfield 16, 3) := by decide +kernel
theorem d_M_learn_76 : decode b_M_learn 76 = .ok (.iload_n 3, 1) := by decide +kernel
theorem d_M_learn_77 : decode b_M_learn 77 = .ok (.iaload, 1) := by decide +kernel
theorem d_M_learn_78 : decode b_M_learn 78 = .ok (.imul, 1) := by decide +kernel
theorem d_M_learn_79 : decode b_M_learn 79 = .ok (.iload 5, 2) := by decide +kernel
theorem d_M_learn_81 : decode b_M_learn 81 = .ok (.ifCond .eq 10, 3) := by decide +kernel
theorem d_M_learn_84 : decode b_M_learn 84 = .ok (.iconst 1, 1) := by decide +kernel
theorem d_M_learn_85 : decode b_M_learn 85 = .ok (.iload 4, 2) := by decide +kernel
theorem d_M_learn_87 : decode b_M_learn 87 = .ok (.isub, 1) := by decide +kernel
theorem d_M_learn_88 : decode b_M_learn 88 = .ok (.goto 5, 3) := by decide +kernel
theorem d_M_learn_91 : decode b_M_learn 91 = .ok (.iload 4, 2) := by decide +kernel
theorem d_M_learn_93 : decode b_M_learn 93 = .ok (.iadd, 1) := by decide +kernel
theorem d_M_learn_94 : decode b_M_learn 94 = .ok (.iastore, 1) := by decide +kernel
theorem d_M_learn_95 : decode b_M_learn 95 = .ok (.return_, 1) := by decide +kernel
theorem d_M_beginSegment_0 : decode b_M_beginSegment 0 = .ok (.aload_n 0, 1) := by decide +kernel
theorem d_M_beginSegment_1 : decode b_M_beginSegment 1 = .ok (.getfield 27, 3) := by decide +kernel
theorem d_M_beginSegment_4 : decode b_M_beginSegment 4 = .ok (.aload_n 0, 1) := by decide +kernel
theorem d_M_beginSegment_5 : decode b_M_beginSegment 5 = .ok (.getfield 59, 3) := by decide +kernel
theorem d_M_beginSegment_8 : decode b_M_beginSegment 8 = .ok (.aload_n 0, 1) := by decide +kernel
theorem d_M_beginSegment_9 : decode b_M_beginSegment 9 = .ok (.getfield 62, 3) := by decide +kernel
theorem d_M_beginSegment_12 : decode b_M_beginSegment 12 = .ok (.iastore, 1) := by decide +kernel
theorem d_M_beginSegment_13 : decode b_M_beginSegment 13 = .ok (.aload_n 0, 1) := by decide +kernel
theorem d_M_beginSegment_14 : decode b_M_beginSegment 14 = .ok (.getfield 30, 3) := by decide +kernel
theorem d_M_beginSegment_17 : decode b_M_beginSegment 17 = .ok (.aload_n 0, 1) := by decide +kernel
theorem d_M_beginSegment_18 : decode b_M_beginSegment 18 = .ok (.getfield 59, 3) := by decide +kernel
theorem d_M_beginSegment_21 : decode b_M_beginSegment 21 = .ok (.iload_n 1, 1) := by decide +kernel
theorem d_M_beginSegment_22 : decode b_M_beginSegment 22 = .ok (.bastore, 1) := by decide +kernel
theorem d_M_beginSegment_23 : decode b_M_beginSegment 23 = .ok (.aload_n 0, 1) := by decide +kernel
theorem d_M_beginSegment_24 : decode b_M_beginSegment 24 = .ok (.dup, 1) := by decide +kernel
theorem d_M_beginSegment_25 : decode b_M_beginSegment 25 = .ok (.getfield 59, 3) := by decide +kernel
theorem d_M_beginSegment_28 : decode b_M_beginSegment 28 = .ok (.iconst 1, 1) := by decide +kernel
theorem d_M_beginSegment_29 : decode b_M_beginSegment 29 = .ok (.iadd, 1) := by decide +kernel
theorem d_M_beginSegment_30 : decode b_M_beginSegment 30 = .ok (.putfield 59, 3) := by decide +kernel
theorem d_M_beginSegment_33 : decode b_M_beginSegment 33 = .ok (.aload_n 0, 1) := by decide +kernel
theorem d_M_beginSegment_34 : decode b_M_beginSegment 34 = .ok (.getfield 27, 3) := by decide +kernel
theorem d_M_beginSegment_37 : decode b_M_beginSegment 37 = .ok (.aload_n 0, 1) := by decide +kernel
theorem d_M_beginSegment_38 : decode b_M_beginSegment 38 = .ok (.getfield 59, 3) := by decide +kernel
theorem d_M_beginSegment_41 : decode b_M_beginSegment 41 = .ok (.aload_n 0, 1) := by decide +kernel
theorem d_M_beginSegment_42 : decode b_M_beginSegment 42 = .ok (.getfield 62, 3) := by decide +kernel
theorem d_M_beginSegment_45 : decode b_M_beginSegment 45 = .ok (.iastore, 1) := by decide +kernel
theorem d_M_beginSegment_46 : decode b_M_beginSegment 46 = .ok (.aload_n 0, 1) := by decide +kernel
theorem d_M_beginSegment_47 : decode b_M_beginSegment 47 = .ok (.ldc 65, 2) := by decide +kernel
theorem d_M_beginSegment_49 : decode b_M_beginSegment 49 = .ok (.putfield 66, 3) := by decide +kernel
theorem d_M_beginSegment_52 : decode b_M_beginSegment 52 = .ok (.aload_n 0, 1) := by decide +kernel
theorem d_M_beginSegment_53 : decode b_M_beginSegment 53 = .ok (.iconst 0, 1) := by decide +kernel
theorem d_M_beginSegment_54 : decode b_M_beginSegment 54 = .ok (.putfield 69, 3) := by decide +kernel
theorem d_M_beginSegment_57 : decode b_M_beginSegment 57 = .ok (.aload_n 0, 1) := by decide +kernel
theorem d_M_beginSegment_58 : decode b_M_beginSegment 58 = .ok (.bipush 12, 2) := by decide +kernel
theorem d_M_beginSegment_60 : decode b_M_beginSegment 60 = .ok (.putfield 72, 3) := by decide +kernel
theorem d_M_beginSegment_63 : decode b_M_beginSegment 63 = .ok (.aload_n 0, 1) := by decide +kernel
theorem d_M_beginSegment_64 : decode b_M_beginSegment 64 = .ok (.iconst 0, 1) := by decide +kernel
theorem d_M_beginSegment_65 : decode b_M_beginSegment 65 = .ok (.putfield 75, 3) := by decide +kernel
theorem d_M_beginSegment_68 : decode b_M_beginSegment 68 = .ok (.aload_n 0, 1) := by decide +kernel
theorem d_M_beginSegment_69 : decode b_M_beginSegment 69 = .ok (.bipush 8, 2) := by decide +kernel
theorem d_M_beginSegment_71 : decode b_M_beginSegment 71 = .ok (.putfield 78, 3) := by decide +kernel
theorem d_M_beginSegment_74 : decode b_M_beginSegment 74 = .ok (.return_, 1) := by decide +kernel
theorem d_M_put_0 : decode b_M_put 0 = .ok (.aload_n 0, 1) := by decide +kernel
theorem d_M_put_1 : decode b_M_put 1 = .ok (.getfield 35, 3) := by decide +kernel
theorem d_M_put_4 : decode b_M_put 4 = .ok (.aload_n 0, 1) := by decide +kernel
theorem d_M_put_5 : decode b_M_put 5 = .ok (.getfield 62, 3) := by decide +kernel
theorem d_M_put_8 : decode b_M_put 8 = .ok (.iload_n 1, 1) := by decide +kernel
theorem d_M_put_9 : decode b_M_put 9 = .ok (.sipush 256, 3) := by decide +kernel
theorem d_M_put_12 : decode b_M_put 12 = .ok (.irem, 1) := by decide +kernel
theorem d_M_put_13 : decode b_M_put 13 = .ok (.iastore, 1) := by decide +kernel
theorem d_M_put_14 : decode b_M_put 14 = .ok (.aload_n 0, 1) := by decide +kernel
theorem d_M_put_15 : decode b_M_put 15 = .ok (.dup, 1) := by decide +kernel
theorem d_M_put_16 : decode b_M_put 16 = .ok (.getfield 62, 3) := by decide +kernel
theorem d_M_put_19 : decode b_M_put 19 = .ok (.iconst 1, 1) := by decide +kernel
theorem d_M_put_20 : decode b_M_put 20 = .ok (.iadd, 1) := by decide +kernel
theorem d_M_put_21 : decode b_M_put 21 = .ok (.putfield 62, 3) := by decide +kernel
theorem d_M_put_24 : decode b_M_put 24 = .ok (.aload_n 0, 1) := by decide +kernel
theorem d_M_put_25 : decode b_M_put 25 = .ok (.getfield 27, 3) := by decide +kernel
theorem d_M_put_28 : decode b_M_put 28 = .ok (.aload_n 0, 1) := by decide +kernel
theorem d_M_put_29 : decode b_M_put 29 = .ok (.getfield 59, 3) := by decide +kernel
theorem d_M_put_32 : decode b_M_put 32 = .ok (.aload_n 0, 1) := by decide +kernel
theorem d_M_put_33 : decode b_M_put 33 = .ok (.getfield 62, 3) := by decide +kernel
theorem d_M_put_36 : decode b_M_put 36 = .ok (.iastore, 1) := by decide +kernel
theorem d_M_put_37 : decode b_M_put 37 = .ok (.return_, 1) := by decide +kernel
theorem d_M_isFull_0 : decode b_M_isFull 0 = .ok (.aload_n 0, 1) := by decide +kernel
theorem d_M_isFull_1 : decode b_M_isFull 1 = .ok (.getfield 62, 3) := by decide +kernel
theorem d_M_isFull_4 : decode b_M_isFull 4 = .ok (.aload_n 0, 1) := by decide +kernel
theorem d_M_isFull_5 : decode b_M_isFull 5 = .ok (.getfield 27, 3) := by decide +kernel
theorem d_M_isFull_8 : decode b_M_isFull 8 = .ok (.aload_n 0, 1) := by decide +kernel
theorem d_M_isFull_9 : decode b_M_isFull 9 = .ok (.getfield 59, 3) := by decide +kernel
theorem d_M_isFull_12 : decode b_M_isFull 12 = .ok (.iconst 1, 1) := by decide +kernel
theorem d_M_isFull_13 : decode b_M_isFull 13 = .ok (.isub, 1) := by decide +kernel
theorem d_M_isFull_14 : decode b_M_isFull 14 = .ok (.iaload, 1) := by decide +kernel
theorem d_M_isFull_15 : decode b_M_isFull 15 = .ok (.if_icmp .le 24, 3) := by decide +kernel
theorem d_M_isFull_18 : decode b_M_isFull 18 = .ok (.aload_n 0, 1) := by decide +kernel
theorem d_M_isFull_19 : decode b_M_isFull 19 = .ok (.getfield 35, 3) := by decide +kernel
theorem d_M_isFull_22 : decode b_M_isFull 22 = .ok (.aload_n 0, 1) := by decide +kernel
theorem d_M_isFull_23 : decode b_M_isFull 23 = .ok (.getfield 62, 3) := by decide +kernel
theorem d_M_isFull_26 : decode b_M_isFull 26 = .ok (.iconst 1, 1) := by decide +kernel
theorem d_M_isFull_27 : decode b_M_isFull 27 = .ok (.isub, 1) := by decide +kernel
theorem d_M_isFull_28 : decode b_M_isFull 28 = .ok (.iaload, 1) := by decide +kernel
theorem d_M_isFull_29 : decode b_M_isFull 29 = .ok (.sipush 255, 3) := by decide +kernel
theorem d_M_isFull_32 : decode b_M_isFull 32 = .ok (.if_icmp .ne 7, 3) := by decide +kernel
theorem d_M_isFull_35 : decode b_M_isFull 35 = .ok (.iconst 1, 1) := by decide +kernel
theorem d_M_isFull_36 : decode b_M_isFull 36 = .ok (.goto 4, 3) := by decide +kernel
theorem d_M_isFull_39 : decode b_M_isFull 39 = .ok (.iconst 0, 1) := by decide +kernel
theorem d_M_isFull_40 : decode b_M_isFull 40 = .ok (.ireturn, 1) := by decide +kernel
theorem d_M_putOut_0 : decode b_M_putOut 0 = .ok (.aload_n 0, 1) := by decide +kernel
theorem d_M_putOut_1 : decode b_M_putOut 1 = .ok (.invokevirtual 81, 3) := by decide +kernel
theorem d_M_putOut_4 : decode b_M_putOut 4 = .ok (.ifCond .ne 62, 3) := by decide +kernel
theorem d_M_putOut_7 : decode b_M_putOut 7 = .ok (.aload_n 0, 1) := by decide +kernel
theorem d_M_putOut_8 : decode b_M_putOut 8 = .ok (.getfield 69, 3) := by decide +kernel
theorem d_M_putOut_11 : decode b_M_putOut 11 = .ok (.ldc 85, 2) := by decide +kernel
theorem d_M_putOut_13 : decode b_M_putOut 13 = .ok (.idiv, 1) := by decide +kernel
theorem d_M_putOut_14 : decode b_M_putOut 14 = .ok (.ifCond .le 52, 3) := by decide +kernel
theorem d_M_putOut_17 : decode b_M_putOut 17 = .ok (.aload_n 0, 1) := by decide +kernel
theorem d_M_putOut_18 : decode b_M_putOut 18 = .ok (.getfield 35, 3) := by decide +kernel
theorem d_M_putOut_21 : decode b_M_putOut 21 = .ok (.aload_n 0, 1) := by decide +kernel
theorem d_M_putOut_22 : decode b_M_putOut 22 = .ok (.getfield 62, 3) := by decide +kernel
theorem d_M_putOut_25 : decode b_M_putOut 25 = .ok (.iconst 1, 1) := by decide +kernel
theorem d_M_putOut_26 : decode b_M_putOut 26 = .ok (.isub, 1) := by decide +kernel
theorem d_M_putOut_27 : decode b_M_putOut 27 = .ok (.aload_n 0, 1) := by decide +kernel
theorem d_M_putOut_28 : decode b_M_putOut 28 = .ok (.getfield 35, 3) := by decide +kernel
theorem d_M_putOut_31 : decode b_M_putOut 31 = .ok (.aload_n 0, 1) := by decide +kernel
theorem d_M_putOut_32 : decode b_M_putOut 32 = .ok (.getfield 62, 3) := by decide +kernel
theorem d_M_putOut_35 : decode b_M_putOut 35 = .ok (.iconst 1, 1) := by decide +kernel
theorem d_M_putOut_36 : decode b_M_putOut 36 = .ok (.isub, 1) := by decide +kernel
theorem d_M_putOut_37 : decode b_M_putOut 37 = .ok (.iaload, 1) := by decide +kernel
theorem d_M_putOut_38 : decode b_M_putOut 38 = .ok (.iconst 1, 1) := by decide +kernel
theorem d_M_putOut_39 : decode b_M_putOut 39 = .ok (.iadd, 1) := by decide +kernel
theorem d_M_putOut_40 : decode b_M_putOut 40 = .ok (.iastore, 1) := by decide +kernel
theorem d_M_putOut_41 : decode b_M_putOut 41 = .ok (.aload_n 0, 1) := by decide +kernel
theorem d_M_putOut_42 : decode b_M_putOut 42 = .ok (.aload_n 0, 1) := by decide +kernel
theorem d_M_putOut_43 : decode b_M_putOut 43 = .ok (.invokevirtual 81, 3) := by decide +kernel
theorem d_M_putOut_46 : decode b_M_putOut 46 = .ok (.ifCond .eq 13, 3) := by decide +kernel
theorem d_M_putOut_49 : decode b_M_putOut 49 = .ok (.aload_n 0, 1) := by decide +kernel
theorem d_M_putOut_50 : decode b_M_putOut 50 = .ok (.getfield 69, 3) := by decide +kernel
theorem d_M_putOut_53 : decode b_M_putOut 53 = .ok (.ldc 85, 2) := by decide +kernel
theorem d_M_putOut_55 : decode b_M_putOut 55 = .ok (.irem, 1) := by decide +kernel
theorem d_M_putOut_56 : decode b_M_putOut 56 = .ok (.goto 7, 3) := by decide +kernel
theorem d_M_putOut_59 : decode b_M_putOut 59 = .ok (.aload_n 0, 1) := by decide +kernel
theorem d_M_putOut_60 : decode b_M_putOut 60 = .ok (.getfield 69, 3) := by decide +kernel
theorem d_M_putOut_63 : decode b_M_putOut 63 = .ok (.putfield 69, 3) := by decide +kernel
theorem d_M_putOut_66 : decode b_M_putOut 66 = .ok (.aload_n 0, 1) := by decide +kernel
theorem d_M_putOut_67 : decode b_M_putOut 67 = .ok (.invokevirtual 81, 3) := by decide +kernel
theorem d_M_putOut_70 : decode b_M_putOut 70 = .ok (.istore_n 1, 1) := by decide +kernel
theorem d_M_putOut_71 : decode b_M_putOut 71 = .ok (.iload_n 1, 1) := by decide +kernel
theorem d_M_putOut_72 : decode b_M_putOut 72 = .ok (.ifCond .eq 8, 3) := by decide +kernel
theorem d_M_putOut_75 : decode b_M_putOut 75 = .ok (.ldc 86, 2) := by decide +kernel
theorem d_M_putOut_77 : decode b_M_putOut 77 = .ok (.goto 5, 3) := by decide +kernel
theorem d_M_putOut_80 : decode b_M_putOut 80 = .ok (.ldc 87, 2) := by decide +kernel
theorem d_M_putOut_82 : decode b_M_putOut 82 = .ok (.istore_n 2, 1) := by decide +kernel
theorem d_M_putOut_83 : decode b_M_putOut 83 = .ok (.aload_n 0, 1) := by decide +kernel
theorem d_M_putOut_84 : decode b_M_putOut 84 = .ok (.aload_n 0, 1) := by decide +kernel
theorem d_M_putOut_85 : decode b_M_putOut 85 = .ok (.getfield 69, 3) := by decide +kernel
theorem d_M_putOut_88 : decode b_M_putOut 88 = .ok (.iload_n 2, 1) := by decide +kernel
theorem d_M_putOut_89 : decode b_M_putOut 89 = .ok (.idiv, 1) := by decide +kernel
theorem d_M_putOut_90 : decode b_M_putOut 90 = .ok (.invokevirtual 88, 3) := by decide +kernel
theorem d_M_putOut_93 : decode b_M_putOut 93 = .ok (.aload_n 0, 1) := by decide +kernel
theorem d_M_putOut_94 : decode b_M_putOut 94 = .ok (.aload_n 0, 1) := by decide +kernel
theorem d_M_putOut_95 : decode b_M_putOut 95 = .ok (.getfield 69, 3) := by decide +kernel
theorem d_M_putOut_98 : decode b_M_putOut 98 = .ok (.iload_n 2, 1) := by decide +kernel
theorem d_M_putOut_99 : decode b_M_putOut 99 = .ok (.irem, 1) := by decide +kernel
theorem d_M_putOut_100 : decode b_M_putOut 100 = .ok (.putfield 69, 3) := by decide +kernel
theorem d_M_putOut_103 : decode b_M_putOut 103 = .ok (.aload_n 0, 1) := by decide +kernel
theorem d_M_putOut_104 : decode b_M_putOut 104 = .ok (.iload_n 1, 1) := by decide +kernel
theorem d_M_putOut_105 : decode b_M_putOut 105 = .ok (.ifCond .eq 8, 3) := by decide +kernel
theorem d_M_putOut_108 : decode b_M_putOut 108 = .ok (.bipush 7, 2) := by decide +kernel
theorem d_M_putOut_110 : decode b_M_putOut 110 = .ok (.goto 5, 3) := by decide +kernel
theorem d_M_putOut_113 : decode b_M_putOut 113 = .ok (.bipush 8, 2) := by decide +kernel
theorem d_M_putOut_115 : decode b_M_putOut 115 = .ok (.putfield 72, 3) := by decide +kernel
theorem d_M_putOut_118 : decode b_M_putOut 118 = .ok (.return_, 1) := by decide +kernel
theorem d_M_writeCoded_0 : decode b_M_writeCoded 0 = .ok (.aload_n 0, 1) := by decide +kernel
theorem d_M_writeCoded_1 : decode b_M_writeCoded 1 = .ok (.iload_n 1, 1) := by decide +kernel
theorem d_M_writeCoded_2 : decode b_M_writeCoded 2 = .ok (.invokevirtual 92, 3) := by decide +kernel
theorem d_M_writeCoded_5 : decode b_M_writeCoded 5 = .ok (.istore_n 3, 1) := by decide +kernel
theorem d_M_writeCoded_6 : decode b_M_writeCoded 6 = .ok (.iload_n 2, 1) := by decide +kernel
theorem d_M_writeCoded_7 : decode b_M_writeCoded 7 = .ok (.aload_n 0, 1) := by decide +kernel
theorem d_M_writeCoded_8 : decode b_M_writeCoded 8 = .ok (.getfield 20, 3) := by decide +kernel
theorem d_M_writeCoded_11 : decode b_M_writeCoded 11 = .ok (.iload_n 1, 1) := by decide +kernel
theorem d_M_writeCoded_12 : decode b_M_writeCoded 12 = .ok (.iaload, 1) := by decide +kernel
theorem d_M_writeCoded_13 : decode b_M_writeCoded 13 = .ok (.iconst 2, 1) := by decide +kernel
theorem d_M_writeCoded_14 : decode b_M_writeCoded 14 = .ok (.irem, 1) := by decide +kernel
theorem d_M_writeCoded_15 : decode b_M_writeCoded 15 = .ok (.if_icmp .ne 7, 3) := by decide +kernel
theorem d_M_writeCoded_18 : decode b_M_writeCoded 18 = .ok (.iconst 1, 1) := by decide +kernel
theorem d_M_writeCoded_19 : decode b_M_writeCoded 19 = .ok (.goto 4, 3) := by decide +kernel
theorem d_M_writeCoded_22 : decode b_M_writeCoded 22 = .ok (.iconst 0, 1) := by decide +kernel
theorem d_M_writeCoded_23 : decode b_M_writeCoded 23 = .ok (.istore 4, 2) := by decide +kernel
theorem d_M_writeCoded_25 : decode b_M_writeCoded 25 = .ok (.aload_n 0, 1) := by decide +kernel
theorem d_M_writeCoded_26 : decode b_M_writeCoded 26 = .ok (.dup, 1) := by decide +kernel
theorem d_M_writeCoded_27 : decode b_M_writeCoded 27 = .ok (.getfield 66, 3) := by decide +kernel
theorem d_M_writeCoded_30 : decode b_M_writeCoded 30 = .ok (.iload_n 3, 1) := by decide +kernel
theorem d_M_writeCoded_31 : decode b_M_writeCoded 31 = .ok (.isub, 1) := by decide +kernel
theorem d_M_writeCoded_32 : decode b_M_writeCoded 32 = .ok (.putfield 66, 3) := by decide +kernel
theorem d_M_writeCoded_35 : decode b_M_writeCoded 35 = .ok (.iload 4, 2) := by decide +kernel
theorem d_M_writeCoded_37 : decode b_M_writeCoded 37 = .ok (.ifCond .eq 23, 3) := by decide +kernel
theorem d_M_writeCoded_40 : decode b_M_writeCoded 40 = .ok (.aload_n 0, 1) := by decide +kernel
theorem d_M_writeCoded_41 : decode b_M_writeCoded 41 = .ok (.getfield 66, 3) := by decide +kernel
theorem d_M_writeCoded_44 : decode b_M_writeCoded 44 = .ok (.ldc 65, 2) := by decide +kernel
theorem d_M_writeCoded_46 : decode b_M_writeCoded 46 = .ok (.if_icmp .lt 14, 3) := by decide +kernel
theorem d_M_writeCoded_49 : decode b_M_writeCoded 49 = .ok (.aload_n 0, 1) := by decide +kernel
theorem d_M_writeCoded_50 : decode b_M_writeCoded 50 = .ok (.dup, 1) := by decide +kernel
theorem d_M_writeCoded_51 : decode b_M_writeCoded 51 = .ok (.getfield 69, 3) := by decide +kernel
theorem d_M_writeCoded_54 : decode b_M_writeCoded 54 = .ok (.iload_n 3, 1) := by decide +kernel
theorem d_M_writeCoded_55 : decode b_M_writeCoded 55 = .ok (.iadd, 1) := by decide +kernel
theorem d_M_writeCoded_56 : decode b_M_writeCoded 56 = .ok (.putfield 69, 3) := by decide +kernel
theorem d_M_writeCoded_59 : decode b_M_writeCoded 59 = .ok (.return_, 1) := by decide +kernel
theorem d_M_writeCoded_60 : decode b_M_writeCoded 60 = .ok (.iload 4, 2) := by decide +kernel
theorem d_M_writeCoded_62 : decode b_M_writeCoded 62 = .ok (.ifCond .eq 19, 3) := by decide +kernel
theorem d_M_writeCoded_65 : decode b_M_writeCoded 65 = .ok (.aload_n 0, 1) := by decide +kernel
theorem d_M_writeCoded_66 : decode b_M_writeCoded 66 = .ok (.getfield 66, 3) := by decide +kernel
theorem d_M_writeCoded_69 : decode b_M_writeCoded 69 = .ok (.iload_n 3, 1) := by decide +kernel
theorem d_M_writeCoded_70 : decode b_M_writeCoded 70 = .ok (.if_icmp .ge 7, 3) := by decide +kernel
theorem d_M_writeCoded_73 : decode b_M_writeCoded 73 = .ok (.iconst 1, 1) := by decide +kernel
theorem d_M_writeCoded_74 : decode b_M_writeCoded 74 = .ok (.goto 20, 3) := by decide +kernel
theorem d_M_writeCoded_77 : decode b_M_writeCoded 77 = .ok (.iconst 0, 1) := by decide +kernel
theorem d_M_writeCoded_78 : decode b_M_writeCoded 78 = .ok (.goto 16, 3) := by decide +kernel
theorem d_M_writeCoded_81 : decode b_M_writeCoded 81 = .ok (.aload_n 0, 1) := by decide +kernel
theorem d_M_writeCoded_82 : decode b_M_writeCoded 82 = .ok (.getfield 66, 3) := by decide +kernel
theorem d_M_writeCoded_85 : decode b_M_writeCoded 85 = .ok (.iload_n 3, 1) := by decide +kernel
theorem d_M_writeCoded_86 : decode b_M_writeCoded 86 = .ok (.if_icmp .lt 7, 3) := by decide +kernel
theorem d_M_writeCoded_89 : decode b_M_writeCoded 89 = .ok (.iconst 1, 1) := by decide +kernel
theorem d_M_writeCoded_90 : decode b_M_writeCoded 90 = .ok (.goto 4, 3) := by decide +kernel
theorem d_M_writeCoded_93 : decode b_M_writeCoded 93 = .ok (.iconst 0, 1) := by decide +kernel
theorem d_M_writeCoded_94 : decode b_M_writeCoded 94 = .ok (.istore 5, 2) := by decide +kernel
theorem d_M_writeCoded_96 : decode b_M_writeCoded 96 = .ok (.iload 5, 2) := by decide +kernel
theorem d_M_writeCoded_98 : decode b_M_writeCoded 98 = .ok (.ifCond .eq 11, 3) := by decide +kernel
theorem d_M_writeCoded_101 : decode b_M_writeCoded 101 = .ok (.aload_n 0, 1) := by decide +kernel
theorem d_M_writeCoded_102 : decode b_M_writeCoded 102 = .ok (.iload_n 3, 1) := by decide +kernel
theorem d_M_writeCoded_103 : decode b_M_writeCoded 103 = .ok (.putfield 66, 3) := by decide +kernel
theorem d_M_writeCoded_106 : decode b_M_writeCoded 106 = .ok (.goto 13, 3) := by decide +kernel
theorem d_M_writeCoded_109 : decode b_M_writeCoded 109 = .ok (.aload_n 0, 1) := by decide +kernel
theorem d_M_writeCoded_110 : decode b_M_writeCoded 110 = .ok (.dup, 1) := by decide +kernel
theorem d_M_writeCoded_111 : decode b_M_writeCoded 111 = .ok (.getfield 69, 3) := by decide +kernel
theorem d_M_writeCoded_114 : decode b_M_writeCoded 114 = .ok (.iload_n 3, 1) := by decide +kernel
theorem d_M_writeCoded_115 : decode b_M_writeCoded 115 = .ok (.iadd, 1) := by decide +kernel
theorem d_M_writeCoded_116 : decode b_M_writeCoded 116 = .ok (.putfield 69, 3) := by decide +kernel
theorem d_M_writeCoded_119 : decode b_M_writeCoded 119 = .ok (.aload_n 0, 1) := by decide +kernel
theorem d_M_writeCoded_120 : decode b_M_writeCoded 120 = .ok (.iload_n 1, 1) := by decide +kernel
theorem d_M_writeCoded_121 : decode b_M_writeCoded 121 = .ok (.iload 4, 2) := by decide +kernel
theorem d_M_writeCoded_123 : decode b_M_writeCoded 123 = .ok (.invokevirtual 96, 3) := by decide +kernel
theorem d_M_writeCoded_126 : decode b_M_writeCoded 126 = .ok (.aload_n 0, 1) := by decide +kernel
theorem d_M_writeCoded_127 : decode b_M_writeCoded 127 = .ok (.getfield 66, 3) := by decide +kernel
theorem d_M_writeCoded_130 : decode b_M_writeCoded 130 = .ok (.ldc 65, 2) := by decide +kernel
theorem d_M_writeCoded_132 : decode b_M_writeCoded 132 = .ok (.if_icmp .ge 47, 3) := by decide +kernel
theorem d_M_writeCoded_135 : decode b_M_writeCoded 135 = .ok (.aload_n 0, 1) := by decide +kernel
theorem d_M_writeCoded_136 : decode b_M_writeCoded 136 = .ok (.iconst 2, 1) := by decide +kernel
theorem d_M_writeCoded_137 : decode b_M_writeCoded 137 = .ok (.aload_n 0, 1) := by decide +kernel
theorem d_M_writeCoded_138 : decode b_M_writeCoded 138 = .ok (.getfield 66, 3) := by decide +kernel
theorem d_M_writeCoded_141 : decode b_M_writeCoded 141 = .ok (.imul, 1) := by decide +kernel
theorem d_M_writeCoded_142 : decode b_M_writeCoded 142 = .ok (.putfield 66, 3) := by decide +kernel
theorem d_M_writeCoded_145 : decode b_M_writeCoded 145 = .ok (.aload_n 0, 1) := by decide +kernel
theorem d_M_writeCoded_146 : decode b_M_writeCoded 146 = .ok (.iconst 2, 1) := by decide +kernel
theorem d_M_writeCoded_147 : decode b_M_writeCoded 147 = .ok (.aload_n 0, 1) := by decide +kernel
theorem d_M_writeCoded_148 : decode b_M_writeCoded 148 = .ok (.getfield 69, 3) := by decide +kernel
theorem d_M_writeCoded_151 : decode b_M_writeCoded 151 = .ok (.imul, 1) := by decide +kernel
theorem d_M_writeCoded_152 : decode b_M_writeCoded 152 = .ok (.putfield 69, 3) := by decide +kernel
theorem d_M_writeCoded_155 : decode b_M_writeCoded 155 = .ok (.aload_n 0, 1) := by decide +kernel
theorem d_M_writeCoded_156 : decode b_M_writeCoded 156 = .ok (.dup, 1) := by decide +kernel
theorem d_M_writeCoded_157 : decode b_M_writeCoded 157 = .ok (.getfield 72, 3) := by decide +kernel
theorem d_M_writeCoded_160 : decode b_M_writeCoded 160 = .ok (.iconst 1, 1) := by decide +kernel
theorem d_M_writeCoded_161 : decode b_M_writeCoded 161 = .ok (.isub, 1) := by decide +kernel
theorem d_M_writeCoded_162 : decode b_M_writeCoded 162 = .ok (.putfield 72, 3) := by decide +kernel
theorem d_M_writeCoded_165 : decode b_M_writeCoded 165 = .ok (.aload_n 0, 1) := by decide +kernel
theorem d_M_writeCoded_166 : decode b_M_writeCoded 166 = .ok (.getfield 72, 3) := by decide +kernel
theorem d_M_writeCoded_169 : decode b_M_writeCoded 169 = .ok (.ifCond .ne (-43), 3) := by decide +kernel
theorem d_M_writeCoded_172 : decode b_M_writeCoded 172 = .ok (.aload_n 0, 1) := by decide +kernel
theorem d_M_writeCoded_173 : decode b_M_writeCoded 173 = .ok (.invokevirtual 100, 3) := by decide +kernel
theorem d_M_writeCoded_176 : decode b_M_writeCoded 176 = .ok (.goto (-50), 3) := by decide +kernel
theorem d_M_writeCoded_179 : decode b_M_writeCoded 179 = .ok (.return_, 1) := by decide +kernel
theorem d_M_writeRaw_0 : decode b_M_writeRaw 0 = .ok (.aload_n 0, 1) := by decide +kernel
theorem d_M_writeRaw_1 : decode b_M_writeRaw 1 = .ok (.iconst 2, 1) := by decide +kernel
theorem d_M_writeRaw_2 : decode b_M_writeRaw 2 = .ok (.aload_n 0, 1) := by decide +kernel
theorem d_M_writeRaw_3 : decode b_M_writeRaw 3 = .ok (.getfield 75, 3) := by decide +kernel
theorem d_M_writeRaw_6 : decode b_M_writeRaw 6 = .ok (.imul, 1) := by decide +kernel
theorem d_M_writeRaw_7 : decode b_M_writeRaw 7 = .ok (.iload_n 1, 1) := by decide +kernel
theorem d_M_writeRaw_8 : decode b_M_writeRaw 8 = .ok (.iadd, 1) := by decide +kernel
theorem d_M_writeRaw_9 : decode b_M_writeRaw 9 = .ok (.putfield 75, 3) := by decide +kernel
theorem d_M_writeRaw_12 : decode b_M_writeRaw 12 = .ok (.aload_n 0, 1) := by decide +kernel
theorem d_M_writeRaw_13 : decode b_M_writeRaw 13 = .ok (.dup, 1) := by decide +kernel
theorem d_M_writeRaw_14 : decode b_M_writeRaw 14 = .ok (.getfield 78, 3) := by decide +kernel
theorem d_M_writeRaw_17 : decode b_M_writeRaw 17 = .ok (.iconst 1, 1) := by decide +kernel
theorem d_M_writeRaw_18 : decode b_M_writeRaw 18 = .ok (.isub, 1) := by decide +kernel
theorem d_M_writeRaw_19 : decode b_M_writeRaw 19 = .ok (.putfield 78, 3) := by decide +kernel
theorem d_M_writeRaw_22 : decode b_M_writeRaw 22 = .ok (.aload_n 0, 1) := by decide +kernel
theorem d_M_writeRaw_23 : decode b_M_writeRaw 23 = .ok (.getfield 78, 3) := by decide +kernel
theorem d_M_writeRaw_26 : decode b_M_writeRaw 26 = .ok (.ifCond .ne 34, 3) := by decide +kernel
theorem d_M_writeRaw_29 : decode b_M_writeRaw 29 = .ok (.aload_n 0, 1) := by decide +kernel
theorem d_M_writeRaw_30 : decode b_M_writeRaw 30 = .ok (.aload_n 0, 1) := by decide +kernel
theorem d_M_writeRaw_31 : decode b_M_writeRaw 31 = .ok (.getfield 75, 3) := by decide +kernel
theorem d_M_writeRaw_34 : decode b_M_writeRaw 34 = .ok (.invokevirtual 88, 3) := by decide +kernel
theorem d_M_writeRaw_37 : decode b_M_writeRaw 37 = .ok (.aload_n 0, 1) := by decide +kernel
theorem d_M_writeRaw_38 : decode b_M_writeRaw 38 = .ok (.iconst 0, 1) := by decide +kernel
theorem d_M_writeRaw_39 : decode b_M_writeRaw 39 = .ok (.putfield 75, 3) := by decide +kernel
theorem d_M_writeRaw_42 : decode b_M_writeRaw 42 = .ok (.aload_n 0, 1) := by decide +kernel
theorem d_M_writeRaw_43 : decode b_M_writeRaw 43 = .ok (.aload_n 0, 1) := by decide +kernel
theorem d_M_writeRaw_44 : decode b_M_writeRaw 44 = .ok (.invokevirtual 81, 3) := by decide +kernel
theorem d_M_writeRaw_47 : decode b_M_writeRaw 47 = .ok (.ifCond .eq 8, 3) := by decide +kernel
theorem d_M_writeRaw_50 : decode b_M_writeRaw 50 = .ok (.bipush 7, 2) := by decide +kernel
theorem d_M_writeRaw_52 : decode b_M_writeRaw 52 = .ok (.goto 5, 3) := by decide +kernel
theorem d_M_writeRaw_55 : decode b_M_writeRaw 55 = .ok (.bipush 8, 2) := by decide +kernel
theorem d_M_writeRaw_57 : decode b_M_writeRaw 57 = .ok (.putfield 78, 3) := by decide +kernel
theorem d_M_writeRaw_60 : decode b_M_writeRaw 60 = .ok (.return_, 1) := by decide +kernel
theorem d_M_write_0 : decode b_M_write 0 = .ok (.aload_n 0, 1) := by decide +kernel
theorem d_M_write_1 : decode b_M_write 1 = .ok (.getfield 30, 3) := by decide +kernel
theorem d_M_write_4 : decode b_M_write 4 = .ok (.aload_n 0, 1) := by decide +kernel
theorem d_M_write_5 : decode b_M_write 5 = .ok (.getfield 59, 3) := by decide +kernel
theorem d_M_write_8 : decode b_M_write 8 = .ok (.iconst 1, 1) := by decide +kernel
theorem d_M_write_9 : decode b_M_write 9 = .ok (.isub, 1) := by decide +kernel
theorem d_M_write_10 : decode b_M_write 10 = .ok (.baload, 1) := by decide +kernel
theorem d_M_write_11 : decode b_M_write 11 = .ok (.ifCond .eq 11, 3) := by decide +kernel
theorem d_M_write_14 : decode b_M_write 14 = .ok (.aload_n 0, 1) := by decide +kernel
theorem d_M_write_15 : decode b_M_write 15 = .ok (.iload_n 2, 1) := by decide +kernel
theorem d_M_write_16 : decode b_M_write 16 = .ok (.invokevirtual 103, 3) := by decide +kernel
theorem d_M_write_19 : decode b_M_write 19 = .ok (.goto 9, 3) := by decide +kernel
theorem d_M_write_22 : decode b_M_write 22 = .ok (.aload_n 0, 1) := by decide +kernel
theorem d_M_write_23 : decode b_M_write 23 = .ok (.iload_n 1, 1) := by decide +kernel
theorem d_M_write_24 : decode b_M_write 24 = .ok (.iload_n 2, 1) := by decide +kernel
theorem d_M_write_25 : decode b_M_write 25 = .ok (.invokevirtual 106, 3) := by decide +kernel
theorem d_M_write_28 : decode b_M_write 28 = .ok (.return_, 1) := by decide +kernel
theorem d_M_endSegment_0 : decode b_M_endSegment 0 = .ok (.aload_n 0, 1) := by decide +kernel
theorem d_M_endSegment_1 : decode b_M_endSegment 1 = .ok (.getfield 30, 3) := by decide +kernel
theorem d_M_endSegment_4 : decode b_M_endSegment 4 = .ok (.aload_n 0, 1) := by decide +kernel
theorem d_M_endSegment_5 : decode b_M_endSegment 5 = .ok (.getfield 59, 3) := by decide +kernel
theorem d_M_endSegment_8 : decode b_M_endSegment 8 = .ok (.iconst 1, 1) := by decide +kernel
theorem d_M_endSegment_9 : decode b_M_endSegment 9 = .ok (.isub, 1) := by decide +kernel
theorem d_M_endSegment_10 : decode b_M_endSegment 10 = .ok (.baload, 1) := by decide +kernel
theorem d_M_endSegment_11 : decode b_M_endSegment 11 = .ok (.ifCond .eq 41, 3) := by decide +kernel
theorem d_M_endSegment_14 : decode b_M_endSegment 14 = .ok (.iconst 0, 1) := by decide +kernel
theorem d_M_endSegment_15 : decode b_M_endSegment 15 = .ok (.istore_n 1, 1) := by decide +kernel
theorem d_M_endSegment_16 : decode b_M_endSegment 16 = .ok (.aload_n 0, 1) := by decide +kernel
theorem d_M_endSegment_17 : decode b_M_endSegment 17 = .ok (.getfield 78, 3) := by decide +kernel
theorem d_M_endSegment_20 : decode b_M_endSegment 20 = .ok (.aload_n 0, 1) := by decide +kernel
theorem d_M_endSegment_21 : decode b_M_endSegment 21 = .ok (.invokevirtual 81, 3) := by decide +kernel
theorem d_M_endSegment_24 : decode b_M_endSegment 24 = .ok (.ifCond .eq 8, 3) := by decide +kernel
theorem d_M_endSegment_27 : decode b_M_endSegment 27 = .ok (.bipush 7, 2) := by decide +kernel
theorem d_M_endSegment_29 : decode b_M_endSegment 29 = .ok (.goto 5, 3) := by decide +kernel
theorem d_M_endSegment_32 : decode b_M_endSegment 32 = .ok (.bipush 8, 2) := by decide +kernel
theorem d_M_endSegment_34 : decode b_M_endSegment 34 = .ok (.if_icmp .ge 15, 3) := by decide +kernel
theorem d_M_endSegment_37 : decode b_M_endSegment 37 = .ok (.aload_n 0, 1) := by decide +kernel
theorem d_M_endSegment_38 : decode b_M_endSegment 38 = .ok (.iload_n 1, 1) := by decide +kernel
theorem d_M_endSegment_39 : decode b_M_endSegment 39 = .ok (.invokevirtual 103, 3) := by decide +kernel
theorem d_M_endSegment_42 : decode b_M_endSegment 42 = .ok (.iconst 1, 1) := by decide +kernel
theorem d_M_endSegment_43 : decode b_M_endSegment 43 = .ok (.iload_n 1, 1) := by decide +kernel
theorem d_M_endSegment_44 : decode b_M_endSegment 44 = .ok (.isub, 1) := by decide +kernel
theorem d_M_endSegment_45 : decode b_M_endSegment 45 = .ok (.istore_n 1, 1) := by decide +kernel
theorem d_M_endSegment_46 : decode b_M_endSegment 46 = .ok (.goto (-30), 3) := by decide +kernel
theorem d_M_endSegment_49 : decode b_M_endSegment 49 = .ok (.goto 105, 3) := by decide +kernel
theorem d_M_endSegment_52 : decode b_M_endSegment 52 = .ok (.aload_n 0, 1) := by decide +kernel
theorem d_M_endSegment_53 : decode b_M_endSegment 53 = .ok (.getfield 69, 3) := by decide +kernel
theorem d_M_endSegment_56 : decode b_M_endSegment 56 = .ok (.aload_n 0, 1) := by decide +kernel
theorem d_M_endSegment_57 : decode b_M_endSegment 57 = .ok (.getfield 66, 3) := by decide +kernel
theorem d_M_endSegment_60 : decode b_M_endSegment 60 = .ok (.iadd, 1) := by decide +kernel
theorem d_M_endSegment_61 : decode b_M_endSegment 61 = .ok (.istore_n 1, 1) := by decide +kernel
theorem d_M_endSegment_62 : decode b_M_endSegment 62 = .ok (.aload_n 0, 1) := by decide +kernel
theorem d_M_endSegment_63 : decode b_M_endSegment 63 = .ok (.aload_n 0, 1) := by decide +kernel
theorem d_M_endSegment_64 : decode b_M_endSegment 64 = .ok (.getfield 69, 3) := by decide +kernel
theorem d_M_endSegment_67 : decode b_M_endSegment 67 = .ok (.aload_n 0, 1) := by decide +kernel
theorem d_M_endSegment_68 : decode b_M_endSegment 68 = .ok (.getfield 69, 3) := by decide +kernel
theorem d_M_endSegment_71 : decode b_M_endSegment 71 = .ok (.ldc 38, 2) := by decide +kernel
theorem d_M_endSegment_73 : decode b_M_endSegment 73 = .ok (.irem, 1) := by decide +kernel
theorem d_M_endSegment_74 : decode b_M_endSegment 74 = .ok (.isub, 1) := by decide +kernel
theorem d_M_endSegment_75 : decode b_M_endSegment 75 = .ok (.ldc 110, 2) := by decide +kernel
theorem d_M_endSegment_77 : decode b_M_endSegment 77 = .ok (.iadd, 1) := by decide +kernel
theorem d_M_endSegment_78 : decode b_M_endSegment 78 = .ok (.putfield 69, 3) := by decide +kernel
theorem d_M_endSegment_81 : decode b_M_endSegment 81 = .ok (.aload_n 0, 1) := by decide +kernel
theorem d_M_endSegment_82 : decode b_M_endSegment 82 = .ok (.aload_n 0, 1) := by decide +kernel
theorem d_M_endSegment_83 : decode b_M_endSegment 83 = .ok (.getfield 69, 3) := by decide +kernel
theorem d_M_endSegment_86 : decode b_M_endSegment 86 = .ok (.iload_n 1, 1) := by decide +kernel
theorem d_M_endSegment_87 : decode b_M_endSegment 87 = .ok (.if_icmp .lt 13, 3) := by decide +kernel
theorem d_M_endSegment_90 : decode b_M_endSegment 90 = .ok (.aload_n 0, 1) := by decide +kernel
theorem d_M_endSegment_91 : decode b_M_endSegment 91 = .ok (.getfield 69, 3) := by decide +kernel
theorem d_M_endSegment_94 : decode b_M_endSegment 94 = .ok (.ldc 65, 2) := by decide +kernel
theorem d_M_endSegment_96 : decode b_M_endSegment 96 = .ok (.isub, 1) := by decide +kernel
theorem d_M_endSegment_97 : decode b_M_endSegment 97 = .ok (.goto 7, 3) := by decide +kernel
theorem d_M_endSegment_100 : decode b_M_endSegment 100 = .ok (.aload_n 0, 1) := by decide +kernel
theorem d_M_endSegment_101 : decode b_M_endSegment 101 = .ok (.getfield 69, 3) := by decide +kernel
theorem d_M_endSegment_104 : decode b_M_endSegment 104 = .ok (.putfield 69, 3) := by decide +kernel
theorem d_M_endSegment_107 : decode b_M_endSegment 107 = .ok (.iconst 0, 1) := by decide +kernel
theorem d_M_endSegment_108 : decode b_M_endSegment 108 = .ok (.istore_n 2, 1) := by decide +kernel
theorem d_M_endSegment_109 : decode b_M_endSegment 109 = .ok (.iload_n 2, 1) := by decide +kernel
theorem d_M_endSegment_110 : decode b_M_endSegment 110 = .ok (.iconst 2, 1) := by decide +kernel
theorem d_M_endSegment_111 : decode b_M_endSegment 111 = .ok (.if_icmp .ge 43, 3) := by decide +kernel
theorem d_M_endSegment_114 : decode b_M_endSegment 114 = .ok (.aload_n 0, 1) := by decide +kernel
theorem d_M_endSegment_115 : decode b_M_endSegment 115 = .ok (.getfield 72, 3) := by decide +kernel
theorem d_M_endSegment_118 : decode b_M_endSegment 118 = .ok (.ifCond .le 26, 3) := by decide +kernel
theorem d_M_endSegment_121 : decode b_M_endSegment 121 = .ok (.aload_n 0, 1) := by decide +kernel
theorem d_M_endSegment_122 : decode b_M_endSegment 122 = .ok (.iconst 2, 1) := by decide +kernel
theorem d_M_endSegment_123 : decode b_M_endSegment 123 = .ok (.aload_n 0, 1) := by decide +kernel
theorem d_M_endSegment_124 : decode b_M_endSegment 124 = .ok (.getfield 69, 3) := by decide +kernel
theorem d_M_endSegment_127 : decode b_M_endSegment 127 = .ok (.imul, 1) := by decide +kernel
theorem d_M_endSegment_128 : decode b_M_endSegment 128 = .ok (.putfield 69, 3) := by decide +kernel
theorem d_M_endSegment_131 : decode b_M_endSegment 131 = .ok (.aload_n 0, 1) := by decide +kernel
theorem d_M_endSegment_132 : decode b_M_endSegment 132 = .ok (.dup, 1) := by decide +kernel
theorem d_M_endSegment_133 : decode b_M_endSegment 133 = .ok (.getfield 72, 3) := by decide +kernel
theorem d_M_endSegment_136 : decode b_M_endSegment 136 = .ok (.iconst 1, 1) := by decide +kernel
theorem d_M_endSegment_137 : decode b_M_endSegment 137 = .ok (.isub, 1) := by decide +kernel
theorem d_M_endSegment_138 : decode b_M_endSegment 138 = .ok (.putfield 72, 3) := by decide +kernel
theorem d_M_endSegment_141 : decode b_M_endSegment 141 = .ok (.goto (-27), 3) := by decide +kernel
theorem d_M_endSegment_144 : decode b_M_endSegment 144 = .ok (.aload_n 0, 1) := by decide +kernel
theorem d_M_endSegment_145 : decode b_M_endSegment 145 = .ok (.invokevirtual 100, 3) := by decide +kernel
theorem d_M_endSegment_148 : decode b_M_endSegment 148 = .ok (.iinc 2 1, 3) := by decide +kernel
theorem d_M_endSegment_151 : decode b_M_endSegment 151 = .ok (.goto (-42), 3) := by decide +kernel
theorem d_M_endSegment_154 : decode b_M_endSegment 154 = .ok (.aload_n 0, 1) := by decide +kernel
theorem d_M_endSegment_155 : decode b_M_endSegment 155 = .ok (.invokevirtual 81, 3) := by decide +kernel
theorem d_M_endSegment_158 : decode b_M_endSegment 158 = .ok (.ifCond .eq 26, 3) := by decide +kernel
theorem d_M_endSegment_161 : decode b_M_endSegment 161 = .ok (.aload_n 0, 1) := by decide +kernel
theorem d_M_endSegment_162 : decode b_M_endSegment 162 = .ok (.dup, 1) := by decide +kernel
theorem d_M_endSegment_163 : decode b_M_endSegment 163 = .ok (.getfield 62, 3) := by decide +kernel
theorem d_M_endSegment_166 : decode b_M_endSegment 166 = .ok (.iconst 1, 1) := by decide +kernel
theorem d_M_endSegment_167 : decode b_M_endSegment 167 = .ok (.isub, 1) := by decide +kernel
theorem d_M_endSegment_168 : decode b_M_endSegment 168 = .ok (.putfield 62, 3) := by decide +kernel
theorem d_M_endSegment_171 : decode b_M_endSegment 171 = .ok (.aload_n 0, 1) := by decide +kernel
theorem d_M_endSegment_172 : decode b_M_endSegment 172 = .ok (.getfield 27, 3) := by decide +kernel
theorem d_M_endSegment_175 : decode b_M_endSegment 175 = .ok (.aload_n 0, 1) := by decide +kernel
theorem d_M_endSegment_176 : decode b_M_endSegment 176 = .ok (.getfield 59, 3) := by decide +kernel
theorem d_M_endSegment_179 : decode b_M_endSegment 179 = .ok (.aload_n 0, 1) := by decide +kernel
theorem d_M_endSegment_180 : decode b_M_endSegment 180 = .ok (.getfield 62, 3) := by decide +kernel
theorem d_M_endSegment_183 : decode b_M_endSegment 183 = .ok (.iastore, 1) := by decide +kernel
theorem d_M_endSegment_184 : decode b_M_endSegment 184 = .ok (.return_, 1) := by decide +kernel
theorem d_M_byteFrom_0 : decode b_M_byteFrom 0 = .ok (.aload_n 0, 1) := by decide +kernel
theorem d_M_byteFrom_1 : decode b_M_byteFrom 1 = .ok (.getfield 27, 3) := by decide +kernel
theorem d_M_byteFrom_4 : decode b_M_byteFrom 4 = .ok (.aload_n 0, 1) := by decide +kernel
theorem d_M_byteFrom_5 : decode b_M_byteFrom 5 = .ok (.getfield 111, 3) := by decide +kernel
theorem d_M_byteFrom_8 : decode b_M_byteFrom 8 = .ok (.iaload, 1) := by decide +kernel
theorem d_M_byteFrom_9 : decode b_M_byteFrom 9 = .ok (.iload_n 1, 1) := by decide +kernel
theorem d_M_byteFrom_10 : decode b_M_byteFrom 10 = .ok (.iadd, 1) := by decide +kernel
theorem d_M_byteFrom_11 : decode b_M_byteFrom 11 = .ok (.istore_n 2, 1) := by decide +kernel
theorem d_M_byteFrom_12 : decode b_M_byteFrom 12 = .ok (.iload_n 2, 1) := by decide +kernel
theorem d_M_byteFrom_13 : decode b_M_byteFrom 13 = .ok (.aload_n 0, 1) := by decide +kernel
theorem d_M_byteFrom_14 : decode b_M_byteFrom 14 = .ok (.getfield 27, 3) := by decide +kernel
theorem d_M_byteFrom_17 : decode b_M_byteFrom 17 = .ok (.aload_n 0, 1) := by decide +kernel
theorem d_M_byteFrom_18 : decode b_M_byteFrom 18 = .ok (.getfield 111, 3) := by decide +kernel
theorem d_M_byteFrom_21 : decode b_M_byteFrom 21 = .ok (.iconst 1, 1) := by decide +kernel
theorem d_M_byteFrom_22 : decode b_M_byteFrom 22 = .ok (.iadd, 1) := by decide +kernel
theorem d_M_byteFrom_23 : decode b_M_byteFrom 23 = .ok (.iaload, 1) := by decide +kernel
theorem d_M_byteFrom_24 : decode b_M_byteFrom 24 = .ok (.if_icmp .ge 12, 3) := by decide +kernel
theorem d_M_byteFrom_27 : decode b_M_byteFrom 27 = .ok (.aload_n 0, 1) := by decide +kernel
theorem d_M_byteFrom_28 : decode b_M_byteFrom 28 = .ok (.getfield 35, 3) := by decide +kernel
theorem d_M_byteFrom_31 : decode b_M_byteFrom 31 = .ok (.iload_n 2, 1) := by decide +kernel
theorem d_M_byteFrom_32 : decode b_M_byteFrom 32 = .ok (.iaload, 1) := by decide +kernel
theorem d_M_byteFrom_33 : decode b_M_byteFrom 33 = .ok (.goto 6, 3) := by decide +kernel
theorem d_M_byteFrom_36 : decode b_M_byteFrom 36 = .ok (.sipush 255, 3) := by decide +kernel
theorem d_M_byteFrom_39 : decode b_M_byteFrom 39 = .ok (.ireturn, 1) := by decide +kernel
theorem d_M_beginReading_0 : decode b_M_beginReading 0 = .ok (.aload_n 0, 1) := by decide +kernel
theorem d_M_beginReading_1 : decode b_M_beginReading 1 = .ok (.iload_n 1, 1) := by decide +kernel
theorem d_M_beginReading_2 : decode b_M_beginReading 2 = .ok (.putfield 111, 3) := by decide +kernel
theorem d_M_beginReading_5 : decode b_M_beginReading 5 = .ok (.aload_n 0, 1) := by decide +kernel
theorem d_M_beginReading_6 : decode b_M_beginReading 6 = .ok (.iconst 0, 1) := by decide +kernel
theorem d_M_beginReading_7 : decode b_M_beginReading 7 = .ok (.putfield 114, 3) := by decide +kernel
theorem d_M_beginReading_10 : decode b_M_beginReading 10 = .ok (.aload_n 0, 1) := by decide +kernel
theorem d_M_beginReading_11 : decode b_M_beginReading 11 = .ok (.iconst 0, 1) := by decide +kernel
theorem d_M_beginReading_12 : decode b_M_beginReading 12 = .ok (.putfield 117, 3) := by decide +kernel
theorem d_M_beginReading_15 : decode b_M_beginReading 15 = .ok (.aload_n 0, 1) := by decide +kernel
theorem d_M_beginReading_16 : decode b_M_beginReading 16 = .ok (.iconst 0, 1) := by decide +kernel
theorem d_M_beginReading_17 : decode b_M_beginReading 17 = .ok (.putfield 120, 3) := by decide +kernel
theorem d_M_beginReading_20 : decode b_M_beginReading 20 = .ok (.return_, 1) := by decide +kernel
theorem d_M_takeByte_0 : decode b_M_takeByte 0 = .ok (.aload_n 0, 1) := by decide +kernel
theorem d_M_takeByte_1 : decode b_M_takeByte 1 = .ok (.getfield 120, 3) := by decide +kernel
theorem d_M_takeByte_4 : decode b_M_takeByte 4 = .ok (.sipush 255, 3) := by decide +kernel
theorem d_M_takeByte_7 : decode b_M_takeByte 7 = .ok (.if_icmp .ne 7, 3) := by decide +kernel
theorem d_M_takeByte_10 : decode b_M_takeByte 10 = .ok (.iconst 1, 1) := by decide +kernel
theorem d_M_takeByte_11 : decode b_M_takeByte 11 = .ok (.goto 4, 3) := by decide +kernel
theorem d_M_takeByte_14 : decode b_M_takeByte 14 = .ok (.iconst 0, 1) := by decide +kernel
theorem d_M_takeByte_15 : decode b_M_takeByte 15 = .ok (.istore_n 1, 1) := by decide +kernel
theorem d_M_takeByte_16 : decode b_M_takeByte 16 = .ok (.iload_n 1, 1) := by decide +kernel
theorem d_M_takeByte_17 : decode b_M_takeByte 17 = .ok (.ifCond .eq 40, 3) := by decide +kernel
theorem d_M_takeByte_20 : decode b_M_takeByte 20 = .ok (.aload_n 0, 1) := by decide +kernel
theorem d_M_takeByte_21 : decode b_M_takeByte 21 = .ok (.aload_n 0, 1) := by decide +kernel
theorem d_M_takeByte_22 : decode b_M_takeByte 22 = .ok (.getfield 114, 3) := by decide +kernel
theorem d_M_takeByte_25 : decode b_M_takeByte 25 = .ok (.invokevirtual 123, 3) := by decide +kernel
theorem d_M_takeByte_28 : decode b_M_takeByte 28 = .ok (.sipush 143, 3) := by decide +kernel
theorem d_M_takeByte_31 : decode b_M_takeByte 31 = .ok (.if_icmp .le 26, 3) := by decide +kernel
theorem d_M_takeByte_34 : decode b_M_takeByte 34 = .ok (.aload_n 0, 1) := by decide +kernel
theorem d_M_takeByte_35 : decode b_M_takeByte 35 = .ok (.aload_n 0, 1) := by decide +kernel
theorem d_M_takeByte_36 : decode b_M_takeByte 36 = .ok (.getfield 126, 3) := by decide +kernel
theorem d_M_takeByte_39 : decode b_M_takeByte 39 = .ok (.ldc2_w 130, 3) := by decide +kernel
theorem d_M_takeByte_42 : decode b_M_takeByte 42 = .ok (.ladd, 1) := by decide +kernel
theorem d_M_takeByte_43 : decode b_M_takeByte 43 = .ok (.ldc2_w 132, 3) := by decide +kernel
theorem d_M_takeByte_46 : decode b_M_takeByte 46 = .ok (.lrem, 1) := by decide +kernel
theorem d_M_takeByte_47 : decode b_M_takeByte 47 = .ok (.putfield 126, 3) := by decide +kernel
theorem d_M_takeByte_50 : decode b_M_takeByte 50 = .ok (.aload_n 0, 1) := by decide +kernel
theorem d_M_takeByte_51 : decode b_M_takeByte 51 = .ok (.bipush 8, 2) := by decide +kernel
theorem d_M_takeByte_53 : decode b_M_takeByte 53 = .ok (.putfield 134, 3) := by decide +kernel
theorem d_M_takeByte_56 : decode b_M_takeByte 56 = .ok (.return_, 1) := by decide +kernel
theorem d_M_takeByte_57 : decode b_M_takeByte 57 = .ok (.aload_n 0, 1) := by decide +kernel
theorem d_M_takeByte_58 : decode b_M_takeByte 58 = .ok (.aload_n 0, 1) := by decide +kernel
theorem d_M_takeByte_59 : decode b_M_takeByte 59 = .ok (.aload_n 0, 1) := by decide +kernel
theorem d_M_takeByte_60 : decode b_M_takeByte 60 = .ok (.getfield 114, 3) := by decide +kernel
theorem d_M_takeByte_63 : decode b_M_takeByte 63 = .ok (.invokevirtual 123, 3) := by decide +kernel
theorem d_M_takeByte_66 : decode b_M_takeByte 66 = .ok (.putfield 120, 3) := by decide +kernel
theorem d_M_takeByte_69 : decode b_M_takeByte 69 = .ok (.aload_n 0, 1) := by decide +kernel
theorem d_M_takeByte_70 : decode b_M_takeByte 70 = .ok (.dup, 1) := by decide +kernel
theorem d_M_takeByte_71 : decode b_M_takeByte 71 = .ok (.getfield 114, 3) := by decide +kernel
theorem d_M_takeByte_74 : decode b_M_takeByte 74 = .ok (.iconst 1, 1) := by decide +kernel
theorem d_M_takeByte_75 : decode b_M_takeByte 75 = .ok (.iadd, 1) := by decide +kernel
theorem d_M_takeByte_76 : decode b_M_takeByte 76 = .ok (.putfield 114, 3) := by decide +kernel
theorem d_M_takeByte_79 : decode b_M_takeByte 79 = .ok (.aload_n 0, 1) := by decide +kernel
theorem d_M_takeByte_80 : decode b_M_takeByte 80 = .ok (.aload_n 0, 1) := by decide +kernel
theorem d_M_takeByte_81 : decode b_M_takeByte 81 = .ok (.getfield 126, 3) := by decide +kernel
theorem d_M_takeByte_84 : decode b_M_takeByte 84 = .ok (.aload_n 0, 1) := by decide +kernel
theorem d_M_takeByte_85 : decode b_M_takeByte 85 = .ok (.getfield 120, 3) := by decide +kernel
theorem d_M_takeByte_88 : decode b_M_takeByte 88 = .ok (.i2l, 1) := by decide +kernel
theorem d_M_takeByte_89 : decode b_M_takeByte 89 = .ok (.iload_n 1, 1) := by decide +kernel
theorem d_M_takeByte_90 : decode b_M_takeByte 90 = .ok (.ifCond .eq 9, 3) := by decide +kernel
theorem d_M_takeByte_93 : decode b_M_takeByte 93 = .ok (.ldc2_w 137, 3) := by decide +kernel
theorem d_M_takeByte_96 : decode b_M_takeByte 96 = .ok (.goto 6, 3) := by decide +kernel
theorem d_M_takeByte_99 : decode b_M_takeByte 99 = .ok (.ldc2_w 139, 3) := by decide +kernel
theorem d_M_takeByte_102 : decode b_M_takeByte 102 = .ok (.lmul, 1) := by decide +kernel
theorem d_M_takeByte_103 : decode b_M_takeByte 103 = .ok (.ladd, 1) := by decide +kernel
theorem d_M_takeByte_104 : decode b_M_takeByte 104 = .ok (.ldc2_w 132, 3) := by decide +kernel
theorem d_M_takeByte_107 : decode b_M_takeByte 107 = .ok (.lrem, 1) := by decide +kernel
theorem d_M_takeByte_108 : decode b_M_takeByte 108 = .ok (.putfield 126, 3) := by decide +kernel
theorem d_M_takeByte_111 : decode b_M_takeByte 111 = .ok (.aload_n 0, 1) := by decide +kernel
theorem d_M_takeByte_112 : decode b_M_takeByte 112 = .ok (.iload_n 1, 1) := by decide +kernel
theorem d_M_takeByte_113 : decode b_M_takeByte 113 = .ok (.ifCond .eq 8, 3) := by decide +kernel
theorem d_M_takeByte_116 : decode b_M_takeByte 116 = .ok (.bipush 7, 2) := by decide +kernel
theorem d_M_takeByte_118 : decode b_M_takeByte 118 = .ok (.goto 5, 3) := by decide +kernel
theorem d_M_takeByte_121 : decode b_M_takeByte 121 = .ok (.bipush 8, 2) := by decide +kernel
theorem d_M_takeByte_123 : decode b_M_takeByte 123 = .ok (.putfield 134, 3) := by decide +kernel
theorem d_M_takeByte_126 : decode b_M_takeByte 126 = .ok (.return_, 1) := by decide +kernel
theorem d_M_readCoded_0 : decode b_M_readCoded 0 = .ok (.aload_n 0, 1) := by decide +kernel
theorem d_M_readCoded_1 : decode b_M_readCoded 1 = .ok (.getfield 114, 3) := by decide +kernel
theorem d_M_readCoded_4 : decode b_M_readCoded 4 = .ok (.ifCond .ne 67, 3) := by decide +kernel
theorem d_M_readCoded_7 : decode b_M_readCoded 7 = .ok (.aload_n 0, 1) := by decide +kernel
theorem d_M_readCoded_8 : decode b_M_readCoded 8 = .ok (.aload_n 0, 1) := by decide +kernel
theorem d_M_readCoded_9 : decode b_M_readCoded 9 = .ok (.iconst 0, 1) := by decide +kernel
theorem d_M_readCoded_10 : decode b_M_readCoded 10 = .ok (.invokevirtual 123, 3) := by decide +kernel
theorem d_M_readCoded_13 : decode b_M_readCoded 13 = .ok (.putfield 120, 3) := by decide +kernel
theorem d_M_readCoded_16 : decode b_M_readCoded 16 = .ok (.aload_n 0, 1) := by decide +kernel
theorem d_M_readCoded_17 : decode b_M_readCoded 17 = .ok (.iconst 1, 1) := by decide +kernel
theorem d_M_readCoded_18 : decode b_M_readCoded 18 = .ok (.putfield 114, 3) := by decide +kernel
theorem d_M_readCoded_21 : decode b_M_readCoded 21 = .ok (.aload_n 0, 1) := by decide +kernel
theorem d_M_readCoded_22 : decode b_M_readCoded 22 = .ok (.aload_n 0, 1) := by decide +kernel
theorem d_M_readCoded_23 : decode b_M_readCoded 23 = .ok (.getfield 120, 3) := by decide +kernel
theorem d_M_readCoded_26 : decode b_M_readCoded 26 = .ok (.i2l, 1) := by decide +kernel
theorem d_M_readCoded_27 : decode b_M_readCoded 27 = .ok (.ldc2_w 141, 3) := by decide +kernel
theorem d_M_readCoded_30 : decode b_M_readCoded 30 = .ok (.lmul, 1) := by decide +kernel
theorem d_M_readCoded_31 : decode b_M_readCoded 31 = .ok (.putfield 126, 3) := by decide +kernel
theorem d_M_readCoded_34 : decode b_M_readCoded 34 = .ok (.aload_n 0, 1) := by decide +kernel
theorem d_M_readCoded_35 : decode b_M_readCoded 35 = .ok (.invokevirtual 143, 3) := by decide +kernel
theorem d_M_readCoded_38 : decode b_M_readCoded 38 = .ok (.aload_n 0, 1) := by decide +kernel
theorem d_M_readCoded_39 : decode b_M_readCoded 39 = .ok (.aload_n 0, 1) := by decide +kernel
theorem d_M_readCoded_40 : decode b_M_readCoded 40 = .ok (.getfield 126, 3) := by decide +kernel
theorem d_M_readCoded_43 : decode b_M_readCoded 43 = .ok (.ldc2_w 146, 3) := by decide +kernel
theorem d_M_readCoded_46 : decode b_M_readCoded 46 = .ok (.lmul, 1) := by decide +kernel
theorem d_M_readCoded_47 : decode b_M_readCoded 47 = .ok (.ldc2_w 132, 3) := by decide +kernel
theorem d_M_readCoded_50 : decode b_M_readCoded 50 = .ok (.lrem, 1) := by decide +kernel
theorem d_M_readCoded_51 : decode b_M_readCoded 51 = .ok (.putfield 126, 3) := by decide +kernel
theorem d_M_readCoded_54 : decode b_M_readCoded 54 = .ok (.aload_n 0, 1) := by decide +kernel
theorem d_M_readCoded_55 : decode b_M_readCoded 55 = .ok (.dup, 1) := by decide +kernel
theorem d_M_readCoded_56 : decode b_M_readCoded 56 = .ok (.getfield 134, 3) := by decide +kernel
theorem d_M_readCoded_59 : decode b_M_readCoded 59 = .ok (.bipush 7, 2) := by decide +kernel
theorem d_M_readCoded_61 : decode b_M_readCoded 61 = .ok (.isub, 1) := by decide +kernel
theorem d_M_readCoded_62 : decode b_M_readCoded 62 = .ok (.putfield 134, 3) := by decide +kernel
theorem d_M_readCoded_65 : decode b_M_readCoded 65 = .ok (.aload_n 0, 1) := by decide +kernel
theorem d_M_readCoded_66 : decode b_M_readCoded 66 = .ok (.ldc 65, 2) := by decide +kernel
theorem d_M_readCoded_68 : decode b_M_readCoded 68 = .ok (.putfield 148, 3) := by decide +kernel
theorem d_M_readCoded_71 : decode b_M_readCoded 71 = .ok (.aload_n 0, 1) := by decide +kernel
theorem d_M_readCoded_72 : decode b_M_readCoded 72 = .ok (.iload_n 1, 1) := by decide +kernel
theorem d_M_readCoded_73 : decode b_M_readCoded 73 = .ok (.invokevirtual 92, 3) := by decide +kernel
theorem d_M_readCoded_76 : decode b_M_readCoded 76 = .ok (.istore_n 2, 1) := by decide +kernel
theorem d_M_readCoded_77 : decode b_M_readCoded 77 = .ok (.aload_n 0, 1) := by decide +kernel
theorem d_M_readCoded_78 : decode b_M_readCoded 78 = .ok (.getfield 20, 3) := by decide +kernel
theorem d_M_readCoded_81 : decode b_M_readCoded 81 = .ok (.iload_n 1, 1) := by decide +kernel
theorem d_M_readCoded_82 : decode b_M_readCoded 82 = .ok (.iaload, 1) := by decide +kernel
theorem d_M_readCoded_83 : decode b_M_readCoded 83 = .ok (.iconst 2, 1) := by decide +kernel
theorem d_M_readCoded_84 : decode b_M_readCoded 84 = .ok (.irem, 1) := by decide +kernel
theorem d_M_readCoded_85 : decode b_M_readCoded 85 = .ok (.istore_n 3, 1) := by decide +kernel
theorem d_M_readCoded_86 : decode b_M_readCoded 86 = .ok (.aload_n 0, 1) := by decide +kernel
theorem d_M_readCoded_87 : decode b_M_readCoded 87 = .ok (.dup, 1) := by decide +kernel
theorem d_M_readCoded_88 : decode b_M_readCoded 88 = .ok (.getfield 148, 3) := by decide +kernel
theorem d_M_readCoded_91 : decode b_M_readCoded 91 = .ok (.iload_n 2, 1) := by decide +kernel
theorem d_M_readCoded_92 : decode b_M_readCoded 92 = .ok (.isub, 1) := by decide +kernel
theorem d_M_readCoded_93 : decode b_M_readCoded 93 = .ok (.putfield 148, 3) := by decide +kernel
theorem d_M_readCoded_96 : decode b_M_readCoded 96 = .ok (.aload_n 0, 1) := by decide +kernel
theorem d_M_readCoded_97 : decode b_M_readCoded 97 = .ok (.getfield 148, 3) := by decide +kernel
theorem d_M_readCoded_100 : decode b_M_readCoded 100 = .ok (.iload_n 2, 1) := by decide +kernel
theorem d_M_readCoded_101 : decode b_M_readCoded 101 = .ok (.if_icmp .ge 7, 3) := by decide +kernel
theorem d_M_readCoded_104 : decode b_M_readCoded 104 = .ok (.iconst 1, 1) := by decide +kernel
theorem d_M_readCoded_105 : decode b_M_readCoded 105 = .ok (.goto 4, 3) := by decide +kernel
theorem d_M_readCoded_108 : decode b_M_readCoded 108 = .ok (.iconst 0, 1) := by decide +kernel
theorem d_M_readCoded_109 : decode b_M_readCoded 109 = .ok (.istore 4, 2) := by decide +kernel
theorem d_M_readCoded_111 : decode b_M_readCoded 111 = .ok (.aload_n 0, 1) := by decide +kernel
theorem d_M_readCoded_112 : decode b_M_readCoded 112 = .ok (.getfield 126, 3) := by decide +kernel
theorem d_M_readCoded_115 : decode b_M_readCoded 115 = .ok (.ldc2_w 141, 3) := by decide +kernel
theorem d_M_readCoded_118 : decode b_M_readCoded 118 = .ok (.ldiv, 1) := by decide +kernel
theorem d_M_readCoded_119 : decode b_M_readCoded 119 = .ok (.iload_n 2, 1) := by decide +kernel
theorem d_M_readCoded_120 : decode b_M_readCoded 120 = .ok (.i2l, 1) := by decide +kernel
theorem d_M_readCoded_121 : decode b_M_readCoded 121 = .ok (.lcmp, 1) := by decide +kernel
theorem d_M_readCoded_122 : decode b_M_readCoded 122 = .ok (.ifCond .ge 7, 3) := by decide +kernel
theorem d_M_readCoded_125 : decode b_M_readCoded 125 = .ok (.iconst 1, 1) := by decide +kernel
theorem d_M_readCoded_126 : decode b_M_readCoded 126 = .ok (.goto 4, 3) := by decide +kernel
theorem d_M_readCoded_129 : decode b_M_readCoded 129 = .ok (.iconst 0, 1) := by decide +kernel
theorem d_M_readCoded_130 : decode b_M_readCoded 130 = .ok (.istore 5, 2) := by decide +kernel
theorem d_M_readCoded_132 : decode b_M_readCoded 132 = .ok (.iload 5, 2) := by decide +kernel
theorem d_M_readCoded_134 : decode b_M_readCoded 134 = .ok (.ifCond .ne 18, 3) := by decide +kernel
theorem d_M_readCoded_137 : decode b_M_readCoded 137 = .ok (.aload_n 0, 1) := by decide +kernel
theorem d_M_readCoded_138 : decode b_M_readCoded 138 = .ok (.dup, 1) := by decide +kernel
theorem d_M_readCoded_139 : decode b_M_readCoded 139 = .ok (.getfield 126, 3) := by decide +kernel
theorem d_M_readCoded_142 : decode b_M_readCoded 142 = .ok (.iload_n 2, 1) := by decide +kernel
theorem d_M_readCoded_143 : decode b_M_readCoded 143 = .ok (.i2l, 1) := by decide +kernel
theorem d_M_readCoded_144 : decode b_M_readCoded 144 = .ok (.ldc2_w 141, 3) := by decide +kernel
theorem d_M_readCoded_147 : decode b_M_readCoded 147 = .ok (.lmul, 1) := by decide +kernel
theorem d_M_readCoded_148 : decode b_M_readCoded 148 = .ok (.lsub, 1) := by decide +kernel
theorem d_M_readCoded_149 : decode b_M_readCoded 149 = .ok (.putfield 126, 3) := by decide +kernel
theorem d_M_readCoded_152 : decode b_M_readCoded 152 = .ok (.iload 5, 2) := by decide +kernel
theorem d_M_readCoded_154 : decode b_M_readCoded 154 = .ok (.ifCond .ne 14, 3) := by decide +kernel
theorem d_M_readCoded_157 : decode b_M_readCoded 157 = .ok (.aload_n 0, 1) := by decide +kernel
theorem d_M_readCoded_158 : decode b_M_readCoded 158 = .ok (.getfield 148, 3) := by decide +kernel
theorem d_M_readCoded_161 : decode b_M_readCoded 161 = .ok (.ldc 65, 2) := by decide +kernel
theorem d_M_readCoded_163 : decode b_M_readCoded 163 = .ok (.if_icmp .lt 5, 3) := by decide +kernel
theorem d_M_readCoded_166 : decode b_M_readCoded 166 = .ok (.iload_n 3, 1) := by decide +kernel
theorem d_M_readCoded_167 : decode b_M_readCoded 167 = .ok (.ireturn, 1) := by decide +kernel
theorem d_M_readCoded_168 : decode b_M_readCoded 168 = .ok (.iload 5, 2) := by decide +kernel
theorem d_M_readCoded_170 : decode b_M_readCoded 170 = .ok (.iload 4, 2) := by decide +kernel
theorem d_M_readCoded_172 : decode b_M_readCoded 172 = .ok (.if_icmp .ne 7, 3) := by decide +kernel
theorem d_M_readCoded_175 : decode b_M_readCoded 175 = .ok (.iconst 1, 1) := by decide +kernel
theorem d_M_readCoded_176 : decode b_M_readCoded 176 = .ok (.goto 4, 3) := by decide +kernel
theorem d_M_readCoded_179 : decode b_M_readCoded 179 = .ok (.iconst 0, 1) := by decide +kernel
theorem d_M_readCoded_180 : decode b_M_readCoded 180 = .ok (.istore 6, 2) := by decide +kernel
theorem d_M_readCoded_182 : decode b_M_readCoded 182 = .ok (.aload_n 0, 1) := by decide +kernel
theorem d_M_readCoded_183 : decode b_M_readCoded 183 = .ok (.iload 5, 2) := by decide +kernel
theorem d_M_readCoded_185 : decode b_M_readCoded 185 = .ok (.ifCond .eq 7, 3) := by decide +kernel
theorem d_M_readCoded_188 : decode b_M_readCoded 188 = .ok (.iload_n 2, 1) := by decide +kernel
theorem d_M_readCoded_189 : decode b_M_readCoded 189 = .ok (.goto 7, 3) := by decide +kernel
theorem d_M_readCoded_192 : decode b_M_readCoded 192 = .ok (.aload_n 0, 1) := by decide +kernel
theorem d_M_readCoded_193 : decode b_M_readCoded 193 = .ok (.getfield 148, 3) := by decide +kernel
theorem d_M_readCoded_196 : decode b_M_readCoded 196 = .ok (.putfield 148, 3) := by decide +kernel
theorem d_M_readCoded_199 : decode b_M_readCoded 199 = .ok (.aload_n 0, 1) := by decide +kernel
theorem d_M_readCoded_200 : decode b_M_readCoded 200 = .ok (.iload_n 1, 1) := by decide +kernel
theorem d_M_readCoded_201 : decode b_M_readCoded 201 = .ok (.iload 6, 2) := by decide +kernel
theorem d_M_readCoded_203 : decode b_M_readCoded 203 = .ok (.invokevirtual 96, 3) := by decide +kernel
theorem d_M_readCoded_206 : decode b_M_readCoded 206 = .ok (.aload_n 0, 1) := by decide +kernel
theorem d_M_readCoded_207 : decode b_M_readCoded 207 = .ok (.getfield 148, 3) := by decide +kernel
theorem d_M_readCoded_210 : decode b_M_readCoded 210 = .ok (.ldc 65, 2) := by decide +kernel
theorem d_M_readCoded_212 : decode b_M_readCoded 212 = .ok (.if_icmp .ge 53, 3) := by decide +kernel
theorem d_M_readCoded_215 : decode b_M_readCoded 215 = .ok (.aload_n 0, 1) := by decide +kernel
theorem d_M_readCoded_216 : decode b_M_readCoded 216 = .ok (.getfield 134, 3) := by decide +kernel
theorem d_M_readCoded_219 : decode b_M_readCoded 219 = .ok (.ifCond .ne 7, 3) := by decide +kernel
theorem d_M_readCoded_222 : decode b_M_readCoded 222 = .ok (.aload_n 0, 1) := by decide +kernel
theorem d_M_readCoded_223 : decode b_M_readCoded 223 = .ok (.invokevirtual 143, 3) := by decide +kernel
theorem d_M_readCoded_226 : decode b_M_readCoded 226 = .ok (.aload_n 0, 1) := by decide +kernel
theorem d_M_readCoded_227 : decode b_M_readCoded 227 = .ok (.iconst 2, 1) := by decide +kernel
theorem d_M_readCoded_228 : decode b_M_readCoded 228 = .ok (.aload_n 0, 1) := by decide +kernel
theorem d_M_readCoded_229 : decode b_M_readCoded 229 = .ok (.getfield 148, 3) := by decide +kernel
theorem d_M_readCoded_232 : decode b_M_readCoded 232 = .ok (.imul, 1) := by decide +kernel
theorem d_M_readCoded_233 : decode b_M_readCoded 233 = .ok (.putfield 148, 3) := by decide +kernel
theorem d_M_readCoded_236 : decode b_M_readCoded 236 = .ok (.aload_n 0, 1) := by decide +kernel
theorem d_M_readCoded_237 : decode b_M_readCoded 237 = .ok (.aload_n 0, 1) := by decide +kernel
theorem d_M_readCoded_238 : decode b_M_readCoded 238 = .ok (.getfield 126, 3) := by decide +kernel
theorem d_M_readCoded_241 : decode b_M_readCoded 241 = .ok (.ldc2_w 151, 3) := by decide +kernel
theorem d_M_readCoded_244 : decode b_M_readCoded 244 = .ok (.lmul, 1) := by decide +kernel
theorem d_M_readCoded_245 : decode b_M_readCoded 245 = .ok (.ldc2_w 132, 3) := by decide +kernel
theorem d_M_readCoded_248 : decode b_M_readCoded 248 = .ok (.lrem, 1) := by decide +kernel
theorem d_M_readCoded_249 : decode b_M_readCoded 249 = .ok (.putfield 126, 3) := by decide +kernel
theorem d_M_readCoded_252 : decode b_M_readCoded 252 = .ok (.aload_n 0, 1) := by decide +kernel
theorem d_M_readCoded_253 : decode b_M_readCoded 253 = .ok (.dup, 1) := by decide +kernel
theorem d_M_readCoded_254 : decode b_M_readCoded 254 = .ok (.getfield 134, 3) := by decide +kernel
theorem d_M_readCoded_257 : decode b_M_readCoded 257 = .ok (.iconst 1, 1) := by decide +kernel
theorem d_M_readCoded_258 : decode b_M_readCoded 258 = .ok (.isub, 1) := by decide +kernel
theorem d_M_readCoded_259 : decode b_M_readCoded 259 = .ok (.putfield 134, 3) := by decide +kernel
theorem d_M_readCoded_262 : decode b_M_readCoded 262 = .ok (.goto (-56), 3) := by decide +kernel
theorem d_M_readCoded_265 : decode b_M_readCoded 265 = .ok (.iload 6, 2) := by decide +kernel
theorem d_M_readCoded_267 : decode b_M_readCoded 267 = .ok (.ifCond .eq 7, 3) := by decide +kernel
theorem d_M_readCoded_270 : decode b_M_readCoded 270 = .ok (.iload_n 3, 1) := by decide +kernel
theorem d_M_readCoded_271 : decode b_M_readCoded 271 = .ok (.goto 6, 3) := by decide +kernel
theorem d_M_readCoded_274 : decode b_M_readCoded 274 = .ok (.iconst 1, 1) := by decide +kernel
theorem d_M_readCoded_275 : decode b_M_readCoded 275 = .ok (.iload_n 3, 1) := by decide +kernel
theorem d_M_readCoded_276 : decode b_M_readCoded 276 = .ok (.isub, 1) := by decide +kernel
theorem d_M_readCoded_277 : decode b_M_readCoded 277 = .ok (.ireturn, 1) := by decide +kernel
theorem d_M_readRaw_0 : decode b_M_readRaw 0 = .ok (.aload_n 0, 1) := by decide +kernel
theorem d_M_readRaw_1 : decode b_M_readRaw 1 = .ok (.getfield 117, 3) := by decide +kernel
theorem d_M_readRaw_4 : decode b_M_readRaw 4 = .ok (.ifCond .ne 63, 3) := by decide +kernel
theorem d_M_readRaw_7 : decode b_M_readRaw 7 = .ok (.aload_n 0, 1) := by decide +kernel
theorem d_M_readRaw_8 : decode b_M_readRaw 8 = .ok (.getfield 114, 3) := by decide +kernel
theorem d_M_readRaw_11 : decode b_M_readRaw 11 = .ok (.ifCond .le 17, 3) := by decide +kernel
theorem d_M_readRaw_14 : decode b_M_readRaw 14 = .ok (.aload_n 0, 1) := by decide +kernel
theorem d_M_readRaw_15 : decode b_M_readRaw 15 = .ok (.getfield 120, 3) := by decide +kernel
theorem d_M_readRaw_18 : decode b_M_readRaw 18 = .ok (.sipush 255, 3) := by decide +kernel
theorem d_M_readRaw_21 : decode b_M_readRaw 21 = .ok (.if_icmp .ne 7, 3) := by decide +kernel
theorem d_M_readRaw_24 : decode b_M_readRaw 24 = .ok (.iconst 1, 1) := by decide +kernel
theorem d_M_readRaw_25 : decode b_M_readRaw 25 = .ok (.goto 4, 3) := by decide +kernel
theorem d_M_readRaw_28 : decode b_M_readRaw 28 = .ok (.iconst 0, 1) := by decide +kernel
theorem d_M_readRaw_29 : decode b_M_readRaw 29 = .ok (.istore_n 1, 1) := by decide +kernel
theorem d_M_readRaw_30 : decode b_M_readRaw 30 = .ok (.aload_n 0, 1) := by decide +kernel
theorem d_M_readRaw_31 : decode b_M_readRaw 31 = .ok (.aload_n 0, 1) := by decide +kernel
theorem d_M_readRaw_32 : decode b_M_readRaw 32 = .ok (.aload_n 0, 1) := by decide +kernel
theorem d_M_readRaw_33 : decode b_M_readRaw 33 = .ok (.getfield 114, 3) := by decide +kernel
theorem d_M_readRaw_36 : decode b_M_readRaw 36 = .ok (.invokevirtual 123, 3) := by decide +kernel
theorem d_M_readRaw_39 : decode b_M_readRaw 39 = .ok (.putfield 120, 3) := by decide +kernel
theorem d_M_readRaw_42 : decode b_M_readRaw 42 = .ok (.aload_n 0, 1) := by decide +kernel
theorem d_M_readRaw_43 : decode b_M_readRaw 43 = .ok (.dup, 1) := by decide +kernel
theorem d_M_readRaw_44 : decode b_M_readRaw 44 = .ok (.getfield 114, 3) := by decide +kernel
theorem d_M_readRaw_47 : decode b_M_readRaw 47 = .ok (.iconst 1, 1) := by decide +kernel
theorem d_M_readRaw_48 : decode b_M_readRaw 48 = .ok (.iadd, 1) := by decide +kernel
theorem d_M_readRaw_49 : decode b_M_readRaw 49 = .ok (.putfield 114, 3) := by decide +kernel
theorem d_M_readRaw_52 : decode b_M_readRaw 52 = .ok (.aload_n 0, 1) := by decide +kernel
theorem d_M_readRaw_53 : decode b_M_readRaw 53 = .ok (.iload_n 1, 1) := by decide +kernel
theorem d_M_readRaw_54 : decode b_M_readRaw 54 = .ok (.ifCond .eq 8, 3) := by decide +kernel
theorem d_M_readRaw_57 : decode b_M_readRaw 57 = .ok (.bipush 7, 2) := by decide +kernel
theorem d_M_readRaw_59 : decode b_M_readRaw 59 = .ok (.goto 5, 3) := by decide +kernel
theorem d_M_readRaw_62 : decode b_M_readRaw 62 = .ok (.bipush 8, 2) := by decide +kernel
theorem d_M_readRaw_64 : decode b_M_readRaw 64 = .ok (.putfield 117, 3) := by decide +kernel
theorem d_M_readRaw_67 : decode b_M_readRaw 67 = .ok (.aload_n 0, 1) := by decide +kernel
theorem d_M_readRaw_68 : decode b_M_readRaw 68 = .ok (.dup, 1) := by decide +kernel
theorem d_M_readRaw_69 : decode b_M_readRaw 69 = .ok (.getfield 117, 3) := by decide +kernel
theorem d_M_readRaw_72 : decode b_M_readRaw 72 = .ok (.iconst 1, 1) := by decide +kernel
theorem d_M_readRaw_73 : decode b_M_readRaw 73 = .ok (.isub, 1) := by decide +kernel
theorem d_M_readRaw_74 : decode b_M_readRaw 74 = .ok (.putfield 117, 3) := by decide +kernel
theorem d_M_readRaw_77 : decode b_M_readRaw 77 = .ok (.aload_n 0, 1) := by decide +kernel
theorem d_M_readRaw_78 : decode b_M_readRaw 78 = .ok (.getfield 120, 3) := by decide +kernel
theorem d_M_readRaw_81 : decode b_M_readRaw 81 = .ok (.aload_n 0, 1) := by decide +kernel
theorem d_M_readRaw_82 : decode b_M_readRaw 82 = .ok (.getfield 117, 3) := by decide +kernel
theorem d_M_readRaw_85 : decode b_M_readRaw 85 = .ok (.ishr, 1) := by decide +kernel
theorem d_M_readRaw_86 : decode b_M_readRaw 86 = .ok (.iconst 1, 1) := by decide +kernel
theorem d_M_readRaw_87 : decode b_M_readRaw 87 = .ok (.iand, 1) := by decide +kernel
theorem d_M_readRaw_88 : decode b_M_readRaw 88 = .ok (.ireturn, 1) := by decide +kernel
theorem d_M_readBit_0 : decode b_M_readBit 0 = .ok (.aload_n 0, 1) := by decide +kernel
theorem d_M_readBit_1 : decode b_M_readBit 1 = .ok (.getfield 30, 3) := by decide +kernel
theorem d_M_readBit_4 : decode b_M_readBit 4 = .ok (.aload_n 0, 1) := by decide +kernel
theorem d_M_readBit_5 : decode b_M_readBit 5 = .ok (.getfield 111, 3) := by decide +kernel
theorem d_M_readBit_8 : decode b_M_readBit 8 = .ok (.baload, 1) := by decide +kernel
theorem d_M_readBit_9 : decode b_M_readBit 9 = .ok (.ifCond .eq 10, 3) := by decide +kernel
theorem d_M_readBit_12 : decode b_M_readBit 12 = .ok (.aload_n 0, 1) := by decide +kernel
theorem d_M_readBit_13 : decode b_M_readBit 13 = .ok (.invokevirtual 153, 3) := by decide +kernel
theorem d_M_readBit_16 : decode b_M_readBit 16 = .ok (.goto 8, 3) := by decide +kernel
theorem d_M_readBit_19 : decode b_M_readBit 19 = .ok (.aload_n 0, 1) := by decide +kernel
theorem d_M_readBit_20 : decode b_M_readBit 20 = .ok (.iload_n 1, 1) := by decide +kernel
theorem d_M_readBit_21 : decode b_M_readBit 21 = .ok (.invokevirtual 156, 3) := by decide +kernel
theorem d_M_readBit_24 : decode b_M_readBit 24 = .ok (.ireturn, 1) := by decide +kernel
theorem d_M_encode_0 : decode b_M_encode 0 = .ok (.aload_n 0, 1) := by decide +kernel
theorem d_M_encode_1 : decode b_M_encode 1 = .ok (.iload_n 1, 1) := by decide +kernel
theorem d_M_encode_2 : decode b_M_encode 2 = .ok (.iconst 0, 1) := by decide +kernel
theorem d_M_encode_3 : decode b_M_encode 3 = .ok (.aload_n 0, 1) := by decide +kernel
theorem d_M_encode_4 : decode b_M_encode 4 = .ok (.getfield 39, 3) := by decide +kernel
theorem d_M_encode_7 : decode b_M_encode 7 = .ok (.iconst 1, 1) := by decide +kernel
theorem d_M_encode_8 : decode b_M_encode 8 = .ok (.isub, 1) := by decide +kernel
theorem d_M_encode_9 : decode b_M_encode 9 = .ok (.invokestatic 159, 3) := by decide +kernel
theorem d_M_encode_12 : decode b_M_encode 12 = .ok (.ifCond .ne 7, 3) := by decide +kernel
theorem d_M_encode_15 : decode b_M_encode 15 = .ok (.iconst 1, 1) := by decide +kernel
theorem d_M_encode_16 : decode b_M_encode 16 = .ok (.goto 28, 3) := by decide +kernel
theorem d_M_encode_19 : decode b_M_encode 19 = .ok (.aload_n 0, 1) := by decide +kernel
theorem d_M_encode_20 : decode b_M_encode 20 = .ok (.getfield 50, 3) := by decide +kernel
theorem d_M_encode_23 : decode b_M_encode 23 = .ok (.ifCond .eq 7, 3) := by decide +kernel
theorem d_M_encode_26 : decode b_M_encode 26 = .ok (.iconst 2, 1) := by decide +kernel
theorem d_M_encode_27 : decode b_M_encode 27 = .ok (.goto 17, 3) := by decide +kernel
theorem d_M_encode_30 : decode b_M_encode 30 = .ok (.iload_n 2, 1) := by decide +kernel
theorem d_M_encode_31 : decode b_M_encode 31 = .ok (.iconst 0, 1) := by decide +kernel
theorem d_M_encode_32 : decode b_M_encode 32 = .ok (.iconst 1, 1) := by decide +kernel
theorem d_M_encode_33 : decode b_M_encode 33 = .ok (.invokestatic 159, 3) := by decide +kernel
theorem d_M_encode_36 : decode b_M_encode 36 = .ok (.ifCond .eq 7, 3) := by decide +kernel
theorem d_M_encode_39 : decode b_M_encode 39 = .ok (.iconst 0, 1) := by decide +kernel
theorem d_M_encode_40 : decode b_M_encode 40 = .ok (.goto 4, 3) := by decide +kernel
theorem d_M_encode_43 : decode b_M_encode 43 = .ok (.iconst 3, 1) := by decide +kernel
theorem d_M_encode_44 : decode b_M_encode 44 = .ok (.putfield 47, 3) := by decide +kernel
theorem d_M_encode_47 : decode b_M_encode 47 = .ok (.aload_n 0, 1) := by decide +kernel
theorem d_M_encode_48 : decode b_M_encode 48 = .ok (.getfield 47, 3) := by decide +kernel
theorem d_M_encode_51 : decode b_M_encode 51 = .ok (.ifCond .le 5, 3) := by decide +kernel
theorem d_M_encode_54 : decode b_M_encode 54 = .ok (.iconst 0, 1) := by decide +kernel
theorem d_M_encode_55 : decode b_M_encode 55 = .ok (.ireturn, 1) := by decide +kernel
theorem d_M_encode_56 : decode b_M_encode 56 = .ok (.aload_n 0, 1) := by decide +kernel
theorem d_M_encode_57 : decode b_M_encode 57 = .ok (.aload_n 0, 1) := by decide +kernel
theorem d_M_encode_58 : decode b_M_encode 58 = .ok (.iload_n 1, 1) := by decide +kernel
theorem d_M_encode_59 : decode b_M_encode 59 = .ok (.invokevirtual 163, 3) := by decide +kernel
theorem d_M_encode_62 : decode b_M_encode 62 = .ok (.iload_n 2, 1) := by decide +kernel
theorem d_M_encode_63 : decode b_M_encode 63 = .ok (.invokevirtual 166, 3) := by decide +kernel
theorem d_M_encode_66 : decode b_M_encode 66 = .ok (.aload_n 0, 1) := by decide +kernel
theorem d_M_encode_67 : decode b_M_encode 67 = .ok (.getfield 62, 3) := by decide +kernel
theorem d_M_encode_70 : decode b_M_encode 70 = .ok (.ireturn, 1) := by decide +kernel
theorem d_M_finish_0 : decode b_M_finish 0 = .ok (.aload_n 0, 1) := by decide +kernel
theorem d_M_finish_1 : decode b_M_finish 1 = .ok (.aload_n 0, 1) := by decide +kernel
theorem d_M_finish_2 : decode b_M_finish 2 = .ok (.getfield 50, 3) := by decide +kernel
theorem d_M_finish_5 : decode b_M_finish 5 = .ok (.ifCond .eq 7, 3) := by decide +kernel
theorem d_M_finish_8 : decode b_M_finish 8 = .ok (.iconst 1, 1) := by decide +kernel
theorem d_M_finish_9 : decode b_M_finish 9 = .ok (.goto 4, 3) := by decide +kernel
theorem d_M_finish_12 : decode b_M_finish 12 = .ok (.iconst 0, 1) := by decide +kernel
theorem d_M_finish_13 : decode b_M_finish 13 = .ok (.putfield 47, 3) := by decide +kernel
theorem d_M_finish_16 : decode b_M_finish 16 = .ok (.aload_n 0, 1) := by decide +kernel
theorem d_M_finish_17 : decode b_M_finish 17 = .ok (.getfield 47, 3) := by decide +kernel
theorem d_M_finish_20 : decode b_M_finish 20 = .ok (.ifCond .le 5, 3) := by decide +kernel
theorem d_M_finish_23 : decode b_M_finish 23 = .ok (.iconst 0, 1) := by decide +kernel
theorem d_M_finish_24 : decode b_M_finish 24 = .ok (.ireturn, 1) := by decide +kernel
theorem d_M_finish_25 : decode b_M_finish 25 = .ok (.aload_n 0, 1) := by decide +kernel
theorem d_M_finish_26 : decode b_M_finish 26 = .ok (.invokevirtual 169, 3) := by decide +kernel
theorem d_M_finish_29 : decode b_M_finish 29 = .ok (.aload_n 0, 1) := by decide +kernel
theorem d_M_finish_30 : decode b_M_finish 30 = .ok (.iconst 1, 1) := by decide +kernel
theorem d_M_finish_31 : decode b_M_finish 31 = .ok (.putfield 50, 3) := by decide +kernel
theorem d_M_finish_34 : decode b_M_finish 34 = .ok (.aload_n 0, 1) := by decide +kernel
theorem d_M_finish_35 : decode b_M_finish 35 = .ok (.iconst 0, 1) := by decide +kernel
theorem d_M_finish_36 : decode b_M_finish 36 = .ok (.putfield 172, 3) := by decide +kernel
theorem d_M_finish_39 : decode b_M_finish 39 = .ok (.aload_n 0, 1) := by decide +kernel
theorem d_M_finish_40 : decode b_M_finish 40 = .ok (.iconst 0, 1) := by decide +kernel
theorem d_M_finish_41 : decode b_M_finish 41 = .ok (.invokevirtual 175, 3) := by decide +kernel
theorem d_M_finish_44 : decode b_M_finish 44 = .ok (.aload_n 0, 1) := by decide +kernel
theorem d_M_finish_45 : decode b_M_finish 45 = .ok (.getfield 62, 3) := by decide +kernel
theorem d_M_finish_48 : decode b_M_finish 48 = .ok (.ireturn, 1) := by decide +kernel
theorem d_M_byteAt_0 : decode b_M_byteAt 0 = .ok (.aload_n 0, 1) := by decide +kernel
theorem d_M_byteAt_1 : decode b_M_byteAt 1 = .ok (.iload_n 1, 1) := by decide +kernel
theorem d_M_byteAt_2 : decode b_M_byteAt 2 = .ok (.iconst 0, 1) := by decide +kernel
theorem d_M_byteAt_3 : decode b_M_byteAt 3 = .ok (.aload_n 0, 1) := by decide +kernel
theorem d_M_byteAt_4 : decode b_M_byteAt 4 = .ok (.getfield 62, 3) := by decide +kernel
theorem d_M_byteAt_7 : decode b_M_byteAt 7 = .ok (.iconst 1, 1) := by decide +kernel
theorem d_M_byteAt_8 : decode b_M_byteAt 8 = .ok (.isub, 1) := by decide +kernel
theorem d_M_byteAt_9 : decode b_M_byteAt 9 = .ok (.invokestatic 159, 3) := by decide +kernel
theorem d_M_byteAt_12 : decode b_M_byteAt 12 = .ok (.ifCond .eq 7, 3) := by decide +kernel
theorem d_M_byteAt_15 : decode b_M_byteAt 15 = .ok (.iconst 0, 1) := by decide +kernel
theorem d_M_byteAt_16 : decode b_M_byteAt 16 = .ok (.goto 4, 3) := by decide +kernel
theorem d_M_byteAt_19 : decode b_M_byteAt 19 = .ok (.iconst 1, 1) := by decide +kernel
theorem d_M_byteAt_20 : decode b_M_byteAt 20 = .ok (.putfield 47, 3) := by decide +kernel
theorem d_M_byteAt_23 : decode b_M_byteAt 23 = .ok (.aload_n 0, 1) := by decide +kernel
theorem d_M_byteAt_24 : decode b_M_byteAt 24 = .ok (.getfield 47, 3) := by decide +kernel
theorem d_M_byteAt_27 : decode b_M_byteAt 27 = .ok (.ifCond .le 7, 3) := by decide +kernel
theorem d_M_byteAt_30 : decode b_M_byteAt 30 = .ok (.iconst 0, 1) := by decide +kernel
theorem d_M_byteAt_31 : decode b_M_byteAt 31 = .ok (.goto 9, 3) := by decide +kernel
theorem d_M_byteAt_34 : decode b_M_byteAt 34 = .ok (.aload_n 0, 1) := by decide +kernel
theorem d_M_byteAt_35 : decode b_M_byteAt 35 = .ok (.getfield 35, 3) := by decide +kernel
theorem d_M_byteAt_38 : decode b_M_byteAt 38 = .ok (.iload_n 1, 1) := by decide +kernel
theorem d_M_byteAt_39 : decode b_M_byteAt 39 = .ok (.iaload, 1) := by decide +kernel
theorem d_M_byteAt_40 : decode b_M_byteAt 40 = .ok (.ireturn, 1) := by decide +kernel
theorem d_M_feed_0 : decode b_M_feed 0 = .ok (.aload_n 0, 1) := by decide +kernel
theorem d_M_feed_1 : decode b_M_feed 1 = .ok (.aload_n 0, 1) := by decide +kernel
theorem d_M_feed_2 : decode b_M_feed 2 = .ok (.getfield 50, 3) := by decide +kernel
theorem d_M_feed_5 : decode b_M_feed 5 = .ok (.ifCond .eq 17, 3) := by decide +kernel
theorem d_M_feed_8 : decode b_M_feed 8 = .ok (.aload_n 0, 1) := by decide +kernel
theorem d_M_feed_9 : decode b_M_feed 9 = .ok (.getfield 172, 3) := by decide +kernel
theorem d_M_feed_12 : decode b_M_feed 12 = .ok (.ifCond .ne 10, 3) := by decide +kernel
theorem d_M_feed_15 : decode b_M_feed 15 = .ok (.aload_n 0, 1) := by decide +kernel
theorem d_M_feed_16 : decode b_M_feed 16 = .ok (.getfield 114, 3) := by decide +kernel
theorem d_M_feed_19 : decode b_M_feed 19 = .ok (.ifCond .le 7, 3) := by decide +kernel
theorem d_M_feed_22 : decode b_M_feed 22 = .ok (.iconst 1, 1) := by decide +kernel
theorem d_M_feed_23 : decode b_M_feed 23 = .ok (.goto 19, 3) := by decide +kernel
theorem d_M_feed_26 : decode b_M_feed 26 = .ok (.iload_n 1, 1) := by decide +kernel
theorem d_M_feed_27 : decode b_M_feed 27 = .ok (.iconst 0, 1) := by decide +kernel
theorem d_M_feed_28 : decode b_M_feed 28 = .ok (.sipush 255, 3) := by decide +kernel
theorem d_M_feed_31 : decode b_M_feed 31 = .ok (.invokestatic 159, 3) := by decide +kernel
theorem d_M_feed_34 : decode b_M_feed 34 = .ok (.ifCond .eq 7, 3) := by decide +kernel
theorem d_M_feed_37 : decode b_M_feed 37 = .ok (.iconst 0, 1) := by decide +kernel
theorem d_M_feed_38 : decode b_M_feed 38 = .ok (.goto 4, 3) := by decide +kernel
theorem d_M_feed_41 : decode b_M_feed 41 = .ok (.iconst 2, 1) := by decide +kernel
theorem d_M_feed_42 : decode b_M_feed 42 = .ok (.putfield 47, 3) := by decide +kernel
theorem d_M_feed_45 : decode b_M_feed 45 = .ok (.aload_n 0, 1) := by decide +kernel
theorem d_M_feed_46 : decode b_M_feed 46 = .ok (.getfield 47, 3) := by decide +kernel
theorem d_M_feed_49 : decode b_M_feed 49 = .ok (.ifCond .gt 13, 3) := by decide +kernel
theorem d_M_feed_52 : decode b_M_feed 52 = .ok (.aload_n 0, 1) := by decide +kernel
theorem d_M_feed_53 : decode b_M_feed 53 = .ok (.getfield 62, 3) := by decide +kernel
theorem d_M_feed_56 : decode b_M_feed 56 = .ok (.sipush 4000, 3) := by decide +kernel
theorem d_M_feed_59 : decode b_M_feed 59 = .ok (.if_icmp .lt 5, 3) := by decide +kernel
theorem d_M_feed_62 : decode b_M_feed 62 = .ok (.iconst 0, 1) := by decide +kernel
theorem d_M_feed_63 : decode b_M_feed 63 = .ok (.ireturn, 1) := by decide +kernel
theorem d_M_feed_64 : decode b_M_feed 64 = .ok (.aload_n 0, 1) := by decide +kernel
theorem d_M_feed_65 : decode b_M_feed 65 = .ok (.iload_n 1, 1) := by decide +kernel
theorem d_M_feed_66 : decode b_M_feed 66 = .ok (.invokevirtual 88, 3) := by decide +kernel
theorem d_M_feed_69 : decode b_M_feed 69 = .ok (.iconst 1, 1) := by decide +kernel
theorem d_M_feed_70 : decode b_M_feed 70 = .ok (.ireturn, 1) := by decide +kernel
theorem d_M_decode_0 : decode b_M_decode 0 = .ok (.aload_n 0, 1) := by decide +kernel
theorem d_M_decode_1 : decode b_M_decode 1 = .ok (.iload_n 1, 1) := by decide +kernel
theorem d_M_decode_2 : decode b_M_decode 2 = .ok (.iconst 0, 1) := by decide +kernel
theorem d_M_decode_3 : decode b_M_decode 3 = .ok (.aload_n 0, 1) := by decide +kernel
theorem d_M_decode_4 : decode b_M_decode 4 = .ok (.getfield 39, 3) := by decide +kernel
theorem d_M_decode_7 : decode b_M_decode 7 = .ok (.iconst 1, 1) := by decide +kernel
theorem d_M_decode_8 : decode b_M_decode 8 = .ok (.isub, 1) := by decide +kernel
theorem d_M_decode_9 : decode b_M_decode 9 = .ok (.invokestatic 159, 3) := by decide +kernel
theorem d_M_decode_12 : decode b_M_decode 12 = .ok (.ifCond .ne 7, 3) := by decide +kernel
theorem d_M_decode_15 : decode b_M_decode 15 = .ok (.iconst 1, 1) := by decide +kernel
theorem d_M_decode_16 : decode b_M_decode 16 = .ok (.goto 15, 3) := by decide +kernel
theorem d_M_decode_19 : decode b_M_decode 19 = .ok (.aload_n 0, 1) := by decide +kernel
theorem d_M_decode_20 : decode b_M_decode 20 = .ok (.getfield 50, 3) := by decide +kernel
theorem d_M_decode_23 : decode b_M_decode 23 = .ok (.ifCond .ne 7, 3) := by decide +kernel
theorem d_M_decode_26 : decode b_M_decode 26 = .ok (.iconst 2, 1) := by decide +kernel
theorem d_M_decode_27 : decode b_M_decode 27 = .ok (.goto 4, 3) := by decide +kernel
theorem d_M_decode_30 : decode b_M_decode 30 = .ok (.iconst 0, 1) := by decide +kernel
theorem d_M_decode_31 : decode b_M_decode 31 = .ok (.putfield 47, 3) := by decide +kernel
theorem d_M_decode_34 : decode b_M_decode 34 = .ok (.aload_n 0, 1) := by decide +kernel
theorem d_M_decode_35 : decode b_M_decode 35 = .ok (.getfield 47, 3) := by decide +kernel
theorem d_M_decode_38 : decode b_M_decode 38 = .ok (.ifCond .le 7, 3) := by decide +kernel
theorem d_M_decode_41 : decode b_M_decode 41 = .ok (.iconst 0, 1) := by decide +kernel
theorem d_M_decode_42 : decode b_M_decode 42 = .ok (.goto 12, 3) := by decide +kernel
theorem d_M_decode_45 : decode b_M_decode 45 = .ok (.aload_n 0, 1) := by decide +kernel
theorem d_M_decode_46 : decode b_M_decode 46 = .ok (.aload_n 0, 1) := by decide +kernel
theorem d_M_decode_47 : decode b_M_decode 47 = .ok (.iload_n 1, 1) := by decide +kernel
theorem d_M_decode_48 : decode b_M_decode 48 = .ok (.invokevirtual 163, 3) := by decide +kernel
theorem d_M_decode_51 : decode b_M_decode 51 = .ok (.invokevirtual 178, 3) := by decide +kernel
theorem d_M_decode_54 : decode b_M_decode 54 = .ok (.ireturn, 1) := by decide +kernel
theorem d_M_state_0 : decode b_M_state 0 = .ok (.aload_n 0, 1) := by decide +kernel
theorem d_M_state_1 : decode b_M_state 1 = .ok (.iload_n 1, 1) := by decide +kernel
theorem d_M_state_2 : decode b_M_state 2 = .ok (.iconst 0, 1) := by decide +kernel
theorem d_M_state_3 : decode b_M_state 3 = .ok (.iconst 1, 1) := by decide +kernel
theorem d_M_state_4 : decode b_M_state 4 = .ok (.invokestatic 159, 3) := by decide +kernel
theorem d_M_state_7 : decode b_M_state 7 = .ok (.ifCond .eq 21, 3) := by decide +kernel
theorem d_M_state_10 : decode b_M_state 10 = .ok (.iload_n 2, 1) := by decide +kernel
theorem d_M_state_11 : decode b_M_state 11 = .ok (.iconst 0, 1) := by decide +kernel
theorem d_M_state_12 : decode b_M_state 12 = .ok (.aload_n 0, 1) := by decide +kernel
theorem d_M_state_13 : decode b_M_state 13 = .ok (.getfield 39, 3) := by decide +kernel
theorem d_M_state_16 : decode b_M_state 16 = .ok (.iconst 1, 1) := by decide +kernel
theorem d_M_state_17 : decode b_M_state 17 = .ok (.isub, 1) := by decide +kernel
theorem d_M_state_18 : decode b_M_state 18 = .ok (.invokestatic 159, 3) := by decide +kernel
theorem d_M_state_21 : decode b_M_state 21 = .ok (.ifCond .eq 7, 3) := by decide +kernel
theorem d_M_state_24 : decode b_M_state 24 = .ok (.iconst 0, 1) := by decide +kernel
theorem d_M_state_25 : decode b_M_state 25 = .ok (.goto 4, 3) := by decide +kernel
theorem d_M_state_28 : decode b_M_state 28 = .ok (.iconst 1, 1) := by decide +kernel
theorem d_M_state_29 : decode b_M_state 29 = .ok (.putfield 47, 3) := by decide +kernel
theorem d_M_state_32 : decode b_M_state 32 = .ok (.aload_n 0, 1) := by decide +kernel
theorem d_M_state_33 : decode b_M_state 33 = .ok (.getfield 47, 3) := by decide +kernel
theorem d_M_state_36 : decode b_M_state 36 = .ok (.ifCond .le 7, 3) := by decide +kernel
theorem d_M_state_39 : decode b_M_state 39 = .ok (.iconst 0, 1) := by decide +kernel
theorem d_M_state_40 : decode b_M_state 40 = .ok (.goto 14, 3) := by decide +kernel
theorem d_M_state_43 : decode b_M_state 43 = .ok (.aload_n 0, 1) := by decide +kernel
theorem d_M_state_44 : decode b_M_state 44 = .ok (.getfield 20, 3) := by decide +kernel
theorem d_M_state_47 : decode b_M_state 47 = .ok (.ldc 38, 2) := by decide +kernel
theorem d_M_state_49 : decode b_M_state 49 = .ok (.iload_n 1, 1) := by decide +kernel
theorem d_M_state_50 : decode b_M_state 50 = .ok (.imul, 1) := by decide +kernel
theorem d_M_state_51 : decode b_M_state 51 = .ok (.iload_n 2, 1) := by decide +kernel
theorem d_M_state_52 : decode b_M_state 52 = .ok (.iadd, 1) := by decide +kernel
theorem d_M_state_53 : decode b_M_state 53 = .ok (.iaload, 1) := by decide +kernel
theorem d_M_state_54 : decode b_M_state 54 = .ok (.ireturn, 1) := by decide +kernel
theorem d_M_pass_0 : decode b_M_pass 0 = .ok (.aload_n 0, 1) := by decide +kernel
theorem d_M_pass_1 : decode b_M_pass 1 = .ok (.iload_n 1, 1) := by decide +kernel
theorem d_M_pass_2 : decode b_M_pass 2 = .ok (.aload_n 0, 1) := by decide +kernel
theorem d_M_pass_3 : decode b_M_pass 3 = .ok (.getfield 181, 3) := by decide +kernel
theorem d_M_pass_6 : decode b_M_pass 6 = .ok (.invokevirtual 184, 3) := by decide +kernel
theorem d_M_pass_9 : decode b_M_pass 9 = .ok (.istore_n 3, 1) := by decide +kernel
theorem d_M_pass_10 : decode b_M_pass 10 = .ok (.iload_n 2, 1) := by decide +kernel
theorem d_M_pass_11 : decode b_M_pass 11 = .ok (.istore 4, 2) := by decide +kernel
theorem d_M_pass_13 : decode b_M_pass 13 = .ok (.aload_n 0, 1) := by decide +kernel
theorem d_M_pass_14 : decode b_M_pass 14 = .ok (.getfield 50, 3) := by decide +kernel
theorem d_M_pass_17 : decode b_M_pass 17 = .ok (.ifCond .eq 13, 3) := by decide +kernel
theorem d_M_pass_20 : decode b_M_pass 20 = .ok (.aload_n 0, 1) := by decide +kernel
theorem d_M_pass_21 : decode b_M_pass 21 = .ok (.iload_n 3, 1) := by decide +kernel
theorem d_M_pass_22 : decode b_M_pass 22 = .ok (.invokevirtual 178, 3) := by decide +kernel
theorem d_M_pass_25 : decode b_M_pass 25 = .ok (.istore 4, 2) := by decide +kernel
theorem d_M_pass_27 : decode b_M_pass 27 = .ok (.goto 9, 3) := by decide +kernel
theorem d_M_pass_30 : decode b_M_pass 30 = .ok (.aload_n 0, 1) := by decide +kernel
theorem d_M_pass_31 : decode b_M_pass 31 = .ok (.iload_n 3, 1) := by decide +kernel
theorem d_M_pass_32 : decode b_M_pass 32 = .ok (.iload_n 2, 1) := by decide +kernel
theorem d_M_pass_33 : decode b_M_pass 33 = .ok (.invokevirtual 166, 3) := by decide +kernel
theorem d_M_pass_36 : decode b_M_pass 36 = .ok (.aload_n 0, 1) := by decide +kernel
theorem d_M_pass_37 : decode b_M_pass 37 = .ok (.iconst 2, 1) := by decide +kernel
theorem d_M_pass_38 : decode b_M_pass 38 = .ok (.aload_n 0, 1) := by decide +kernel
theorem d_M_pass_39 : decode b_M_pass 39 = .ok (.getfield 181, 3) := by decide +kernel
theorem d_M_pass_42 : decode b_M_pass 42 = .ok (.imul, 1) := by decide +kernel
theorem d_M_pass_43 : decode b_M_pass 43 = .ok (.iload 4, 2) := by decide +kernel
theorem d_M_pass_45 : decode b_M_pass 45 = .ok (.iadd, 1) := by decide +kernel
theorem d_M_pass_46 : decode b_M_pass 46 = .ok (.putfield 181, 3) := by decide +kernel
theorem d_M_pass_49 : decode b_M_pass 49 = .ok (.aload_n 0, 1) := by decide +kernel
theorem d_M_pass_50 : decode b_M_pass 50 = .ok (.aload_n 0, 1) := by decide +kernel
theorem d_M_pass_51 : decode b_M_pass 51 = .ok (.getfield 181, 3) := by decide +kernel
theorem d_M_pass_54 : decode b_M_pass 54 = .ok (.sipush 512, 3) := by decide +kernel
theorem d_M_pass_57 : decode b_M_pass 57 = .ok (.if_icmp .lt 18, 3) := by decide +kernel
theorem d_M_pass_60 : decode b_M_pass 60 = .ok (.aload_n 0, 1) := by decide +kernel
theorem d_M_pass_61 : decode b_M_pass 61 = .ok (.getfield 181, 3) := by decide +kernel
theorem d_M_pass_64 : decode b_M_pass 64 = .ok (.sipush 256, 3) := by decide +kernel
theorem d_M_pass_67 : decode b_M_pass 67 = .ok (.irem, 1) := by decide +kernel
theorem d_M_pass_68 : decode b_M_pass 68 = .ok (.sipush 256, 3) := by decide +kernel
theorem d_M_pass_71 : decode b_M_pass 71 = .ok (.iadd, 1) := by decide +kernel
theorem d_M_pass_72 : decode b_M_pass 72 = .ok (.goto 7, 3) := by decide +kernel
theorem d_M_pass_75 : decode b_M_pass 75 = .ok (.aload_n 0, 1) := by decide +kernel
theorem d_M_pass_76 : decode b_M_pass 76 = .ok (.getfield 181, 3) := by decide +kernel
theorem d_M_pass_79 : decode b_M_pass 79 = .ok (.putfield 181, 3) := by decide +kernel
theorem d_M_pass_82 : decode b_M_pass 82 = .ok (.aload_n 0, 1) := by decide +kernel
theorem d_M_pass_83 : decode b_M_pass 83 = .ok (.dup, 1) := by decide +kernel
theorem d_M_pass_84 : decode b_M_pass 84 = .ok (.getfield 188, 3) := by decide +kernel
theorem d_M_pass_87 : decode b_M_pass 87 = .ok (.iconst 1, 1) := by decide +kernel
theorem d_M_pass_88 : decode b_M_pass 88 = .ok (.iadd, 1) := by decide +kernel
theorem d_M_pass_89 : decode b_M_pass 89 = .ok (.putfield 188, 3) := by decide +kernel
theorem d_M_pass_92 : decode b_M_pass 92 = .ok (.iload 4, 2) := by decide +kernel
theorem d_M_pass_94 : decode b_M_pass 94 = .ok (.ireturn, 1) := by decide +kernel
theorem d_M_passNumber_0 : decode b_M_passNumber 0 = .ok (.iconst 0, 1) := by decide +kernel
theorem d_M_passNumber_1 : decode b_M_passNumber 1 = .ok (.istore 4, 2) := by decide +kernel
theorem d_M_passNumber_3 : decode b_M_passNumber 3 = .ok (.iload_n 3, 1) := by decide +kernel
theorem d_M_passNumber_4 : decode b_M_passNumber 4 = .ok (.iconst 1, 1) := by decide +kernel
theorem d_M_passNumber_5 : decode b_M_passNumber 5 = .ok (.isub, 1) := by decide +kernel
theorem d_M_passNumber_6 : decode b_M_passNumber 6 = .ok (.istore 5, 2) := by decide +kernel
theorem d_M_passNumber_8 : decode b_M_passNumber 8 = .ok (.iload 5, 2) := by decide +kernel
theorem d_M_passNumber_10 : decode b_M_passNumber 10 = .ok (.ifCond .lt 27, 3) := by decide +kernel
theorem d_M_passNumber_13 : decode b_M_passNumber 13 = .ok (.iconst 2, 1) := by decide +kernel
theorem d_M_passNumber_14 : decode b_M_passNumber 14 = .ok (.iload 4, 2) := by decide +kernel
theorem d_M_passNumber_16 : decode b_M_passNumber 16 = .ok (.imul, 1) := by decide +kernel
theorem d_M_passNumber_17 : decode b_M_passNumber 17 = .ok (.aload_n 0, 1) := by decide +kernel
theorem d_M_passNumber_18 : decode b_M_passNumber 18 = .ok (.iload_n 1, 1) := by decide +kernel
theorem d_M_passNumber_19 : decode b_M_passNumber 19 = .ok (.iload_n 2, 1) := by decide +kernel
theorem d_M_passNumber_20 : decode b_M_passNumber 20 = .ok (.iload 5, 2) := by decide +kernel
theorem d_M_passNumber_22 : decode b_M_passNumber 22 = .ok (.ishr, 1) := by decide +kernel
theorem d_M_passNumber_23 : decode b_M_passNumber 23 = .ok (.iconst 1, 1) := by decide +kernel
theorem d_M_passNumber_24 : decode b_M_passNumber 24 = .ok (.iand, 1) := by decide +kernel
theorem d_M_passNumber_25 : decode b_M_passNumber 25 = .ok (.invokevirtual 191, 3) := by decide +kernel
theorem d_M_passNumber_28 : decode b_M_passNumber 28 = .ok (.iadd, 1) := by decide +kernel
theorem d_M_passNumber_29 : decode b_M_passNumber 29 = .ok (.istore 4, 2) := by decide +kernel
theorem d_M_passNumber_31 : decode b_M_passNumber 31 = .ok (.iinc 5 (-1), 3) := by decide +kernel
theorem d_M_passNumber_34 : decode b_M_passNumber 34 = .ok (.goto (-26), 3) := by decide +kernel
theorem d_M_passNumber_37 : decode b_M_passNumber 37 = .ok (.iload 4, 2) := by decide +kernel
theorem d_M_passNumber_39 : decode b_M_passNumber 39 = .ok (.ireturn, 1) := by decide +kernel
theorem d_M_leastOf_0 : decode b_M_leastOf 0 = .ok (.iload_n 0, 1) := by decide +kernel
theorem d_M_leastOf_1 : decode b_M_leastOf 1 = .ok (.ifCond .ne 7, 3) := by decide +kernel
theorem d_M_leastOf_4 : decode b_M_leastOf 4 = .ok (.iconst 0, 1) := by decide +kernel
theorem d_M_leastOf_5 : decode b_M_leastOf 5 = .ok (.goto 46, 3) := by decide +kernel
theorem d_M_leastOf_8 : decode b_M_leastOf 8 = .ok (.iload_n 0, 1) := by decide +kernel
theorem d_M_leastOf_9 : decode b_M_leastOf 9 = .ok (.iconst 1, 1) := by decide +kernel
theorem d_M_leastOf_10 : decode b_M_leastOf 10 = .ok (.if_icmp .ne 7, 3) := by decide +kernel
theorem d_M_leastOf_13 : decode b_M_leastOf 13 = .ok (.iconst 4, 1) := by decide +kernel
theorem d_M_leastOf_14 : decode b_M_leastOf 14 = .ok (.goto 37, 3) := by decide +kernel
theorem d_M_leastOf_17 : decode b_M_leastOf 17 = .ok (.iload_n 0, 1) := by decide +kernel
theorem d_M_leastOf_18 : decode b_M_leastOf 18 = .ok (.iconst 2, 1) := by decide +kernel
theorem d_M_leastOf_19 : decode b_M_leastOf 19 = .ok (.if_icmp .ne 8, 3) := by decide +kernel
theorem d_M_leastOf_22 : decode b_M_leastOf 22 = .ok (.bipush 20, 2) := by decide +kernel
theorem d_M_leastOf_24 : decode b_M_leastOf 24 = .ok (.goto 27, 3) := by decide +kernel
theorem d_M_leastOf_27 : decode b_M_leastOf 27 = .ok (.iload_n 0, 1) := by decide +kernel
theorem d_M_leastOf_28 : decode b_M_leastOf 28 = .ok (.iconst 3, 1) := by decide +kernel
theorem d_M_leastOf_29 : decode b_M_leastOf 29 = .ok (.if_icmp .ne 8, 3) := by decide +kernel
theorem d_M_leastOf_32 : decode b_M_leastOf 32 = .ok (.bipush 84, 2) := by decide +kernel
theorem d_M_leastOf_34 : decode b_M_leastOf 34 = .ok (.goto 17, 3) := by decide +kernel
theorem d_M_leastOf_37 : decode b_M_leastOf 37 = .ok (.iload_n 0, 1) := by decide +kernel
theorem d_M_leastOf_38 : decode b_M_leastOf 38 = .ok (.iconst 4, 1) := by decide +kernel
theorem d_M_leastOf_39 : decode b_M_leastOf 39 = .ok (.if_icmp .ne 9, 3) := by decide +kernel
theorem d_M_leastOf_42 : decode b_M_leastOf 42 = .ok (.sipush 340, 3) := by decide +kernel
theorem d_M_leastOf_45 : decode b_M_leastOf 45 = .ok (.goto 6, 3) := by decide +kernel
theorem d_M_leastOf_48 : decode b_M_leastOf 48 = .ok (.sipush 4436, 3) := by decide +kernel
theorem d_M_leastOf_51 : decode b_M_leastOf 51 = .ok (.ireturn, 1) := by decide +kernel
theorem d_M_passWhole_0 : decode b_M_passWhole 0 = .ok (.aload_n 0, 1) := by decide +kernel
theorem d_M_passWhole_1 : decode b_M_passWhole 1 = .ok (.iconst 1, 1) := by decide +kernel
theorem d_M_passWhole_2 : decode b_M_passWhole 2 = .ok (.putfield 181, 3) := by decide +kernel
theorem d_M_passWhole_5 : decode b_M_passWhole 5 = .ok (.aload_n 0, 1) := by decide +kernel
theorem d_M_passWhole_6 : decode b_M_passWhole 6 = .ok (.iconst 0, 1) := by decide +kernel
theorem d_M_passWhole_7 : decode b_M_passWhole 7 = .ok (.putfield 188, 3) := by decide +kernel
theorem d_M_passWhole_10 : decode b_M_passWhole 10 = .ok (.aload_n 0, 1) := by decide +kernel
theorem d_M_passWhole_11 : decode b_M_passWhole 11 = .ok (.iload_n 1, 1) := by decide +kernel
theorem d_M_passWhole_12 : decode b_M_passWhole 12 = .ok (.iload_n 2, 1) := by decide +kernel
theorem d_M_passWhole_13 : decode b_M_passWhole 13 = .ok (.ifCond .ge 7, 3) := by decide +kernel
theorem d_M_passWhole_16 : decode b_M_passWhole 16 = .ok (.iconst 1, 1) := by decide +kernel
theorem d_M_passWhole_17 : decode b_M_passWhole 17 = .ok (.goto 4, 3) := by decide +kernel
theorem d_M_passWhole_20 : decode b_M_passWhole 20 = .ok (.iconst 0, 1) := by decide +kernel
theorem d_M_passWhole_21 : decode b_M_passWhole 21 = .ok (.invokevirtual 191, 3) := by decide +kernel
theorem d_M_passWhole_24 : decode b_M_passWhole 24 = .ok (.iconst 1, 1) := by decide +kernel
theorem d_M_passWhole_25 : decode b_M_passWhole 25 = .ok (.if_icmp .ne 7, 3) := by decide +kernel
theorem d_M_passWhole_28 : decode b_M_passWhole 28 = .ok (.iconst 1, 1) := by decide +kernel
theorem d_M_passWhole_29 : decode b_M_passWhole 29 = .ok (.goto 4, 3) := by decide +kernel
theorem d_M_passWhole_32 : decode b_M_passWhole 32 = .ok (.iconst 0, 1) := by decide +kernel
theorem d_M_passWhole_33 : decode b_M_passWhole 33 = .ok (.istore_n 3, 1) := by decide +kernel
theorem d_M_passWhole_34 : decode b_M_passWhole 34 = .ok (.iload_n 2, 1) := by decide +kernel
theorem d_M_passWhole_35 : decode b_M_passWhole 35 = .ok (.ldc 194, 2) := by decide +kernel
theorem d_M_passWhole_37 : decode b_M_passWhole 37 = .ok (.if_icmp .ne 7, 3) := by decide +kernel
theorem d_M_passWhole_40 : decode b_M_passWhole 40 = .ok (.iconst 0, 1) := by decide +kernel
theorem d_M_passWhole_41 : decode b_M_passWhole 41 = .ok (.goto 13, 3) := by decide +kernel
theorem d_M_passWhole_44 : decode b_M_passWhole 44 = .ok (.iload_n 2, 1) := by decide +kernel
theorem d_M_passWhole_45 : decode b_M_passWhole 45 = .ok (.ifCond .ge 8, 3) := by decide +kernel
theorem d_M_passWhole_48 : decode b_M_passWhole 48 = .ok (.iload_n 2, 1) := by decide +kernel
theorem d_M_passWhole_49 : decode b_M_passWhole 49 = .ok (.ineg, 1) := by decide +kernel
theorem d_M_passWhole_50 : decode b_M_passWhole 50 = .ok (.goto 4, 3) := by decide +kernel
theorem d_M_passWhole_53 : decode b_M_passWhole 53 = .ok (.iload_n 2, 1) := by decide +kernel
theorem d_M_passWhole_54 : decode b_M_passWhole 54 = .ok (.istore 4, 2) := by decide +kernel
theorem d_M_passWhole_56 : decode b_M_passWhole 56 = .ok (.iconst 0, 1) := by decide +kernel
theorem d_M_passWhole_57 : decode b_M_passWhole 57 = .ok (.istore 5, 2) := by decide +kernel
theorem d_M_passWhole_59 : decode b_M_passWhole 59 = .ok (.iconst 1, 1) := by decide +kernel
theorem d_M_passWhole_60 : decode b_M_passWhole 60 = .ok (.istore 6, 2) := by decide +kernel
theorem d_M_passWhole_62 : decode b_M_passWhole 62 = .ok (.iload 6, 2) := by decide +kernel
theorem d_M_passWhole_64 : decode b_M_passWhole 64 = .ok (.ifCond .eq 61, 3) := by decide +kernel
theorem d_M_passWhole_67 : decode b_M_passWhole 67 = .ok (.iload 5, 2) := by decide +kernel
theorem d_M_passWhole_69 : decode b_M_passWhole 69 = .ok (.iconst 5, 1) := by decide +kernel
theorem d_M_passWhole_70 : decode b_M_passWhole 70 = .ok (.if_icmp .ge 55, 3) := by decide +kernel
theorem d_M_passWhole_73 : decode b_M_passWhole 73 = .ok (.aload_n 0, 1) := by decide +kernel
theorem d_M_passWhole_74 : decode b_M_passWhole 74 = .ok (.iload_n 1, 1) := by decide +kernel
theorem d_M_passWhole_75 : decode b_M_passWhole 75 = .ok (.iload 4, 2) := by decide +kernel
theorem d_M_passWhole_77 : decode b_M_passWhole 77 = .ok (.iload 5, 2) := by decide +kernel
theorem d_M_passWhole_79 : decode b_M_passWhole 79 = .ok (.iconst 1, 1) := by decide +kernel
theorem d_M_passWhole_80 : decode b_M_passWhole 80 = .ok (.iadd, 1) := by decide +kernel
theorem d_M_passWhole_81 : decode b_M_passWhole 81 = .ok (.invokestatic 195, 3) := by decide +kernel
theorem d_M_passWhole_84 : decode b_M_passWhole 84 = .ok (.if_icmp .lt 7, 3) := by decide +kernel
theorem d_M_passWhole_87 : decode b_M_passWhole 87 = .ok (.iconst 1, 1) := by decide +kernel
theorem d_M_passWhole_88 : decode b_M_passWhole 88 = .ok (.goto 4, 3) := by decide +kernel
theorem d_M_passWhole_91 : decode b_M_passWhole 91 = .ok (.iconst 0, 1) := by decide +kernel
theorem d_M_passWhole_92 : decode b_M_passWhole 92 = .ok (.invokevirtual 191, 3) := by decide +kernel
theorem d_M_passWhole_95 : decode b_M_passWhole 95 = .ok (.iconst 1, 1) := by decide +kernel
theorem d_M_passWhole_96 : decode b_M_passWhole 96 = .ok (.if_icmp .ne 7, 3) := by decide +kernel
theorem d_M_passWhole_99 : decode b_M_passWhole 99 = .ok (.iconst 1, 1) := by decide +kernel
theorem d_M_passWhole_100 : decode b_M_passWhole 100 = .ok (.goto 4, 3) := by decide +kernel
theorem d_M_passWhole_103 : decode b_M_passWhole 103 = .ok (.iconst 0, 1) := by decide +kernel
theorem d_M_passWhole_104 : decode b_M_passWhole 104 = .ok (.istore 6, 2) := by decide +kernel
theorem d_M_passWhole_106 : decode b_M_passWhole 106 = .ok (.iload 6, 2) := by decide +kernel
theorem d_M_passWhole_108 : decode b_M_passWhole 108 = .ok (.ifCond .eq 10, 3) := by decide +kernel
theorem d_M_passWhole_111 : decode b_M_passWhole 111 = .ok (.iload 5, 2) := by decide +kernel
theorem d_M_passWhole_113 : decode b_M_passWhole 113 = .ok (.iconst 1, 1) := by decide +kernel
theorem d_M_passWhole_114 : decode b_M_passWhole 114 = .ok (.iadd, 1) := by decide +kernel
theorem d_M_passWhole_115 : decode b_M_passWhole 115 = .ok (.goto 5, 3) := by decide +kernel
theorem d_M_passWhole_118 : decode b_M_passWhole 118 = .ok (.iload 5, 2) := by decide +kernel
theorem d_M_passWhole_120 : decode b_M_passWhole 120 = .ok (.istore 5, 2) := by decide +kernel
theorem d_M_passWhole_122 : decode b_M_passWhole 122 = .ok (.goto (-60), 3) := by decide +kernel
theorem d_M_passWhole_125 : decode b_M_passWhole 125 = .ok (.iload 5, 2) := by decide +kernel
theorem d_M_passWhole_127 : decode b_M_passWhole 127 = .ok (.iconst 5, 1) := by decide +kernel
theorem d_M_passWhole_128 : decode b_M_passWhole 128 = .ok (.if_icmp .ne 8, 3) := by decide +kernel
theorem d_M_passWhole_131 : decode b_M_passWhole 131 = .ok (.bipush 32, 2) := by decide +kernel
theorem d_M_passWhole_133 : decode b_M_passWhole 133 = .ok (.goto 20, 3) := by decide +kernel
theorem d_M_passWhole_136 : decode b_M_passWhole 136 = .ok (.iload 5, 2) := by decide +kernel
theorem d_M_passWhole_138 : decode b_M_passWhole 138 = .ok (.iconst 4, 1) := by decide +kernel
theorem d_M_passWhole_139 : decode b_M_passWhole 139 = .ok (.if_icmp .ne 8, 3) := by decide +kernel
theorem d_M_passWhole_142 : decode b_M_passWhole 142 = .ok (.bipush 12, 2) := by decide +kernel
theorem d_M_passWhole_144 : decode b_M_passWhole 144 = .ok (.goto 9, 3) := by decide +kernel
theorem d_M_passWhole_147 : decode b_M_passWhole 147 = .ok (.iconst 2, 1) := by decide +kernel
theorem d_M_passWhole_148 : decode b_M_passWhole 148 = .ok (.iconst 2, 1) := by decide +kernel
theorem d_M_passWhole_149 : decode b_M_passWhole 149 = .ok (.iload 5, 2) := by decide +kernel
theorem d_M_passWhole_151 : decode b_M_passWhole 151 = .ok (.imul, 1) := by decide +kernel
theorem d_M_passWhole_152 : decode b_M_passWhole 152 = .ok (.iadd, 1) := by decide +kernel
theorem d_M_passWhole_153 : decode b_M_passWhole 153 = .ok (.istore 7, 2) := by decide +kernel
theorem d_M_passWhole_155 : decode b_M_passWhole 155 = .ok (.iload 5, 2) := by decide +kernel
theorem d_M_passWhole_157 : decode b_M_passWhole 157 = .ok (.invokestatic 195, 3) := by decide +kernel
theorem d_M_passWhole_160 : decode b_M_passWhole 160 = .ok (.aload_n 0, 1) := by decide +kernel
theorem d_M_passWhole_161 : decode b_M_passWhole 161 = .ok (.iload_n 1, 1) := by decide +kernel
theorem d_M_passWhole_162 : decode b_M_passWhole 162 = .ok (.iload 4, 2) := by decide +kernel
theorem d_M_passWhole_164 : decode b_M_passWhole 164 = .ok (.iload 5, 2) := by decide +kernel
theorem d_M_passWhole_166 : decode b_M_passWhole 166 = .ok (.invokestatic 195, 3) := by decide +kernel
theorem d_M_passWhole_169 : decode b_M_passWhole 169 = .ok (.isub, 1) := by decide +kernel
theorem d_M_passWhole_170 : decode b_M_passWhole 170 = .ok (.iload 7, 2) := by decide +kernel
theorem d_M_passWhole_172 : decode b_M_passWhole 172 = .ok (.invokevirtual 198, 3) := by decide +kernel
theorem d_M_passWhole_175 : decode b_M_passWhole 175 = .ok (.iadd, 1) := by decide +kernel
theorem d_M_passWhole_176 : decode b_M_passWhole 176 = .ok (.istore 8, 2) := by decide +kernel
theorem d_M_passWhole_178 : decode b_M_passWhole 178 = .ok (.iload_n 3, 1) := by decide +kernel
theorem d_M_passWhole_179 : decode b_M_passWhole 179 = .ok (.ifCond .ne 8, 3) := by decide +kernel
theorem d_M_passWhole_182 : decode b_M_passWhole 182 = .ok (.iload 8, 2) := by decide +kernel
theorem d_M_passWhole_184 : decode b_M_passWhole 184 = .ok (.goto 16, 3) := by decide +kernel
theorem d_M_passWhole_187 : decode b_M_passWhole 187 = .ok (.iload 8, 2) := by decide +kernel
theorem d_M_passWhole_189 : decode b_M_passWhole 189 = .ok (.ifCond .ne 8, 3) := by decide +kernel
theorem d_M_passWhole_192 : decode b_M_passWhole 192 = .ok (.ldc 194, 2) := by decide +kernel
theorem d_M_passWhole_194 : decode b_M_passWhole 194 = .ok (.goto 6, 3) := by decide +kernel
theorem d_M_passWhole_197 : decode b_M_passWhole 197 = .ok (.iload 8, 2) := by decide +kernel
theorem d_M_passWhole_199 : decode b_M_passWhole 199 = .ok (.ineg, 1) := by decide +kernel
theorem d_M_passWhole_200 : decode b_M_passWhole 200 = .ok (.ireturn, 1) := by decide +kernel
theorem d_M_whole_0 : decode b_M_whole 0 = .ok (.aload_n 0, 1) := by decide +kernel
theorem d_M_whole_1 : decode b_M_whole 1 = .ok (.iload_n 1, 1) := by decide +kernel
theorem d_M_whole_2 : decode b_M_whole 2 = .ok (.iconst 0, 1) := by decide +kernel
theorem d_M_whole_3 : decode b_M_whole 3 = .ok (.bipush 7, 2) := by decide +kernel
theorem d_M_whole_5 : decode b_M_whole 5 = .ok (.invokestatic 159, 3) := by decide +kernel
theorem d_M_whole_8 : decode b_M_whole 8 = .ok (.ifCond .ne 7, 3) := by decide +kernel
theorem d_M_whole_11 : decode b_M_whole 11 = .ok (.iconst 1, 1) := by decide +kernel
theorem d_M_whole_12 : decode b_M_whole 12 = .ok (.goto 15, 3) := by decide +kernel
theorem d_M_whole_15 : decode b_M_whole 15 = .ok (.aload_n 0, 1) := by decide +kernel
theorem d_M_whole_16 : decode b_M_whole 16 = .ok (.getfield 50, 3) := by decide +kernel
theorem d_M_whole_19 : decode b_M_whole 19 = .ok (.ifCond .eq 7, 3) := by decide +kernel
theorem d_M_whole_22 : decode b_M_whole 22 = .ok (.iconst 2, 1) := by decide +kernel
theorem d_M_whole_23 : decode b_M_whole 23 = .ok (.goto 4, 3) := by decide +kernel
theorem d_M_whole_26 : decode b_M_whole 26 = .ok (.iconst 0, 1) := by decide +kernel
theorem d_M_whole_27 : decode b_M_whole 27 = .ok (.putfield 47, 3) := by decide +kernel
theorem d_M_whole_30 : decode b_M_whole 30 = .ok (.aload_n 0, 1) := by decide +kernel
theorem d_M_whole_31 : decode b_M_whole 31 = .ok (.getfield 47, 3) := by decide +kernel
theorem d_M_whole_34 : decode b_M_whole 34 = .ok (.ifCond .le 5, 3) := by decide +kernel
theorem d_M_whole_37 : decode b_M_whole 37 = .ok (.iconst 0, 1) := by decide +kernel
theorem d_M_whole_38 : decode b_M_whole 38 = .ok (.ireturn, 1) := by decide +kernel
theorem d_M_whole_39 : decode b_M_whole 39 = .ok (.aload_n 0, 1) := by decide +kernel
theorem d_M_whole_40 : decode b_M_whole 40 = .ok (.iload_n 1, 1) := by decide +kernel
theorem d_M_whole_41 : decode b_M_whole 41 = .ok (.iload_n 2, 1) := by decide +kernel
theorem d_M_whole_42 : decode b_M_whole 42 = .ok (.invokevirtual 202, 3) := by decide +kernel
theorem d_M_whole_45 : decode b_M_whole 45 = .ok (.istore_n 3, 1) := by decide +kernel
theorem d_M_whole_46 : decode b_M_whole 46 = .ok (.aload_n 0, 1) := by decide +kernel
theorem d_M_whole_47 : decode b_M_whole 47 = .ok (.getfield 188, 3) := by decide +kernel
theorem d_M_whole_50 : decode b_M_whole 50 = .ok (.ireturn, 1) := by decide +kernel
theorem d_M_readWhole_0 : decode b_M_readWhole 0 = .ok (.aload_n 0, 1) := by decide +kernel
theorem d_M_readWhole_1 : decode b_M_readWhole 1 = .ok (.iload_n 1, 1) := by decide +kernel
theorem d_M_readWhole_2 : decode b_M_readWhole 2 = .ok (.iconst 0, 1) := by decide +kernel
theorem d_M_readWhole_3 : decode b_M_readWhole 3 = .ok (.bipush 7, 2) := by decide +kernel
theorem d_M_readWhole_5 : decode b_M_readWhole 5 = .ok (.invokestatic 159, 3) := by decide +kernel
theorem d_M_readWhole_8 : decode b_M_readWhole 8 = .ok (.ifCond .ne 7, 3) := by decide +kernel
theorem d_M_readWhole_11 : decode b_M_readWhole 11 = .ok (.iconst 1, 1) := by decide +kernel
theorem d_M_readWhole_12 : decode b_M_readWhole 12 = .ok (.goto 15, 3) := by decide +kernel
theorem d_M_readWhole_15 : decode b_M_readWhole 15 = .ok (.aload_n 0, 1) := by decide +kernel
theorem d_M_readWhole_16 : decode b_M_readWhole 16 = .ok (.getfield 50, 3) := by decide +kernel
theorem d_M_readWhole_19 : decode b_M_readWhole 19 = .ok (.ifCond .ne 7, 3) := by decide +kernel
theorem d_M_readWhole_22 : decode b_M_readWhole 22 = .ok (.iconst 2, 1) := by decide +kernel
theorem d_M_readWhole_23 : decode b_M_readWhole 23 = .ok (.goto 4, 3) := by decide +kernel
theorem d_M_readWhole_26 : decode b_M_readWhole 26 = .ok (.iconst 0, 1) := by decide +kernel
theorem d_M_readWhole_27 : decode b_M_readWhole 27 = .ok (.putfield 47, 3) := by decide +kernel
theorem d_M_readWhole_30 : decode b_M_readWhole 30 = .ok (.aload_n 0, 1) := by decide +kernel
theorem d_M_readWhole_31 : decode b_M_readWhole 31 = .ok (.getfield 47, 3) := by decide +kernel
theorem d_M_readWhole_34 : decode b_M_readWhole 34 = .ok (.ifCond .le 7, 3) := by decide +kernel
theorem d_M_readWhole_37 : decode b_M_readWhole 37 = .ok (.iconst 0, 1) := by decide +kernel
theorem d_M_readWhole_38 : decode b_M_readWhole 38 = .ok (.goto 9, 3) := by decide +kernel
theorem d_M_readWhole_41 : decode b_M_readWhole 41 = .ok (.aload_n 0, 1) := by decide +kernel
theorem d_M_readWhole_42 : decode b_M_readWhole 42 = .ok (.iload_n 1, 1) := by decide +kernel
theorem d_M_readWhole_43 : decode b_M_readWhole 43 = .ok (.iconst 0, 1) := by decide +kernel
theorem d_M_readWhole_44 : decode b_M_readWhole 44 = .ok (.invokevirtual 202, 3) := by decide +kernel
theorem d_M_readWhole_47 : decode b_M_readWhole 47 = .ok (.ireturn, 1) := by decide +kernel
theorem d_M_save_0 : decode b_M_save 0 = .ok (.aload_n 0, 1) := by decide +kernel
theorem d_M_save_1 : decode b_M_save 1 = .ok (.aload_n 0, 1) := by decide +kernel
theorem d_M_save_2 : decode b_M_save 2 = .ok (.getfield 205, 3) := by decide +kernel
theorem d_M_save_5 : decode b_M_save 5 = .ok (.bipush 6, 2) := by decide +kernel
theorem d_M_save_7 : decode b_M_save 7 = .ok (.if_icmp .ne 7, 3) := by decide +kernel
theorem d_M_save_10 : decode b_M_save 10 = .ok (.iconst 1, 1) := by decide +kernel
theorem d_M_save_11 : decode b_M_save 11 = .ok (.goto 4, 3) := by decide +kernel
theorem d_M_save_14 : decode b_M_save 14 = .ok (.iconst 0, 1) := by decide +kernel
theorem d_M_save_15 : decode b_M_save 15 = .ok (.putfield 47, 3) := by decide +kernel
theorem d_M_save_18 : decode b_M_save 18 = .ok (.aload_n 0, 1) := by decide +kernel
theorem d_M_save_19 : decode b_M_save 19 = .ok (.getfield 47, 3) := by decide +kernel
theorem d_M_save_22 : decode b_M_save 22 = .ok (.ifCond .le 5, 3) := by decide +kernel
theorem d_M_save_25 : decode b_M_save 25 = .ok (.iconst 0, 1) := by decide +kernel
theorem d_M_save_26 : decode b_M_save 26 = .ok (.ireturn, 1) := by decide +kernel
theorem d_M_save_27 : decode b_M_save 27 = .ok (.iconst 0, 1) := by decide +kernel
theorem d_M_save_28 : decode b_M_save 28 = .ok (.istore_n 1, 1) := by decide +kernel
theorem d_M_save_29 : decode b_M_save 29 = .ok (.iload_n 1, 1) := by decide +kernel
theorem d_M_save_30 : decode b_M_save 30 = .ok (.aload_n 0, 1) := by decide +kernel
theorem d_M_save_31 : decode b_M_save 31 = .ok (.getfield 39, 3) := by decide +kernel
theorem d_M_save_34 : decode b_M_save 34 = .ok (.if_icmp .ge 33, 3) := by decide +kernel
theorem d_M_save_37 : decode b_M_save 37 = .ok (.aload_n 0, 1) := by decide +kernel
theorem d_M_save_38 : decode b_M_save 38 = .ok (.getfield 24, 3) := by decide +kernel
theorem d_M_save_41 : decode b_M_save 41 = .ok (.ldc 38, 2) := by decide +kernel
theorem d_M_save_43 : decode b_M_save 43 = .ok (.aload_n 0, 1) := by decide +kernel
theorem d_M_save_44 : decode b_M_save 44 = .ok (.getfield 205, 3) := by decide +kernel
theorem d_M_save_47 : decode b_M_save 47 = .ok (.imul, 1) := by decide +kernel
theorem d_M_save_48 : decode b_M_save 48 = .ok (.iload_n 1, 1) := by decide +kernel
theorem d_M_save_49 : decode b_M_save 49 = .ok (.iadd, 1) := by decide +kernel
theorem d_M_save_50 : decode b_M_save 50 = .ok (.aload_n 0, 1) := by decide +kernel
theorem d_M_save_51 : decode b_M_save 51 = .ok (.getfield 20, 3) := by decide +kernel
theorem d_M_save_54 : decode b_M_save 54 = .ok (.aload_n 0, 1) := by decide +kernel
theorem d_M_save_55 : decode b_M_save 55 = .ok (.iload_n 1, 1) := by decide +kernel
theorem d_M_save_56 : decode b_M_save 56 = .ok (.invokevirtual 163, 3) := by decide +kernel
theorem d_M_save_59 : decode b_M_save 59 = .ok (.iaload, 1) := by decide +kernel
theorem d_M_save_60 : decode b_M_save 60 = .ok (.iastore, 1) := by decide +kernel
theorem d_M_save_61 : decode b_M_save 61 = .ok (.iinc 1 1, 3) := by decide +kernel
theorem d_M_save_64 : decode b_M_save 64 = .ok (.goto (-35), 3) := by decide +kernel
theorem d_M_save_67 : decode b_M_save 67 = .ok (.aload_n 0, 1) := by decide +kernel
theorem d_M_save_68 : decode b_M_save 68 = .ok (.dup, 1) := by decide +kernel
theorem d_M_save_69 : decode b_M_save 69 = .ok (.getfield 205, 3) := by decide +kernel
theorem d_M_save_72 : decode b_M_save 72 = .ok (.iconst 1, 1) := by decide +kernel
theorem d_M_save_73 : decode b_M_save 73 = .ok (.iadd, 1) := by decide +kernel
theorem d_M_save_74 : decode b_M_save 74 = .ok (.putfield 205, 3) := by decide +kernel
theorem d_M_save_77 : decode b_M_save 77 = .ok (.aload_n 0, 1) := by decide +kernel
theorem d_M_save_78 : decode b_M_save 78 = .ok (.getfield 205, 3) := by decide +kernel
theorem d_M_save_81 : decode b_M_save 81 = .ok (.iconst 1, 1) := by decide +kernel
theorem d_M_save_82 : decode b_M_save 82 = .ok (.isub, 1) := by decide +kernel
theorem d_M_save_83 : decode b_M_save 83 = .ok (.ireturn, 1) := by decide +kernel
theorem d_M_back_0 : decode b_M_back 0 = .ok (.aload_n 0, 1) := by decide +kernel
theorem d_M_back_1 : decode b_M_back 1 = .ok (.iconst 0, 1) := by decide +kernel
theorem d_M_back_2 : decode b_M_back 2 = .ok (.putfield 47, 3) := by decide +kernel
theorem d_M_back_5 : decode b_M_back 5 = .ok (.iload_n 1, 1) := by decide +kernel
theorem d_M_back_6 : decode b_M_back 6 = .ok (.iconst 0, 1) := by decide +kernel
theorem d_M_back_7 : decode b_M_back 7 = .ok (.aload_n 0, 1) := by decide +kernel
theorem d_M_back_8 : decode b_M_back 8 = .ok (.getfield 205, 3) := by decide +kernel
theorem d_M_back_11 : decode b_M_back 11 = .ok (.iconst 1, 1) := by decide +kernel
theorem d_M_back_12 : decode b_M_back 12 = .ok (.isub, 1) := by decide +kernel
theorem d_M_back_13 : decode b_M_back 13 = .ok (.invokestatic 159, 3) := by decide +kernel
theorem d_M_back_16 : decode b_M_back 16 = .ok (.istore_n 2, 1) := by decide +kernel
theorem d_M_back_17 : decode b_M_back 17 = .ok (.iconst 0, 1) := by decide +kernel
theorem d_M_back_18 : decode b_M_back 18 = .ok (.istore_n 3, 1) := by decide +kernel
theorem d_M_back_19 : decode b_M_back 19 = .ok (.iload_n 3, 1) := by decide +kernel
theorem d_M_back_20 : decode b_M_back 20 = .ok (.aload_n 0, 1) := by decide +kernel
theorem d_M_back_21 : decode b_M_back 21 = .ok (.getfield 39, 3) := by decide +kernel
theorem d_M_back_24 : decode b_M_back 24 = .ok (.if_icmp .ge 34, 3) := by decide +kernel
theorem d_M_back_27 : decode b_M_back 27 = .ok (.iload_n 2, 1) := by decide +kernel
theorem d_M_back_28 : decode b_M_back 28 = .ok (.ifCond .eq 30, 3) := by decide +kernel
theorem d_M_back_31 : decode b_M_back 31 = .ok (.aload_n 0, 1) := by decide +kernel
theorem d_M_back_32 : decode b_M_back 32 = .ok (.getfield 20, 3) := by decide +kernel
theorem d_M_back_35 : decode b_M_back 35 = .ok (.aload_n 0, 1) := by decide +kernel
theorem d_M_back_36 : decode b_M_back 36 = .ok (.iload_n 3, 1) := by decide +kernel
theorem d_M_back_37 : decode b_M_back 37 = .ok (.invokevirtual 163, 3) := by decide +kernel
theorem d_M_back_40 : decode b_M_back 40 = .ok (.aload_n 0, 1) := by decide +kernel
theorem d_M_back_41 : decode b_M_back 41 = .ok (.getfield 24, 3) := by decide +kernel
theorem d_M_back_44 : decode b_M_back 44 = .ok (.ldc 38, 2) := by decide +kernel
theorem d_M_back_46 : decode b_M_back 46 = .ok (.iload_n 1, 1) := by decide +kernel
theorem d_M_back_47 : decode b_M_back 47 = .ok (.imul, 1) := by decide +kernel
theorem d_M_back_48 : decode b_M_back 48 = .ok (.iload_n 3, 1) := by decide +kernel
theorem d_M_back_49 : decode b_M_back 49 = .ok (.iadd, 1) := by decide +kernel
theorem d_M_back_50 : decode b_M_back 50 = .ok (.iaload, 1) := by decide +kernel
theorem d_M_back_51 : decode b_M_back 51 = .ok (.iastore, 1) := by decide +kernel
theorem d_M_back_52 : decode b_M_back 52 = .ok (.iinc 3 1, 3) := by decide +kernel
theorem d_M_back_55 : decode b_M_back 55 = .ok (.goto (-36), 3) := by decide +kernel
theorem d_M_back_58 : decode b_M_back 58 = .ok (.iload_n 2, 1) := by decide +kernel
theorem d_M_back_59 : decode b_M_back 59 = .ok (.ireturn, 1) := by decide +kernel
theorem d_M_raw_0 : decode b_M_raw 0 = .ok (.aload_n 0, 1) := by decide +kernel
theorem d_M_raw_1 : decode b_M_raw 1 = .ok (.iconst 0, 1) := by decide +kernel
theorem d_M_raw_2 : decode b_M_raw 2 = .ok (.putfield 47, 3) := by decide +kernel
theorem d_M_raw_5 : decode b_M_raw 5 = .ok (.aload_n 0, 1) := by decide +kernel
theorem d_M_raw_6 : decode b_M_raw 6 = .ok (.getfield 50, 3) := by decide +kernel
theorem d_M_raw_9 : decode b_M_raw 9 = .ok (.ifCond .ne 31, 3) := by decide +kernel
theorem d_M_raw_12 : decode b_M_raw 12 = .ok (.aload_n 0, 1) := by decide +kernel
theorem d_M_raw_13 : decode b_M_raw 13 = .ok (.getfield 30, 3) := by decide +kernel
theorem d_M_raw_16 : decode b_M_raw 16 = .ok (.aload_n 0, 1) := by decide +kernel
theorem d_M_raw_17 : decode b_M_raw 17 = .ok (.getfield 59, 3) := by decide +kernel
theorem d_M_raw_20 : decode b_M_raw 20 = .ok (.iconst 1, 1) := by decide +kernel
theorem d_M_raw_21 : decode b_M_raw 21 = .ok (.isub, 1) := by decide +kernel
theorem d_M_raw_22 : decode b_M_raw 22 = .ok (.baload, 1) := by decide +kernel
theorem d_M_raw_23 : decode b_M_raw 23 = .ok (.iload_n 1, 1) := by decide +kernel
theorem d_M_raw_24 : decode b_M_raw 24 = .ok (.if_icmp .ne 5, 3) := by decide +kernel
theorem d_M_raw_27 : decode b_M_raw 27 = .ok (.iconst 0, 1) := by decide +kernel
theorem d_M_raw_28 : decode b_M_raw 28 = .ok (.ireturn, 1) := by decide +kernel
theorem d_M_raw_29 : decode b_M_raw 29 = .ok (.aload_n 0, 1) := by decide +kernel
theorem d_M_raw_30 : decode b_M_raw 30 = .ok (.invokevirtual 169, 3) := by decide +kernel
theorem d_M_raw_33 : decode b_M_raw 33 = .ok (.aload_n 0, 1) := by decide +kernel
theorem d_M_raw_34 : decode b_M_raw 34 = .ok (.iload_n 1, 1) := by decide +kernel
theorem d_M_raw_35 : decode b_M_raw 35 = .ok (.invokevirtual 43, 3) := by decide +kernel
theorem d_M_raw_38 : decode b_M_raw 38 = .ok (.iconst 1, 1) := by decide +kernel
theorem d_M_raw_39 : decode b_M_raw 39 = .ok (.ireturn, 1) := by decide +kernel
theorem d_M_raw_40 : decode b_M_raw 40 = .ok (.aload_n 0, 1) := by decide +kernel
theorem d_M_raw_41 : decode b_M_raw 41 = .ok (.getfield 111, 3) := by decide +kernel
theorem d_M_raw_44 : decode b_M_raw 44 = .ok (.iconst 1, 1) := by decide +kernel
theorem d_M_raw_45 : decode b_M_raw 45 = .ok (.iadd, 1) := by decide +kernel
theorem d_M_raw_46 : decode b_M_raw 46 = .ok (.aload_n 0, 1) := by decide +kernel
theorem d_M_raw_47 : decode b_M_raw 47 = .ok (.getfield 59, 3) := by decide +kernel
theorem d_M_raw_50 : decode b_M_raw 50 = .ok (.if_icmp .eq 18, 3) := by decide +kernel
theorem d_M_raw_53 : decode b_M_raw 53 = .ok (.aload_n 0, 1) := by decide +kernel
theorem d_M_raw_54 : decode b_M_raw 54 = .ok (.getfield 30, 3) := by decide +kernel
theorem d_M_raw_57 : decode b_M_raw 57 = .ok (.aload_n 0, 1) := by decide +kernel
theorem d_M_raw_58 : decode b_M_raw 58 = .ok (.getfield 111, 3) := by decide +kernel
theorem d_M_raw_61 : decode b_M_raw 61 = .ok (.iconst 1, 1) := by decide +kernel
theorem d_M_raw_62 : decode b_M_raw 62 = .ok (.iadd, 1) := by decide +kernel
theorem d_M_raw_63 : decode b_M_raw 63 = .ok (.baload, 1) := by decide +kernel
theorem d_M_raw_64 : decode b_M_raw 64 = .ok (.iload_n 1, 1) := by decide +kernel
theorem d_M_raw_65 : decode b_M_raw 65 = .ok (.if_icmp .eq 5, 3) := by decide +kernel
theorem d_M_raw_68 : decode b_M_raw 68 = .ok (.iconst 0, 1) := by decide +kernel
theorem d_M_raw_69 : decode b_M_raw 69 = .ok (.ireturn, 1) := by decide +kernel
theorem d_M_raw_70 : decode b_M_raw 70 = .ok (.aload_n 0, 1) := by decide +kernel
theorem d_M_raw_71 : decode b_M_raw 71 = .ok (.aload_n 0, 1) := by decide +kernel
theorem d_M_raw_72 : decode b_M_raw 72 = .ok (.getfield 111, 3) := by decide +kernel
theorem d_M_raw_75 : decode b_M_raw 75 = .ok (.iconst 1, 1) := by decide +kernel
theorem d_M_raw_76 : decode b_M_raw 76 = .ok (.iadd, 1) := by decide +kernel
theorem d_M_raw_77 : decode b_M_raw 77 = .ok (.invokevirtual 175, 3) := by decide +kernel
theorem d_M_raw_80 : decode b_M_raw 80 = .ok (.aload_n 0, 1) := by decide +kernel
theorem d_M_raw_81 : decode b_M_raw 81 = .ok (.iconst 1, 1) := by decide +kernel
theorem d_M_raw_82 : decode b_M_raw 82 = .ok (.putfield 172, 3) := by decide +kernel
theorem d_M_raw_85 : decode b_M_raw 85 = .ok (.iconst 1, 1) := by decide +kernel
theorem d_M_raw_86 : decode b_M_raw 86 = .ok (.ireturn, 1) := by decide +kernel
theorem d_M_beyond_0 : decode b_M_beyond 0 = .ok (.aload_n 0, 1) := by decide +kernel
theorem d_M_beyond_1 : decode b_M_beyond 1 = .ok (.iconst 0, 1) := by decide +kernel
theorem d_M_beyond_2 : decode b_M_beyond 2 = .ok (.putfield 47, 3) := by decide +kernel
theorem d_M_beyond_5 : decode b_M_beyond 5 = .ok (.aload_n 0, 1) := by decide +kernel
theorem d_M_beyond_6 : decode b_M_beyond 6 = .ok (.getfield 50, 3) := by decide +kernel
theorem d_M_beyond_9 : decode b_M_beyond 9 = .ok (.ifCond .eq 27, 3) := by decide +kernel
theorem d_M_beyond_12 : decode b_M_beyond 12 = .ok (.aload_n 0, 1) := by decide +kernel
theorem d_M_beyond_13 : decode b_M_beyond 13 = .ok (.getfield 27, 3) := by decide +kernel
theorem d_M_beyond_16 : decode b_M_beyond 16 = .ok (.aload_n 0, 1) := by decide +kernel
theorem d_M_beyond_17 : decode b_M_beyond 17 = .ok (.getfield 111, 3) := by decide +kernel
theorem d_M_beyond_20 : decode b_M_beyond 20 = .ok (.iconst 1, 1) := by decide +kernel
theorem d_M_beyond_21 : decode b_M_beyond 21 = .ok (.iadd, 1) := by decide +kernel
theorem d_M_beyond_22 : decode b_M_beyond 22 = .ok (.iaload, 1) := by decide +kernel
theorem d_M_beyond_23 : decode b_M_beyond 23 = .ok (.aload_n 0, 1) := by decide +kernel
theorem d_M_beyond_24 : decode b_M_beyond 24 = .ok (.getfield 27, 3) := by decide +kernel
theorem d_M_beyond_27 : decode b_M_beyond 27 = .ok (.aload_n 0, 1) := by decide +kernel
theorem d_M_beyond_28 : decode b_M_beyond 28 = .ok (.getfield 111, 3) := by decide +kernel
theorem d_M_beyond_31 : decode b_M_beyond 31 = .ok (.iaload, 1) := by decide +kernel
theorem d_M_beyond_32 : decode b_M_beyond 32 = .ok (.isub, 1) := by decide +kernel
theorem d_M_beyond_33 : decode b_M_beyond 33 = .ok (.goto 4, 3) := by decide +kernel
theorem d_M_beyond_36 : decode b_M_beyond 36 = .ok (.iconst 0, 1) := by decide +kernel
theorem d_M_beyond_37 : decode b_M_beyond 37 = .ok (.istore_n 1, 1) := by decide +kernel
theorem d_M_beyond_38 : decode b_M_beyond 38 = .ok (.aload_n 0, 1) := by decide +kernel
theorem d_M_beyond_39 : decode b_M_beyond 39 = .ok (.getfield 50, 3) := by decide +kernel
theorem d_M_beyond_42 : decode b_M_beyond 42 = .ok (.ifCond .eq 20, 3) := by decide +kernel
theorem d_M_beyond_45 : decode b_M_beyond 45 = .ok (.aload_n 0, 1) := by decide +kernel
theorem d_M_beyond_46 : decode b_M_beyond 46 = .ok (.getfield 114, 3) := by decide +kernel
theorem d_M_beyond_49 : decode b_M_beyond 49 = .ok (.iload_n 1, 1) := by decide +kernel
theorem d_M_beyond_50 : decode b_M_beyond 50 = .ok (.if_icmp .le 12, 3) := by decide +kernel
theorem d_M_beyond_53 : decode b_M_beyond 53 = .ok (.aload_n 0, 1) := by decide +kernel
theorem d_M_beyond_54 : decode b_M_beyond 54 = .ok (.getfield 114, 3) := by decide +kernel
theorem d_M_beyond_57 : decode b_M_beyond 57 = .ok (.iload_n 1, 1) := by decide +kernel
theorem d_M_beyond_58 : decode b_M_beyond 58 = .ok (.isub, 1) := by decide +kernel
theorem d_M_beyond_59 : decode b_M_beyond 59 = .ok (.goto 4, 3) := by decide +kernel
theorem d_M_beyond_62 : decode b_M_beyond 62 = .ok (.iconst 0, 1) := by decide +kernel
theorem d_M_beyond_63 : decode b_M_beyond 63 = .ok (.ireturn, 1) := by decide +kernel
theorem d_M_reset_0 : decode b_M_reset 0 = .ok (.aload_n 0, 1) := by decide +kernel
theorem d_M_reset_1 : decode b_M_reset 1 = .ok (.iconst 0, 1) := by decide +kernel
theorem d_M_reset_2 : decode b_M_reset 2 = .ok (.putfield 47, 3) := by decide +kernel
theorem d_M_reset_5 : decode b_M_reset 5 = .ok (.iconst 0, 1) := by decide +kernel
theorem d_M_reset_6 : decode b_M_reset 6 = .ok (.istore_n 1, 1) := by decide +kernel
theorem d_M_reset_7 : decode b_M_reset 7 = .ok (.iload_n 1, 1) := by decide +kernel
theorem d_M_reset_8 : decode b_M_reset 8 = .ok (.ldc 19, 2) := by decide +kernel
theorem d_M_reset_10 : decode b_M_reset 10 = .ok (.if_icmp .ge 16, 3) := by decide +kernel
theorem d_M_reset_13 : decode b_M_reset 13 = .ok (.aload_n 0, 1) := by decide +kernel
theorem d_M_reset_14 : decode b_M_reset 14 = .ok (.getfield 20, 3) := by decide +kernel
theorem d_M_reset_17 : decode b_M_reset 17 = .ok (.iload_n 1, 1) := by decide +kernel
theorem d_M_reset_18 : decode b_M_reset 18 = .ok (.iconst 0, 1) := by decide +kernel
theorem d_M_reset_19 : decode b_M_reset 19 = .ok (.iastore, 1) := by decide +kernel
theorem d_M_reset_20 : decode b_M_reset 20 = .ok (.iinc 1 1, 3) := by decide +kernel
theorem d_M_reset_23 : decode b_M_reset 23 = .ok (.goto (-16), 3) := by decide +kernel
theorem d_M_reset_26 : decode b_M_reset 26 = .ok (.aload_n 0, 1) := by decide +kernel
theorem d_M_reset_27 : decode b_M_reset 27 = .ok (.iconst 0, 1) := by decide +kernel
theorem d_M_reset_28 : decode b_M_reset 28 = .ok (.putfield 205, 3) := by decide +kernel
theorem d_M_reset_31 : decode b_M_reset 31 = .ok (.aload_n 0, 1) := by decide +kernel
theorem d_M_reset_32 : decode b_M_reset 32 = .ok (.iconst 0, 1) := by decide +kernel
theorem d_M_reset_33 : decode b_M_reset 33 = .ok (.putfield 59, 3) := by decide +kernel
theorem d_M_reset_36 : decode b_M_reset 36 = .ok (.aload_n 0, 1) := by decide +kernel
theorem d_M_reset_37 : decode b_M_reset 37 = .ok (.iconst 0, 1) := by decide +kernel
theorem d_M_reset_38 : decode b_M_reset 38 = .ok (.putfield 62, 3) := by decide +kernel
theorem d_M_reset_41 : decode b_M_reset 41 = .ok (.aload_n 0, 1) := by decide +kernel
theorem d_M_reset_42 : decode b_M_reset 42 = .ok (.iconst 0, 1) := by decide +kernel
theorem d_M_reset_43 : decode b_M_reset 43 = .ok (.putfield 50, 3) := by decide +kernel
theorem d_M_reset_46 : decode b_M_reset 46 = .ok (.aload_n 0, 1) := by decide +kernel
theorem d_M_reset_47 : decode b_M_reset 47 = .ok (.iconst 0, 1) := by decide +kernel
theorem d_M_reset_48 : decode b_M_reset 48 = .ok (.putfield 172, 3) := by decide +kernel
theorem d_M_reset_51 : decode b_M_reset 51 = .ok (.aload_n 0, 1) := by decide +kernel
theorem d_M_reset_52 : decode b_M_reset 52 = .ok (.iconst 0, 1) := by decide +kernel
theorem d_M_reset_53 : decode b_M_reset 53 = .ok (.invokevirtual 175, 3) := by decide +kernel
theorem d_M_reset_56 : decode b_M_reset 56 = .ok (.aload_n 0, 1) := by decide +kernel
theorem d_M_reset_57 : decode b_M_reset 57 = .ok (.iconst 0, 1) := by decide +kernel
theorem d_M_reset_58 : decode b_M_reset 58 = .ok (.invokevirtual 43, 3) := by decide +kernel
theorem d_M_reset_61 : decode b_M_reset 61 = .ok (.return_, 1) := by decide +kernel
