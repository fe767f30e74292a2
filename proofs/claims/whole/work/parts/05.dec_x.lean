theorem d_Ro_init_0 : decode b_Ro_init 0 = .ok (.aload_n 0, 1) := by decide +kernel
theorem d_Ro_init_1 : decode b_Ro_init 1 = .ok (.invokespecial 1, 3) := by decide +kernel
theorem d_Ro_init_4 : decode b_Ro_init 4 = .ok (.aload_n 0, 1) := by decide +kernel
theorem d_Ro_init_5 : decode b_Ro_init 5 = .ok (.ldc 9, 2) := by decide +kernel
theorem d_Ro_init_7 : decode b_Ro_init 7 = .ok (.newarray .int, 2) := by decide +kernel
theorem d_Ro_init_9 : decode b_Ro_init 9 = .ok (.putfield 10, 3) := by decide +kernel
theorem d_Ro_init_12 : decode b_Ro_init 12 = .ok (.aload_n 0, 1) := by decide +kernel
theorem d_Ro_init_13 : decode b_Ro_init 13 = .ok (.sipush 513, 3) := by decide +kernel
theorem d_Ro_init_16 : decode b_Ro_init 16 = .ok (.newarray .int, 2) := by decide +kernel
theorem d_Ro_init_18 : decode b_Ro_init 18 = .ok (.putfield 14, 3) := by decide +kernel
theorem d_Ro_init_21 : decode b_Ro_init 21 = .ok (.aload_n 0, 1) := by decide +kernel
theorem d_Ro_init_22 : decode b_Ro_init 22 = .ok (.sipush 513, 3) := by decide +kernel
theorem d_Ro_init_25 : decode b_Ro_init 25 = .ok (.newarray .boolean, 2) := by decide +kernel
theorem d_Ro_init_27 : decode b_Ro_init 27 = .ok (.putfield 17, 3) := by decide +kernel
theorem d_Ro_init_30 : decode b_Ro_init 30 = .ok (.aload_n 0, 1) := by decide +kernel
theorem d_Ro_init_31 : decode b_Ro_init 31 = .ok (.iconst 0, 1) := by decide +kernel
theorem d_Ro_init_32 : decode b_Ro_init 32 = .ok (.putfield 21, 3) := by decide +kernel
theorem d_Ro_init_35 : decode b_Ro_init 35 = .ok (.aload_n 0, 1) := by decide +kernel
theorem d_Ro_init_36 : decode b_Ro_init 36 = .ok (.iconst 1, 1) := by decide +kernel
theorem d_Ro_init_37 : decode b_Ro_init 37 = .ok (.putfield 25, 3) := by decide +kernel
theorem d_Ro_init_40 : decode b_Ro_init 40 = .ok (.aload_n 0, 1) := by decide +kernel
theorem d_Ro_init_41 : decode b_Ro_init 41 = .ok (.iconst 0, 1) := by decide +kernel
theorem d_Ro_init_42 : decode b_Ro_init 42 = .ok (.putfield 28, 3) := by decide +kernel
theorem d_Ro_init_45 : decode b_Ro_init 45 = .ok (.return_, 1) := by decide +kernel
theorem d_Ro_clear_0 : decode b_Ro_clear 0 = .ok (.aload_n 0, 1) := by decide +kernel
theorem d_Ro_clear_1 : decode b_Ro_clear 1 = .ok (.iconst 0, 1) := by decide +kernel
theorem d_Ro_clear_2 : decode b_Ro_clear 2 = .ok (.putfield 21, 3) := by decide +kernel
theorem d_Ro_clear_5 : decode b_Ro_clear 5 = .ok (.aload_n 0, 1) := by decide +kernel
theorem d_Ro_clear_6 : decode b_Ro_clear 6 = .ok (.iconst 1, 1) := by decide +kernel
theorem d_Ro_clear_7 : decode b_Ro_clear 7 = .ok (.putfield 25, 3) := by decide +kernel
theorem d_Ro_clear_10 : decode b_Ro_clear 10 = .ok (.aload_n 0, 1) := by decide +kernel
theorem d_Ro_clear_11 : decode b_Ro_clear 11 = .ok (.iconst 0, 1) := by decide +kernel
theorem d_Ro_clear_12 : decode b_Ro_clear 12 = .ok (.putfield 28, 3) := by decide +kernel
theorem d_Ro_clear_15 : decode b_Ro_clear 15 = .ok (.return_, 1) := by decide +kernel
theorem d_Ro_length_0 : decode b_Ro_length 0 = .ok (.aload_n 0, 1) := by decide +kernel
theorem d_Ro_length_1 : decode b_Ro_length 1 = .ok (.getfield 21, 3) := by decide +kernel
theorem d_Ro_length_4 : decode b_Ro_length 4 = .ok (.ireturn, 1) := by decide +kernel
theorem d_Ro_segmentCount_0 : decode b_Ro_segmentCount 0 = .ok (.aload_n 0, 1) := by decide +kernel
theorem d_Ro_segmentCount_1 : decode b_Ro_segmentCount 1 = .ok (.getfield 25, 3) := by decide +kernel
theorem d_Ro_segmentCount_4 : decode b_Ro_segmentCount 4 = .ok (.ireturn, 1) := by decide +kernel
theorem d_Ro_has_0 : decode b_Ro_has 0 = .ok (.iload_n 1, 1) := by decide +kernel
theorem d_Ro_has_1 : decode b_Ro_has 1 = .ok (.ifCond .lt 22, 3) := by decide +kernel
theorem d_Ro_has_4 : decode b_Ro_has 4 = .ok (.iload_n 1, 1) := by decide +kernel
theorem d_Ro_has_5 : decode b_Ro_has 5 = .ok (.aload_n 0, 1) := by decide +kernel
theorem d_Ro_has_6 : decode b_Ro_has 6 = .ok (.getfield 25, 3) := by decide +kernel
theorem d_Ro_has_9 : decode b_Ro_has 9 = .ok (.if_icmp .ge 14, 3) := by decide +kernel
theorem d_Ro_has_12 : decode b_Ro_has 12 = .ok (.iload_n 1, 1) := by decide +kernel
theorem d_Ro_has_13 : decode b_Ro_has 13 = .ok (.sipush 513, 3) := by decide +kernel
theorem d_Ro_has_16 : decode b_Ro_has 16 = .ok (.if_icmp .ge 7, 3) := by decide +kernel
theorem d_Ro_has_19 : decode b_Ro_has 19 = .ok (.iconst 1, 1) := by decide +kernel
theorem d_Ro_has_20 : decode b_Ro_has 20 = .ok (.goto 4, 3) := by decide +kernel
theorem d_Ro_has_23 : decode b_Ro_has 23 = .ok (.iconst 0, 1) := by decide +kernel
theorem d_Ro_has_24 : decode b_Ro_has 24 = .ok (.ireturn, 1) := by decide +kernel
theorem d_Ro_isPlain_0 : decode b_Ro_isPlain 0 = .ok (.aload_n 0, 1) := by decide +kernel
theorem d_Ro_isPlain_1 : decode b_Ro_isPlain 1 = .ok (.iload_n 1, 1) := by decide +kernel
theorem d_Ro_isPlain_2 : decode b_Ro_isPlain 2 = .ok (.invokevirtual 31, 3) := by decide +kernel
theorem d_Ro_isPlain_5 : decode b_Ro_isPlain 5 = .ok (.ifCond .eq 16, 3) := by decide +kernel
theorem d_Ro_isPlain_8 : decode b_Ro_isPlain 8 = .ok (.aload_n 0, 1) := by decide +kernel
theorem d_Ro_isPlain_9 : decode b_Ro_isPlain 9 = .ok (.getfield 17, 3) := by decide +kernel
theorem d_Ro_isPlain_12 : decode b_Ro_isPlain 12 = .ok (.iload_n 1, 1) := by decide +kernel
theorem d_Ro_isPlain_13 : decode b_Ro_isPlain 13 = .ok (.baload, 1) := by decide +kernel
theorem d_Ro_isPlain_14 : decode b_Ro_isPlain 14 = .ok (.ifCond .eq 7, 3) := by decide +kernel
theorem d_Ro_isPlain_17 : decode b_Ro_isPlain 17 = .ok (.iconst 1, 1) := by decide +kernel
theorem d_Ro_isPlain_18 : decode b_Ro_isPlain 18 = .ok (.goto 4, 3) := by decide +kernel
theorem d_Ro_isPlain_21 : decode b_Ro_isPlain 21 = .ok (.iconst 0, 1) := by decide +kernel
theorem d_Ro_isPlain_22 : decode b_Ro_isPlain 22 = .ok (.ireturn, 1) := by decide +kernel
theorem d_Ro_beginSegment_0 : decode b_Ro_beginSegment 0 = .ok (.aload_n 0, 1) := by decide +kernel
theorem d_Ro_beginSegment_1 : decode b_Ro_beginSegment 1 = .ok (.getfield 25, 3) := by decide +kernel
theorem d_Ro_beginSegment_4 : decode b_Ro_beginSegment 4 = .ok (.ifCond .lt 54, 3) := by decide +kernel
theorem d_Ro_beginSegment_7 : decode b_Ro_beginSegment 7 = .ok (.aload_n 0, 1) := by decide +kernel
theorem d_Ro_beginSegment_8 : decode b_Ro_beginSegment 8 = .ok (.getfield 25, 3) := by decide +kernel
theorem d_Ro_beginSegment_11 : decode b_Ro_beginSegment 11 = .ok (.sipush 513, 3) := by decide +kernel
theorem d_Ro_beginSegment_14 : decode b_Ro_beginSegment 14 = .ok (.if_icmp .ge 44, 3) := by decide +kernel
theorem d_Ro_beginSegment_17 : decode b_Ro_beginSegment 17 = .ok (.aload_n 0, 1) := by decide +kernel
theorem d_Ro_beginSegment_18 : decode b_Ro_beginSegment 18 = .ok (.getfield 14, 3) := by decide +kernel
theorem d_Ro_beginSegment_21 : decode b_Ro_beginSegment 21 = .ok (.aload_n 0, 1) := by decide +kernel
theorem d_Ro_beginSegment_22 : decode b_Ro_beginSegment 22 = .ok (.getfield 25, 3) := by decide +kernel
theorem d_Ro_beginSegment_25 : decode b_Ro_beginSegment 25 = .ok (.aload_n 0, 1) := by decide +kernel
theorem d_Ro_beginSegment_26 : decode b_Ro_beginSegment 26 = .ok (.getfield 21, 3) := by decide +kernel
theorem d_Ro_beginSegment_29 : decode b_Ro_beginSegment 29 = .ok (.iastore, 1) := by decide +kernel
theorem d_Ro_beginSegment_30 : decode b_Ro_beginSegment 30 = .ok (.aload_n 0, 1) := by decide +kernel
theorem d_Ro_beginSegment_31 : decode b_Ro_beginSegment 31 = .ok (.getfield 17, 3) := by decide +kernel
theorem d_Ro_beginSegment_34 : decode b_Ro_beginSegment 34 = .ok (.aload_n 0, 1) := by decide +kernel
theorem d_Ro_beginSegment_35 : decode b_Ro_beginSegment 35 = .ok (.getfield 25, 3) := by decide +kernel
theorem d_Ro_beginSegment_38 : decode b_Ro_beginSegment 38 = .ok (.iload_n 1, 1) := by decide +kernel
theorem d_Ro_beginSegment_39 : decode b_Ro_beginSegment 39 = .ok (.bastore, 1) := by decide +kernel
theorem d_Ro_beginSegment_40 : decode b_Ro_beginSegment 40 = .ok (.aload_n 0, 1) := by decide +kernel
theorem d_Ro_beginSegment_41 : decode b_Ro_beginSegment 41 = .ok (.aload_n 0, 1) := by decide +kernel
theorem d_Ro_beginSegment_42 : decode b_Ro_beginSegment 42 = .ok (.getfield 21, 3) := by decide +kernel
theorem d_Ro_beginSegment_45 : decode b_Ro_beginSegment 45 = .ok (.putfield 28, 3) := by decide +kernel
theorem d_Ro_beginSegment_48 : decode b_Ro_beginSegment 48 = .ok (.aload_n 0, 1) := by decide +kernel
theorem d_Ro_beginSegment_49 : decode b_Ro_beginSegment 49 = .ok (.dup, 1) := by decide +kernel
theorem d_Ro_beginSegment_50 : decode b_Ro_beginSegment 50 = .ok (.getfield 25, 3) := by decide +kernel
theorem d_Ro_beginSegment_53 : decode b_Ro_beginSegment 53 = .ok (.iconst 1, 1) := by decide +kernel
theorem d_Ro_beginSegment_54 : decode b_Ro_beginSegment 54 = .ok (.iadd, 1) := by decide +kernel
theorem d_Ro_beginSegment_55 : decode b_Ro_beginSegment 55 = .ok (.putfield 25, 3) := by decide +kernel
theorem d_Ro_beginSegment_58 : decode b_Ro_beginSegment 58 = .ok (.return_, 1) := by decide +kernel
theorem d_Ro_startOf_0 : decode b_Ro_startOf 0 = .ok (.aload_n 0, 1) := by decide +kernel
theorem d_Ro_startOf_1 : decode b_Ro_startOf 1 = .ok (.iload_n 1, 1) := by decide +kernel
theorem d_Ro_startOf_2 : decode b_Ro_startOf 2 = .ok (.invokevirtual 31, 3) := by decide +kernel
theorem d_Ro_startOf_5 : decode b_Ro_startOf 5 = .ok (.ifCond .eq 12, 3) := by decide +kernel
theorem d_Ro_startOf_8 : decode b_Ro_startOf 8 = .ok (.aload_n 0, 1) := by decide +kernel
theorem d_Ro_startOf_9 : decode b_Ro_startOf 9 = .ok (.getfield 14, 3) := by decide +kernel
theorem d_Ro_startOf_12 : decode b_Ro_startOf 12 = .ok (.iload_n 1, 1) := by decide +kernel
theorem d_Ro_startOf_13 : decode b_Ro_startOf 13 = .ok (.iaload, 1) := by decide +kernel
theorem d_Ro_startOf_14 : decode b_Ro_startOf 14 = .ok (.goto 7, 3) := by decide +kernel
theorem d_Ro_startOf_17 : decode b_Ro_startOf 17 = .ok (.aload_n 0, 1) := by decide +kernel
theorem d_Ro_startOf_18 : decode b_Ro_startOf 18 = .ok (.getfield 21, 3) := by decide +kernel
theorem d_Ro_startOf_21 : decode b_Ro_startOf 21 = .ok (.ireturn, 1) := by decide +kernel
theorem d_Ro_endOf_0 : decode b_Ro_endOf 0 = .ok (.aload_n 0, 1) := by decide +kernel
theorem d_Ro_endOf_1 : decode b_Ro_endOf 1 = .ok (.iload_n 1, 1) := by decide +kernel
theorem d_Ro_endOf_2 : decode b_Ro_endOf 2 = .ok (.iconst 1, 1) := by decide +kernel
theorem d_Ro_endOf_3 : decode b_Ro_endOf 3 = .ok (.iadd, 1) := by decide +kernel
theorem d_Ro_endOf_4 : decode b_Ro_endOf 4 = .ok (.invokevirtual 35, 3) := by decide +kernel
theorem d_Ro_endOf_7 : decode b_Ro_endOf 7 = .ok (.ireturn, 1) := by decide +kernel
theorem d_Ro_add_0 : decode b_Ro_add 0 = .ok (.aload_n 0, 1) := by decide +kernel
theorem d_Ro_add_1 : decode b_Ro_add 1 = .ok (.getfield 21, 3) := by decide +kernel
theorem d_Ro_add_4 : decode b_Ro_add 4 = .ok (.ifCond .lt 39, 3) := by decide +kernel
theorem d_Ro_add_7 : decode b_Ro_add 7 = .ok (.aload_n 0, 1) := by decide +kernel
theorem d_Ro_add_8 : decode b_Ro_add 8 = .ok (.getfield 21, 3) := by decide +kernel
theorem d_Ro_add_11 : decode b_Ro_add 11 = .ok (.aload_n 0, 1) := by decide +kernel
theorem d_Ro_add_12 : decode b_Ro_add 12 = .ok (.getfield 10, 3) := by decide +kernel
theorem d_Ro_add_15 : decode b_Ro_add 15 = .ok (.arraylength, 1) := by decide +kernel
theorem d_Ro_add_16 : decode b_Ro_add 16 = .ok (.if_icmp .ge 27, 3) := by decide +kernel
theorem d_Ro_add_19 : decode b_Ro_add 19 = .ok (.aload_n 0, 1) := by decide +kernel
theorem d_Ro_add_20 : decode b_Ro_add 20 = .ok (.getfield 10, 3) := by decide +kernel
theorem d_Ro_add_23 : decode b_Ro_add 23 = .ok (.aload_n 0, 1) := by decide +kernel
theorem d_Ro_add_24 : decode b_Ro_add 24 = .ok (.getfield 21, 3) := by decide +kernel
theorem d_Ro_add_27 : decode b_Ro_add 27 = .ok (.iload_n 1, 1) := by decide +kernel
theorem d_Ro_add_28 : decode b_Ro_add 28 = .ok (.sipush 255, 3) := by decide +kernel
theorem d_Ro_add_31 : decode b_Ro_add 31 = .ok (.iand, 1) := by decide +kernel
theorem d_Ro_add_32 : decode b_Ro_add 32 = .ok (.iastore, 1) := by decide +kernel
theorem d_Ro_add_33 : decode b_Ro_add 33 = .ok (.aload_n 0, 1) := by decide +kernel
theorem d_Ro_add_34 : decode b_Ro_add 34 = .ok (.dup, 1) := by decide +kernel
theorem d_Ro_add_35 : decode b_Ro_add 35 = .ok (.getfield 21, 3) := by decide +kernel
theorem d_Ro_add_38 : decode b_Ro_add 38 = .ok (.iconst 1, 1) := by decide +kernel
theorem d_Ro_add_39 : decode b_Ro_add 39 = .ok (.iadd, 1) := by decide +kernel
theorem d_Ro_add_40 : decode b_Ro_add 40 = .ok (.putfield 21, 3) := by decide +kernel
theorem d_Ro_add_43 : decode b_Ro_add 43 = .ok (.return_, 1) := by decide +kernel
theorem d_Ro_byteBefore_0 : decode b_Ro_byteBefore 0 = .ok (.iload_n 2, 1) := by decide +kernel
theorem d_Ro_byteBefore_1 : decode b_Ro_byteBefore 1 = .ok (.ifCond .lt 26, 3) := by decide +kernel
theorem d_Ro_byteBefore_4 : decode b_Ro_byteBefore 4 = .ok (.iload_n 2, 1) := by decide +kernel
theorem d_Ro_byteBefore_5 : decode b_Ro_byteBefore 5 = .ok (.iload_n 1, 1) := by decide +kernel
theorem d_Ro_byteBefore_6 : decode b_Ro_byteBefore 6 = .ok (.if_icmp .ge 21, 3) := by decide +kernel
theorem d_Ro_byteBefore_9 : decode b_Ro_byteBefore 9 = .ok (.iload_n 2, 1) := by decide +kernel
theorem d_Ro_byteBefore_10 : decode b_Ro_byteBefore 10 = .ok (.aload_n 0, 1) := by decide +kernel
theorem d_Ro_byteBefore_11 : decode b_Ro_byteBefore 11 = .ok (.getfield 10, 3) := by decide +kernel
theorem d_Ro_byteBefore_14 : decode b_Ro_byteBefore 14 = .ok (.arraylength, 1) := by decide +kernel
theorem d_Ro_byteBefore_15 : decode b_Ro_byteBefore 15 = .ok (.if_icmp .ge 12, 3) := by decide +kernel
theorem d_Ro_byteBefore_18 : decode b_Ro_byteBefore 18 = .ok (.aload_n 0, 1) := by decide +kernel
theorem d_Ro_byteBefore_19 : decode b_Ro_byteBefore 19 = .ok (.getfield 10, 3) := by decide +kernel
theorem d_Ro_byteBefore_22 : decode b_Ro_byteBefore 22 = .ok (.iload_n 2, 1) := by decide +kernel
theorem d_Ro_byteBefore_23 : decode b_Ro_byteBefore 23 = .ok (.iaload, 1) := by decide +kernel
theorem d_Ro_byteBefore_24 : decode b_Ro_byteBefore 24 = .ok (.goto 6, 3) := by decide +kernel
theorem d_Ro_byteBefore_27 : decode b_Ro_byteBefore 27 = .ok (.sipush 255, 3) := by decide +kernel
theorem d_Ro_byteBefore_30 : decode b_Ro_byteBefore 30 = .ok (.ireturn, 1) := by decide +kernel
theorem d_Ro_last_0 : decode b_Ro_last 0 = .ok (.aload_n 0, 1) := by decide +kernel
theorem d_Ro_last_1 : decode b_Ro_last 1 = .ok (.getfield 21, 3) := by decide +kernel
theorem d_Ro_last_4 : decode b_Ro_last 4 = .ok (.iconst 1, 1) := by decide +kernel
theorem d_Ro_last_5 : decode b_Ro_last 5 = .ok (.isub, 1) := by decide +kernel
theorem d_Ro_last_6 : decode b_Ro_last 6 = .ok (.istore_n 1, 1) := by decide +kernel
theorem d_Ro_last_7 : decode b_Ro_last 7 = .ok (.iload_n 1, 1) := by decide +kernel
theorem d_Ro_last_8 : decode b_Ro_last 8 = .ok (.aload_n 0, 1) := by decide +kernel
theorem d_Ro_last_9 : decode b_Ro_last 9 = .ok (.getfield 28, 3) := by decide +kernel
theorem d_Ro_last_12 : decode b_Ro_last 12 = .ok (.if_icmp .lt 25, 3) := by decide +kernel
theorem d_Ro_last_15 : decode b_Ro_last 15 = .ok (.iload_n 1, 1) := by decide +kernel
theorem d_Ro_last_16 : decode b_Ro_last 16 = .ok (.ifCond .lt 21, 3) := by decide +kernel
theorem d_Ro_last_19 : decode b_Ro_last 19 = .ok (.iload_n 1, 1) := by decide +kernel
theorem d_Ro_last_20 : decode b_Ro_last 20 = .ok (.aload_n 0, 1) := by decide +kernel
theorem d_Ro_last_21 : decode b_Ro_last 21 = .ok (.getfield 10, 3) := by decide +kernel
theorem d_Ro_last_24 : decode b_Ro_last 24 = .ok (.arraylength, 1) := by decide +kernel
theorem d_Ro_last_25 : decode b_Ro_last 25 = .ok (.if_icmp .ge 12, 3) := by decide +kernel
theorem d_Ro_last_28 : decode b_Ro_last 28 = .ok (.aload_n 0, 1) := by decide +kernel
theorem d_Ro_last_29 : decode b_Ro_last 29 = .ok (.getfield 10, 3) := by decide +kernel
theorem d_Ro_last_32 : decode b_Ro_last 32 = .ok (.iload_n 1, 1) := by decide +kernel
theorem d_Ro_last_33 : decode b_Ro_last 33 = .ok (.iaload, 1) := by decide +kernel
theorem d_Ro_last_34 : decode b_Ro_last 34 = .ok (.goto 4, 3) := by decide +kernel
theorem d_Ro_last_37 : decode b_Ro_last 37 = .ok (.iconst (-1), 1) := by decide +kernel
theorem d_Ro_last_38 : decode b_Ro_last 38 = .ok (.ireturn, 1) := by decide +kernel
theorem d_Ro_raiseLast_0 : decode b_Ro_raiseLast 0 = .ok (.aload_n 0, 1) := by decide +kernel
theorem d_Ro_raiseLast_1 : decode b_Ro_raiseLast 1 = .ok (.getfield 21, 3) := by decide +kernel
theorem d_Ro_raiseLast_4 : decode b_Ro_raiseLast 4 = .ok (.iconst 1, 1) := by decide +kernel
theorem d_Ro_raiseLast_5 : decode b_Ro_raiseLast 5 = .ok (.isub, 1) := by decide +kernel
theorem d_Ro_raiseLast_6 : decode b_Ro_raiseLast 6 = .ok (.istore_n 1, 1) := by decide +kernel
theorem d_Ro_raiseLast_7 : decode b_Ro_raiseLast 7 = .ok (.iload_n 1, 1) := by decide +kernel
theorem d_Ro_raiseLast_8 : decode b_Ro_raiseLast 8 = .ok (.ifCond .lt 30, 3) := by decide +kernel
theorem d_Ro_raiseLast_11 : decode b_Ro_raiseLast 11 = .ok (.iload_n 1, 1) := by decide +kernel
theorem d_Ro_raiseLast_12 : decode b_Ro_raiseLast 12 = .ok (.aload_n 0, 1) := by decide +kernel
theorem d_Ro_raiseLast_13 : decode b_Ro_raiseLast 13 = .ok (.getfield 10, 3) := by decide +kernel
theorem d_Ro_raiseLast_16 : decode b_Ro_raiseLast 16 = .ok (.arraylength, 1) := by decide +kernel
theorem d_Ro_raiseLast_17 : decode b_Ro_raiseLast 17 = .ok (.if_icmp .ge 21, 3) := by decide +kernel
theorem d_Ro_raiseLast_20 : decode b_Ro_raiseLast 20 = .ok (.aload_n 0, 1) := by decide +kernel
theorem d_Ro_raiseLast_21 : decode b_Ro_raiseLast 21 = .ok (.getfield 10, 3) := by decide +kernel
theorem d_Ro_raiseLast_24 : decode b_Ro_raiseLast 24 = .ok (.iload_n 1, 1) := by decide +kernel
theorem d_Ro_raiseLast_25 : decode b_Ro_raiseLast 25 = .ok (.aload_n 0, 1) := by decide +kernel
theorem d_Ro_raiseLast_26 : decode b_Ro_raiseLast 26 = .ok (.getfield 10, 3) := by decide +kernel
theorem d_Ro_raiseLast_29 : decode b_Ro_raiseLast 29 = .ok (.iload_n 1, 1) := by decide +kernel
theorem d_Ro_raiseLast_30 : decode b_Ro_raiseLast 30 = .ok (.iaload, 1) := by decide +kernel
theorem d_Ro_raiseLast_31 : decode b_Ro_raiseLast 31 = .ok (.iconst 1, 1) := by decide +kernel
theorem d_Ro_raiseLast_32 : decode b_Ro_raiseLast 32 = .ok (.iadd, 1) := by decide +kernel
theorem d_Ro_raiseLast_33 : decode b_Ro_raiseLast 33 = .ok (.sipush 255, 3) := by decide +kernel
theorem d_Ro_raiseLast_36 : decode b_Ro_raiseLast 36 = .ok (.iand, 1) := by decide +kernel
theorem d_Ro_raiseLast_37 : decode b_Ro_raiseLast 37 = .ok (.iastore, 1) := by decide +kernel
theorem d_Ro_raiseLast_38 : decode b_Ro_raiseLast 38 = .ok (.return_, 1) := by decide +kernel
theorem d_Ro_dropLastIfFull_0 : decode b_Ro_dropLastIfFull 0 = .ok (.aload_n 0, 1) := by decide +kernel
theorem d_Ro_dropLastIfFull_1 : decode b_Ro_dropLastIfFull 1 = .ok (.invokevirtual 39, 3) := by decide +kernel
theorem d_Ro_dropLastIfFull_4 : decode b_Ro_dropLastIfFull 4 = .ok (.sipush 255, 3) := by decide +kernel
theorem d_Ro_dropLastIfFull_7 : decode b_Ro_dropLastIfFull 7 = .ok (.if_icmp .ne 13, 3) := by decide +kernel
theorem d_Ro_dropLastIfFull_10 : decode b_Ro_dropLastIfFull 10 = .ok (.aload_n 0, 1) := by decide +kernel
theorem d_Ro_dropLastIfFull_11 : decode b_Ro_dropLastIfFull 11 = .ok (.dup, 1) := by decide +kernel
theorem d_Ro_dropLastIfFull_12 : decode b_Ro_dropLastIfFull 12 = .ok (.getfield 21, 3) := by decide +kernel
theorem d_Ro_dropLastIfFull_15 : decode b_Ro_dropLastIfFull 15 = .ok (.iconst 1, 1) := by decide +kernel
theorem d_Ro_dropLastIfFull_16 : decode b_Ro_dropLastIfFull 16 = .ok (.isub, 1) := by decide +kernel
theorem d_Ro_dropLastIfFull_17 : decode b_Ro_dropLastIfFull 17 = .ok (.putfield 21, 3) := by decide +kernel
theorem d_Ro_dropLastIfFull_20 : decode b_Ro_dropLastIfFull 20 = .ok (.return_, 1) := by decide +kernel
theorem d_Si_init_0 : decode b_Si_init 0 = .ok (.aload_n 0, 1) := by decide +kernel
theorem d_Si_init_1 : decode b_Si_init 1 = .ok (.invokespecial 3, 3) := by decide +kernel
theorem d_Si_init_4 : decode b_Si_init 4 = .ok (.aload_n 0, 1) := by decide +kernel
theorem d_Si_init_5 : decode b_Si_init 5 = .ok (.iload_n 1, 1) := by decide +kernel
theorem d_Si_init_6 : decode b_Si_init 6 = .ok (.newarray .int, 2) := by decide +kernel
theorem d_Si_init_8 : decode b_Si_init 8 = .ok (.putfield 9, 3) := by decide +kernel
theorem d_Si_init_11 : decode b_Si_init 11 = .ok (.aload_n 0, 1) := by decide +kernel
theorem d_Si_init_12 : decode b_Si_init 12 = .ok (.sipush 4096, 3) := by decide +kernel
theorem d_Si_init_15 : decode b_Si_init 15 = .ok (.newarray .int, 2) := by decide +kernel
theorem d_Si_init_17 : decode b_Si_init 17 = .ok (.putfield 15, 3) := by decide +kernel
theorem d_Si_init_20 : decode b_Si_init 20 = .ok (.return_, 1) := by decide +kernel
theorem d_Si_clear_0 : decode b_Si_clear 0 = .ok (.aload_n 0, 1) := by decide +kernel
theorem d_Si_clear_1 : decode b_Si_clear 1 = .ok (.getfield 9, 3) := by decide +kernel
theorem d_Si_clear_4 : decode b_Si_clear 4 = .ok (.iconst 0, 1) := by decide +kernel
theorem d_Si_clear_5 : decode b_Si_clear 5 = .ok (.invokestatic 18, 3) := by decide +kernel
theorem d_Si_clear_8 : decode b_Si_clear 8 = .ok (.aload_n 0, 1) := by decide +kernel
theorem d_Si_clear_9 : decode b_Si_clear 9 = .ok (.getfield 15, 3) := by decide +kernel
theorem d_Si_clear_12 : decode b_Si_clear 12 = .ok (.iconst 0, 1) := by decide +kernel
theorem d_Si_clear_13 : decode b_Si_clear 13 = .ok (.invokestatic 18, 3) := by decide +kernel
theorem d_Si_clear_16 : decode b_Si_clear 16 = .ok (.return_, 1) := by decide +kernel
theorem d_Ta_q_0 : decode b_Ta_q 0 = .ok (.getstatic 7, 3) := by decide +kernel
theorem d_Ta_q_3 : decode b_Ta_q 3 = .ok (.iload_n 0, 1) := by decide +kernel
theorem d_Ta_q_4 : decode b_Ta_q 4 = .ok (.iconst 1, 1) := by decide +kernel
theorem d_Ta_q_5 : decode b_Ta_q 5 = .ok (.ishr, 1) := by decide +kernel
theorem d_Ta_q_6 : decode b_Ta_q 6 = .ok (.invokestatic 13, 3) := by decide +kernel
theorem d_Ta_q_9 : decode b_Ta_q 9 = .ok (.ireturn, 1) := by decide +kernel
theorem d_Ta_behindLikely_0 : decode b_Ta_behindLikely 0 = .ok (.iconst 2, 1) := by decide +kernel
theorem d_Ta_behindLikely_1 : decode b_Ta_behindLikely 1 = .ok (.getstatic 19, 3) := by decide +kernel
theorem d_Ta_behindLikely_4 : decode b_Ta_behindLikely 4 = .ok (.iload_n 0, 1) := by decide +kernel
theorem d_Ta_behindLikely_5 : decode b_Ta_behindLikely 5 = .ok (.iconst 1, 1) := by decide +kernel
theorem d_Ta_behindLikely_6 : decode b_Ta_behindLikely 6 = .ok (.ishr, 1) := by decide +kernel
theorem d_Ta_behindLikely_7 : decode b_Ta_behindLikely 7 = .ok (.invokestatic 13, 3) := by decide +kernel
theorem d_Ta_behindLikely_10 : decode b_Ta_behindLikely 10 = .ok (.imul, 1) := by decide +kernel
theorem d_Ta_behindLikely_11 : decode b_Ta_behindLikely 11 = .ok (.iload_n 0, 1) := by decide +kernel
theorem d_Ta_behindLikely_12 : decode b_Ta_behindLikely 12 = .ok (.iconst 1, 1) := by decide +kernel
theorem d_Ta_behindLikely_13 : decode b_Ta_behindLikely 13 = .ok (.iand, 1) := by decide +kernel
theorem d_Ta_behindLikely_14 : decode b_Ta_behindLikely 14 = .ok (.iadd, 1) := by decide +kernel
theorem d_Ta_behindLikely_15 : decode b_Ta_behindLikely 15 = .ok (.ireturn, 1) := by decide +kernel
theorem d_Ta_behindOther_0 : decode b_Ta_behindOther 0 = .ok (.iload_n 0, 1) := by decide +kernel
theorem d_Ta_behindOther_1 : decode b_Ta_behindOther 1 = .ok (.iconst 1, 1) := by decide +kernel
theorem d_Ta_behindOther_2 : decode b_Ta_behindOther 2 = .ok (.ishr, 1) := by decide +kernel
theorem d_Ta_behindOther_3 : decode b_Ta_behindOther 3 = .ok (.istore_n 1, 1) := by decide +kernel
theorem d_Ta_behindOther_4 : decode b_Ta_behindOther 4 = .ok (.iload_n 0, 1) := by decide +kernel
theorem d_Ta_behindOther_5 : decode b_Ta_behindOther 5 = .ok (.iconst 1, 1) := by decide +kernel
theorem d_Ta_behindOther_6 : decode b_Ta_behindOther 6 = .ok (.iand, 1) := by decide +kernel
theorem d_Ta_behindOther_7 : decode b_Ta_behindOther 7 = .ok (.istore_n 2, 1) := by decide +kernel
theorem d_Ta_behindOther_8 : decode b_Ta_behindOther 8 = .ok (.iload_n 1, 1) := by decide +kernel
theorem d_Ta_behindOther_9 : decode b_Ta_behindOther 9 = .ok (.ifCond .eq 15, 3) := by decide +kernel
theorem d_Ta_behindOther_12 : decode b_Ta_behindOther 12 = .ok (.iload_n 1, 1) := by decide +kernel
theorem d_Ta_behindOther_13 : decode b_Ta_behindOther 13 = .ok (.bipush 6, 2) := by decide +kernel
theorem d_Ta_behindOther_15 : decode b_Ta_behindOther 15 = .ok (.if_icmp .eq 9, 3) := by decide +kernel
theorem d_Ta_behindOther_18 : decode b_Ta_behindOther 18 = .ok (.iload_n 1, 1) := by decide +kernel
theorem d_Ta_behindOther_19 : decode b_Ta_behindOther 19 = .ok (.bipush 14, 2) := by decide +kernel
theorem d_Ta_behindOther_21 : decode b_Ta_behindOther 21 = .ok (.if_icmp .ne 7, 3) := by decide +kernel
theorem d_Ta_behindOther_24 : decode b_Ta_behindOther 24 = .ok (.iconst 1, 1) := by decide +kernel
theorem d_Ta_behindOther_25 : decode b_Ta_behindOther 25 = .ok (.goto 4, 3) := by decide +kernel
theorem d_Ta_behindOther_28 : decode b_Ta_behindOther 28 = .ok (.iconst 0, 1) := by decide +kernel
theorem d_Ta_behindOther_29 : decode b_Ta_behindOther 29 = .ok (.istore_n 3, 1) := by decide +kernel
theorem d_Ta_behindOther_30 : decode b_Ta_behindOther 30 = .ok (.iconst 2, 1) := by decide +kernel
theorem d_Ta_behindOther_31 : decode b_Ta_behindOther 31 = .ok (.getstatic 22, 3) := by decide +kernel
theorem d_Ta_behindOther_34 : decode b_Ta_behindOther 34 = .ok (.iload_n 1, 1) := by decide +kernel
theorem d_Ta_behindOther_35 : decode b_Ta_behindOther 35 = .ok (.invokestatic 13, 3) := by decide +kernel
theorem d_Ta_behindOther_38 : decode b_Ta_behindOther 38 = .ok (.imul, 1) := by decide +kernel
theorem d_Ta_behindOther_39 : decode b_Ta_behindOther 39 = .ok (.iload_n 3, 1) := by decide +kernel
theorem d_Ta_behindOther_40 : decode b_Ta_behindOther 40 = .ok (.ifCond .eq 9, 3) := by decide +kernel
theorem d_Ta_behindOther_43 : decode b_Ta_behindOther 43 = .ok (.iconst 1, 1) := by decide +kernel
theorem d_Ta_behindOther_44 : decode b_Ta_behindOther 44 = .ok (.iload_n 2, 1) := by decide +kernel
theorem d_Ta_behindOther_45 : decode b_Ta_behindOther 45 = .ok (.isub, 1) := by decide +kernel
theorem d_Ta_behindOther_46 : decode b_Ta_behindOther 46 = .ok (.goto 4, 3) := by decide +kernel
theorem d_Ta_behindOther_49 : decode b_Ta_behindOther 49 = .ok (.iload_n 2, 1) := by decide +kernel
theorem d_Ta_behindOther_50 : decode b_Ta_behindOther 50 = .ok (.iadd, 1) := by decide +kernel
theorem d_Ta_behindOther_51 : decode b_Ta_behindOther 51 = .ok (.ireturn, 1) := by decide +kernel
theorem d_En_init_0 : decode b_En_init 0 = .ok (.aload_n 0, 1) := by decide +kernel
theorem d_En_init_1 : decode b_En_init 1 = .ok (.invokespecial 3, 3) := by decide +kernel
theorem d_En_init_4 : decode b_En_init 4 = .ok (.aload_n 0, 1) := by decide +kernel
theorem d_En_init_5 : decode b_En_init 5 = .ok (.aload_n 1, 1) := by decide +kernel
theorem d_En_init_6 : decode b_En_init 6 = .ok (.putfield 9, 3) := by decide +kernel
theorem d_En_init_9 : decode b_En_init 9 = .ok (.aload_n 0, 1) := by decide +kernel
theorem d_En_init_10 : decode b_En_init 10 = .ok (.iconst 0, 1) := by decide +kernel
theorem d_En_init_11 : decode b_En_init 11 = .ok (.invokevirtual 15, 3) := by decide +kernel
theorem d_En_init_14 : decode b_En_init 14 = .ok (.return_, 1) := by decide +kernel
theorem d_En_begin_0 : decode b_En_begin 0 = .ok (.aload_n 0, 1) := by decide +kernel
theorem d_En_begin_1 : decode b_En_begin 1 = .ok (.iload_n 1, 1) := by decide +kernel
theorem d_En_begin_2 : decode b_En_begin 2 = .ok (.putfield 19, 3) := by decide +kernel
theorem d_En_begin_5 : decode b_En_begin 5 = .ok (.aload_n 0, 1) := by decide +kernel
theorem d_En_begin_6 : decode b_En_begin 6 = .ok (.ldc 23, 2) := by decide +kernel
theorem d_En_begin_8 : decode b_En_begin 8 = .ok (.putfield 24, 3) := by decide +kernel
theorem d_En_begin_11 : decode b_En_begin 11 = .ok (.aload_n 0, 1) := by decide +kernel
theorem d_En_begin_12 : decode b_En_begin 12 = .ok (.iconst 0, 1) := by decide +kernel
theorem d_En_begin_13 : decode b_En_begin 13 = .ok (.putfield 28, 3) := by decide +kernel
theorem d_En_begin_16 : decode b_En_begin 16 = .ok (.aload_n 0, 1) := by decide +kernel
theorem d_En_begin_17 : decode b_En_begin 17 = .ok (.bipush 12, 2) := by decide +kernel
theorem d_En_begin_19 : decode b_En_begin 19 = .ok (.putfield 31, 3) := by decide +kernel
theorem d_En_begin_22 : decode b_En_begin 22 = .ok (.aload_n 0, 1) := by decide +kernel
theorem d_En_begin_23 : decode b_En_begin 23 = .ok (.iconst 0, 1) := by decide +kernel
theorem d_En_begin_24 : decode b_En_begin 24 = .ok (.putfield 34, 3) := by decide +kernel
theorem d_En_begin_27 : decode b_En_begin 27 = .ok (.aload_n 0, 1) := by decide +kernel
theorem d_En_begin_28 : decode b_En_begin 28 = .ok (.iconst 0, 1) := by decide +kernel
theorem d_En_begin_29 : decode b_En_begin 29 = .ok (.putfield 37, 3) := by decide +kernel
theorem d_En_begin_32 : decode b_En_begin 32 = .ok (.aload_n 0, 1) := by decide +kernel
theorem d_En_begin_33 : decode b_En_begin 33 = .ok (.bipush 8, 2) := by decide +kernel
theorem d_En_begin_35 : decode b_En_begin 35 = .ok (.putfield 40, 3) := by decide +kernel
theorem d_En_begin_38 : decode b_En_begin 38 = .ok (.return_, 1) := by decide +kernel
theorem d_En_turn_0 : decode b_En_turn 0 = .ok (.aload_n 0, 1) := by decide +kernel
theorem d_En_turn_1 : decode b_En_turn 1 = .ok (.getfield 19, 3) := by decide +kernel
theorem d_En_turn_4 : decode b_En_turn 4 = .ok (.iload_n 1, 1) := by decide +kernel
theorem d_En_turn_5 : decode b_En_turn 5 = .ok (.if_icmp .ne 5, 3) := by decide +kernel
theorem d_En_turn_8 : decode b_En_turn 8 = .ok (.iconst 0, 1) := by decide +kernel
theorem d_En_turn_9 : decode b_En_turn 9 = .ok (.ireturn, 1) := by decide +kernel
theorem d_En_turn_10 : decode b_En_turn 10 = .ok (.aload_n 0, 1) := by decide +kernel
theorem d_En_turn_11 : decode b_En_turn 11 = .ok (.invokevirtual 43, 3) := by decide +kernel
theorem d_En_turn_14 : decode b_En_turn 14 = .ok (.aload_n 0, 1) := by decide +kernel
theorem d_En_turn_15 : decode b_En_turn 15 = .ok (.getfield 9, 3) := by decide +kernel
theorem d_En_turn_18 : decode b_En_turn 18 = .ok (.iload_n 1, 1) := by decide +kernel
theorem d_En_turn_19 : decode b_En_turn 19 = .ok (.invokevirtual 46, 3) := by decide +kernel
theorem d_En_turn_22 : decode b_En_turn 22 = .ok (.aload_n 0, 1) := by decide +kernel
theorem d_En_turn_23 : decode b_En_turn 23 = .ok (.iload_n 1, 1) := by decide +kernel
theorem d_En_turn_24 : decode b_En_turn 24 = .ok (.invokevirtual 15, 3) := by decide +kernel
theorem d_En_turn_27 : decode b_En_turn 27 = .ok (.iconst 1, 1) := by decide +kernel
theorem d_En_turn_28 : decode b_En_turn 28 = .ok (.ireturn, 1) := by decide +kernel
theorem d_En_put_0 : decode b_En_put 0 = .ok (.aload_n 0, 1) := by decide +kernel
theorem d_En_put_1 : decode b_En_put 1 = .ok (.getfield 19, 3) := by decide +kernel
theorem d_En_put_4 : decode b_En_put 4 = .ok (.ifCond .eq 11, 3) := by decide +kernel
theorem d_En_put_7 : decode b_En_put 7 = .ok (.aload_n 0, 1) := by decide +kernel
theorem d_En_put_8 : decode b_En_put 8 = .ok (.iload_n 3, 1) := by decide +kernel
theorem d_En_put_9 : decode b_En_put 9 = .ok (.invokevirtual 51, 3) := by decide +kernel
theorem d_En_put_12 : decode b_En_put 12 = .ok (.goto 10, 3) := by decide +kernel
theorem d_En_put_15 : decode b_En_put 15 = .ok (.aload_n 0, 1) := by decide +kernel
theorem d_En_put_16 : decode b_En_put 16 = .ok (.aload_n 1, 1) := by decide +kernel
theorem d_En_put_17 : decode b_En_put 17 = .ok (.iload_n 2, 1) := by decide +kernel
theorem d_En_put_18 : decode b_En_put 18 = .ok (.iload_n 3, 1) := by decide +kernel
theorem d_En_put_19 : decode b_En_put 19 = .ok (.invokevirtual 55, 3) := by decide +kernel
theorem d_En_put_22 : decode b_En_put 22 = .ok (.return_, 1) := by decide +kernel
theorem d_En_endSegment_0 : decode b_En_endSegment 0 = .ok (.aload_n 0, 1) := by decide +kernel
theorem d_En_endSegment_1 : decode b_En_endSegment 1 = .ok (.getfield 19, 3) := by decide +kernel
theorem d_En_endSegment_4 : decode b_En_endSegment 4 = .ok (.ifCond .eq 10, 3) := by decide +kernel
theorem d_En_endSegment_7 : decode b_En_endSegment 7 = .ok (.aload_n 0, 1) := by decide +kernel
theorem d_En_endSegment_8 : decode b_En_endSegment 8 = .ok (.invokevirtual 59, 3) := by decide +kernel
theorem d_En_endSegment_11 : decode b_En_endSegment 11 = .ok (.goto 7, 3) := by decide +kernel
theorem d_En_endSegment_14 : decode b_En_endSegment 14 = .ok (.aload_n 0, 1) := by decide +kernel
theorem d_En_endSegment_15 : decode b_En_endSegment 15 = .ok (.invokevirtual 62, 3) := by decide +kernel
theorem d_En_endSegment_18 : decode b_En_endSegment 18 = .ok (.aload_n 0, 1) := by decide +kernel
theorem d_En_endSegment_19 : decode b_En_endSegment 19 = .ok (.getfield 9, 3) := by decide +kernel
theorem d_En_endSegment_22 : decode b_En_endSegment 22 = .ok (.invokevirtual 65, 3) := by decide +kernel
theorem d_En_endSegment_25 : decode b_En_endSegment 25 = .ok (.return_, 1) := by decide +kernel
theorem d_En_code_0 : decode b_En_code 0 = .ok (.iload_n 2, 1) := by decide +kernel
theorem d_En_code_1 : decode b_En_code 1 = .ok (.ifCond .lt 9, 3) := by decide +kernel
theorem d_En_code_4 : decode b_En_code 4 = .ok (.iload_n 2, 1) := by decide +kernel
theorem d_En_code_5 : decode b_En_code 5 = .ok (.aload_n 1, 1) := by decide +kernel
theorem d_En_code_6 : decode b_En_code 6 = .ok (.arraylength, 1) := by decide +kernel
theorem d_En_code_7 : decode b_En_code 7 = .ok (.if_icmp .lt 4, 3) := by decide +kernel
theorem d_En_code_10 : decode b_En_code 10 = .ok (.return_, 1) := by decide +kernel
theorem d_En_code_11 : decode b_En_code 11 = .ok (.aload_n 1, 1) := by decide +kernel
theorem d_En_code_12 : decode b_En_code 12 = .ok (.iload_n 2, 1) := by decide +kernel
theorem d_En_code_13 : decode b_En_code 13 = .ok (.iaload, 1) := by decide +kernel
theorem d_En_code_14 : decode b_En_code 14 = .ok (.istore 4, 2) := by decide +kernel
theorem d_En_code_16 : decode b_En_code 16 = .ok (.iload 4, 2) := by decide +kernel
theorem d_En_code_18 : decode b_En_code 18 = .ok (.invokestatic 68, 3) := by decide +kernel
theorem d_En_code_21 : decode b_En_code 21 = .ok (.istore 5, 2) := by decide +kernel
theorem d_En_code_23 : decode b_En_code 23 = .ok (.iload_n 3, 1) := by decide +kernel
theorem d_En_code_24 : decode b_En_code 24 = .ok (.iload 4, 2) := by decide +kernel
theorem d_En_code_26 : decode b_En_code 26 = .ok (.iconst 1, 1) := by decide +kernel
theorem d_En_code_27 : decode b_En_code 27 = .ok (.iand, 1) := by decide +kernel
theorem d_En_code_28 : decode b_En_code 28 = .ok (.if_icmp .ne 7, 3) := by decide +kernel
theorem d_En_code_31 : decode b_En_code 31 = .ok (.iconst 1, 1) := by decide +kernel
theorem d_En_code_32 : decode b_En_code 32 = .ok (.goto 4, 3) := by decide +kernel
theorem d_En_code_35 : decode b_En_code 35 = .ok (.iconst 0, 1) := by decide +kernel
theorem d_En_code_36 : decode b_En_code 36 = .ok (.istore 6, 2) := by decide +kernel
theorem d_En_code_38 : decode b_En_code 38 = .ok (.aload_n 0, 1) := by decide +kernel
theorem d_En_code_39 : decode b_En_code 39 = .ok (.dup, 1) := by decide +kernel
theorem d_En_code_40 : decode b_En_code 40 = .ok (.getfield 24, 3) := by decide +kernel
theorem d_En_code_43 : decode b_En_code 43 = .ok (.iload 5, 2) := by decide +kernel
theorem d_En_code_45 : decode b_En_code 45 = .ok (.isub, 1) := by decide +kernel
theorem d_En_code_46 : decode b_En_code 46 = .ok (.putfield 24, 3) := by decide +kernel
theorem d_En_code_49 : decode b_En_code 49 = .ok (.iload 6, 2) := by decide +kernel
theorem d_En_code_51 : decode b_En_code 51 = .ok (.ifCond .eq 24, 3) := by decide +kernel
theorem d_En_code_54 : decode b_En_code 54 = .ok (.aload_n 0, 1) := by decide +kernel
theorem d_En_code_55 : decode b_En_code 55 = .ok (.getfield 24, 3) := by decide +kernel
theorem d_En_code_58 : decode b_En_code 58 = .ok (.ldc 23, 2) := by decide +kernel
theorem d_En_code_60 : decode b_En_code 60 = .ok (.if_icmp .lt 15, 3) := by decide +kernel
theorem d_En_code_63 : decode b_En_code 63 = .ok (.aload_n 0, 1) := by decide +kernel
theorem d_En_code_64 : decode b_En_code 64 = .ok (.dup, 1) := by decide +kernel
theorem d_En_code_65 : decode b_En_code 65 = .ok (.getfield 28, 3) := by decide +kernel
theorem d_En_code_68 : decode b_En_code 68 = .ok (.iload 5, 2) := by decide +kernel
theorem d_En_code_70 : decode b_En_code 70 = .ok (.iadd, 1) := by decide +kernel
theorem d_En_code_71 : decode b_En_code 71 = .ok (.putfield 28, 3) := by decide +kernel
theorem d_En_code_74 : decode b_En_code 74 = .ok (.return_, 1) := by decide +kernel
theorem d_En_code_75 : decode b_En_code 75 = .ok (.iload 6, 2) := by decide +kernel
theorem d_En_code_77 : decode b_En_code 77 = .ok (.aload_n 0, 1) := by decide +kernel
theorem d_En_code_78 : decode b_En_code 78 = .ok (.getfield 24, 3) := by decide +kernel
theorem d_En_code_81 : decode b_En_code 81 = .ok (.iload 5, 2) := by decide +kernel
theorem d_En_code_83 : decode b_En_code 83 = .ok (.if_icmp .ge 7, 3) := by decide +kernel
theorem d_En_code_86 : decode b_En_code 86 = .ok (.iconst 1, 1) := by decide +kernel
theorem d_En_code_87 : decode b_En_code 87 = .ok (.goto 4, 3) := by decide +kernel
theorem d_En_code_90 : decode b_En_code 90 = .ok (.iconst 0, 1) := by decide +kernel
theorem d_En_code_91 : decode b_En_code 91 = .ok (.if_icmp .ne 12, 3) := by decide +kernel
theorem d_En_code_94 : decode b_En_code 94 = .ok (.aload_n 0, 1) := by decide +kernel
theorem d_En_code_95 : decode b_En_code 95 = .ok (.iload 5, 2) := by decide +kernel
theorem d_En_code_97 : decode b_En_code 97 = .ok (.putfield 24, 3) := by decide +kernel
theorem d_En_code_100 : decode b_En_code 100 = .ok (.goto 14, 3) := by decide +kernel
theorem d_En_code_103 : decode b_En_code 103 = .ok (.aload_n 0, 1) := by decide +kernel
theorem d_En_code_104 : decode b_En_code 104 = .ok (.dup, 1) := by decide +kernel
theorem d_En_code_105 : decode b_En_code 105 = .ok (.getfield 28, 3) := by decide +kernel
theorem d_En_code_108 : decode b_En_code 108 = .ok (.iload 5, 2) := by decide +kernel
theorem d_En_code_110 : decode b_En_code 110 = .ok (.iadd, 1) := by decide +kernel
theorem d_En_code_111 : decode b_En_code 111 = .ok (.putfield 28, 3) := by decide +kernel
theorem d_En_code_114 : decode b_En_code 114 = .ok (.aload_n 1, 1) := by decide +kernel
theorem d_En_code_115 : decode b_En_code 115 = .ok (.iload_n 2, 1) := by decide +kernel
theorem d_En_code_116 : decode b_En_code 116 = .ok (.iload 6, 2) := by decide +kernel
theorem d_En_code_118 : decode b_En_code 118 = .ok (.ifCond .eq 11, 3) := by decide +kernel
theorem d_En_code_121 : decode b_En_code 121 = .ok (.iload 4, 2) := by decide +kernel
theorem d_En_code_123 : decode b_En_code 123 = .ok (.invokestatic 74, 3) := by decide +kernel
theorem d_En_code_126 : decode b_En_code 126 = .ok (.goto 8, 3) := by decide +kernel
theorem d_En_code_129 : decode b_En_code 129 = .ok (.iload 4, 2) := by decide +kernel
theorem d_En_code_131 : decode b_En_code 131 = .ok (.invokestatic 77, 3) := by decide +kernel
theorem d_En_code_134 : decode b_En_code 134 = .ok (.iastore, 1) := by decide +kernel
theorem d_En_code_135 : decode b_En_code 135 = .ok (.aload_n 0, 1) := by decide +kernel
theorem d_En_code_136 : decode b_En_code 136 = .ok (.invokevirtual 80, 3) := by decide +kernel
theorem d_En_code_139 : decode b_En_code 139 = .ok (.return_, 1) := by decide +kernel
theorem d_En_renew_0 : decode b_En_renew 0 = .ok (.iconst 0, 1) := by decide +kernel
theorem d_En_renew_1 : decode b_En_renew 1 = .ok (.istore_n 1, 1) := by decide +kernel
theorem d_En_renew_2 : decode b_En_renew 2 = .ok (.iload_n 1, 1) := by decide +kernel
theorem d_En_renew_3 : decode b_En_renew 3 = .ok (.bipush 16, 2) := by decide +kernel
theorem d_En_renew_5 : decode b_En_renew 5 = .ok (.if_icmp .ge 59, 3) := by decide +kernel
theorem d_En_renew_8 : decode b_En_renew 8 = .ok (.aload_n 0, 1) := by decide +kernel
theorem d_En_renew_9 : decode b_En_renew 9 = .ok (.getfield 24, 3) := by decide +kernel
theorem d_En_renew_12 : decode b_En_renew 12 = .ok (.ldc 23, 2) := by decide +kernel
theorem d_En_renew_14 : decode b_En_renew 14 = .ok (.if_icmp .ge 50, 3) := by decide +kernel
theorem d_En_renew_17 : decode b_En_renew 17 = .ok (.aload_n 0, 1) := by decide +kernel
theorem d_En_renew_18 : decode b_En_renew 18 = .ok (.dup, 1) := by decide +kernel
theorem d_En_renew_19 : decode b_En_renew 19 = .ok (.getfield 24, 3) := by decide +kernel
theorem d_En_renew_22 : decode b_En_renew 22 = .ok (.iconst 1, 1) := by decide +kernel
theorem d_En_renew_23 : decode b_En_renew 23 = .ok (.ishl, 1) := by decide +kernel
theorem d_En_renew_24 : decode b_En_renew 24 = .ok (.putfield 24, 3) := by decide +kernel
theorem d_En_renew_27 : decode b_En_renew 27 = .ok (.aload_n 0, 1) := by decide +kernel
theorem d_En_renew_28 : decode b_En_renew 28 = .ok (.dup, 1) := by decide +kernel
theorem d_En_renew_29 : decode b_En_renew 29 = .ok (.getfield 28, 3) := by decide +kernel
theorem d_En_renew_32 : decode b_En_renew 32 = .ok (.iconst 1, 1) := by decide +kernel
theorem d_En_renew_33 : decode b_En_renew 33 = .ok (.ishl, 1) := by decide +kernel
theorem d_En_renew_34 : decode b_En_renew 34 = .ok (.putfield 28, 3) := by decide +kernel
theorem d_En_renew_37 : decode b_En_renew 37 = .ok (.aload_n 0, 1) := by decide +kernel
theorem d_En_renew_38 : decode b_En_renew 38 = .ok (.dup, 1) := by decide +kernel
theorem d_En_renew_39 : decode b_En_renew 39 = .ok (.getfield 31, 3) := by decide +kernel
theorem d_En_renew_42 : decode b_En_renew 42 = .ok (.iconst 1, 1) := by decide +kernel
theorem d_En_renew_43 : decode b_En_renew 43 = .ok (.isub, 1) := by decide +kernel
theorem d_En_renew_44 : decode b_En_renew 44 = .ok (.putfield 31, 3) := by decide +kernel
theorem d_En_renew_47 : decode b_En_renew 47 = .ok (.aload_n 0, 1) := by decide +kernel
theorem d_En_renew_48 : decode b_En_renew 48 = .ok (.getfield 31, 3) := by decide +kernel
theorem d_En_renew_51 : decode b_En_renew 51 = .ok (.ifCond .ne 7, 3) := by decide +kernel
theorem d_En_renew_54 : decode b_En_renew 54 = .ok (.aload_n 0, 1) := by decide +kernel
theorem d_En_renew_55 : decode b_En_renew 55 = .ok (.invokevirtual 83, 3) := by decide +kernel
theorem d_En_renew_58 : decode b_En_renew 58 = .ok (.iinc 1 1, 3) := by decide +kernel
theorem d_En_renew_61 : decode b_En_renew 61 = .ok (.goto (-59), 3) := by decide +kernel
theorem d_En_renew_64 : decode b_En_renew 64 = .ok (.return_, 1) := by decide +kernel
theorem d_En_putOut_0 : decode b_En_putOut 0 = .ok (.aload_n 0, 1) := by decide +kernel
theorem d_En_putOut_1 : decode b_En_putOut 1 = .ok (.getfield 9, 3) := by decide +kernel
theorem d_En_putOut_4 : decode b_En_putOut 4 = .ok (.invokevirtual 86, 3) := by decide +kernel
theorem d_En_putOut_7 : decode b_En_putOut 7 = .ok (.istore_n 1, 1) := by decide +kernel
theorem d_En_putOut_8 : decode b_En_putOut 8 = .ok (.iload_n 1, 1) := by decide +kernel
theorem d_En_putOut_9 : decode b_En_putOut 9 = .ok (.ifCond .lt 40, 3) := by decide +kernel
theorem d_En_putOut_12 : decode b_En_putOut 12 = .ok (.iload_n 1, 1) := by decide +kernel
theorem d_En_putOut_13 : decode b_En_putOut 13 = .ok (.sipush 255, 3) := by decide +kernel
theorem d_En_putOut_16 : decode b_En_putOut 16 = .ok (.if_icmp .ge 33, 3) := by decide +kernel
theorem d_En_putOut_19 : decode b_En_putOut 19 = .ok (.aload_n 0, 1) := by decide +kernel
theorem d_En_putOut_20 : decode b_En_putOut 20 = .ok (.getfield 28, 3) := by decide +kernel
theorem d_En_putOut_23 : decode b_En_putOut 23 = .ok (.ldc 90, 2) := by decide +kernel
theorem d_En_putOut_25 : decode b_En_putOut 25 = .ok (.if_icmp .lt 24, 3) := by decide +kernel
theorem d_En_putOut_28 : decode b_En_putOut 28 = .ok (.aload_n 0, 1) := by decide +kernel
theorem d_En_putOut_29 : decode b_En_putOut 29 = .ok (.getfield 9, 3) := by decide +kernel
theorem d_En_putOut_32 : decode b_En_putOut 32 = .ok (.invokevirtual 91, 3) := by decide +kernel
theorem d_En_putOut_35 : decode b_En_putOut 35 = .ok (.iinc 1 1, 3) := by decide +kernel
theorem d_En_putOut_38 : decode b_En_putOut 38 = .ok (.aload_n 0, 1) := by decide +kernel
theorem d_En_putOut_39 : decode b_En_putOut 39 = .ok (.dup, 1) := by decide +kernel
theorem d_En_putOut_40 : decode b_En_putOut 40 = .ok (.getfield 28, 3) := by decide +kernel
theorem d_En_putOut_43 : decode b_En_putOut 43 = .ok (.ldc 94, 2) := by decide +kernel
theorem d_En_putOut_45 : decode b_En_putOut 45 = .ok (.iand, 1) := by decide +kernel
theorem d_En_putOut_46 : decode b_En_putOut 46 = .ok (.putfield 28, 3) := by decide +kernel
theorem d_En_putOut_49 : decode b_En_putOut 49 = .ok (.iload_n 1, 1) := by decide +kernel
theorem d_En_putOut_50 : decode b_En_putOut 50 = .ok (.sipush 255, 3) := by decide +kernel
theorem d_En_putOut_53 : decode b_En_putOut 53 = .ok (.if_icmp .ne 37, 3) := by decide +kernel
theorem d_En_putOut_56 : decode b_En_putOut 56 = .ok (.aload_n 0, 1) := by decide +kernel
theorem d_En_putOut_57 : decode b_En_putOut 57 = .ok (.getfield 9, 3) := by decide +kernel
theorem d_En_putOut_60 : decode b_En_putOut 60 = .ok (.aload_n 0, 1) := by decide +kernel
theorem d_En_putOut_61 : decode b_En_putOut 61 = .ok (.getfield 28, 3) := by decide +kernel
theorem d_En_putOut_64 : decode b_En_putOut 64 = .ok (.bipush 20, 2) := by decide +kernel
theorem d_En_putOut_66 : decode b_En_putOut 66 = .ok (.iushr, 1) := by decide +kernel
theorem d_En_putOut_67 : decode b_En_putOut 67 = .ok (.invokevirtual 95, 3) := by decide +kernel
theorem d_En_putOut_70 : decode b_En_putOut 70 = .ok (.aload_n 0, 1) := by decide +kernel
theorem d_En_putOut_71 : decode b_En_putOut 71 = .ok (.dup, 1) := by decide +kernel
theorem d_En_putOut_72 : decode b_En_putOut 72 = .ok (.getfield 28, 3) := by decide +kernel
theorem d_En_putOut_75 : decode b_En_putOut 75 = .ok (.ldc 98, 2) := by decide +kernel
theorem d_En_putOut_77 : decode b_En_putOut 77 = .ok (.iand, 1) := by decide +kernel
theorem d_En_putOut_78 : decode b_En_putOut 78 = .ok (.putfield 28, 3) := by decide +kernel
theorem d_En_putOut_81 : decode b_En_putOut 81 = .ok (.aload_n 0, 1) := by decide +kernel
theorem d_En_putOut_82 : decode b_En_putOut 82 = .ok (.bipush 7, 2) := by decide +kernel
theorem d_En_putOut_84 : decode b_En_putOut 84 = .ok (.putfield 31, 3) := by decide +kernel
theorem d_En_putOut_87 : decode b_En_putOut 87 = .ok (.goto 34, 3) := by decide +kernel
theorem d_En_putOut_90 : decode b_En_putOut 90 = .ok (.aload_n 0, 1) := by decide +kernel
theorem d_En_putOut_91 : decode b_En_putOut 91 = .ok (.getfield 9, 3) := by decide +kernel
theorem d_En_putOut_94 : decode b_En_putOut 94 = .ok (.aload_n 0, 1) := by decide +kernel
theorem d_En_putOut_95 : decode b_En_putOut 95 = .ok (.getfield 28, 3) := by decide +kernel
theorem d_En_putOut_98 : decode b_En_putOut 98 = .ok (.bipush 19, 2) := by decide +kernel
theorem d_En_putOut_100 : decode b_En_putOut 100 = .ok (.iushr, 1) := by decide +kernel
theorem d_En_putOut_101 : decode b_En_putOut 101 = .ok (.invokevirtual 95, 3) := by decide +kernel
theorem d_En_putOut_104 : decode b_En_putOut 104 = .ok (.aload_n 0, 1) := by decide +kernel
theorem d_En_putOut_105 : decode b_En_putOut 105 = .ok (.dup, 1) := by decide +kernel
theorem d_En_putOut_106 : decode b_En_putOut 106 = .ok (.getfield 28, 3) := by decide +kernel
theorem d_En_putOut_109 : decode b_En_putOut 109 = .ok (.ldc 99, 2) := by decide +kernel
theorem d_En_putOut_111 : decode b_En_putOut 111 = .ok (.iand, 1) := by decide +kernel
theorem d_En_putOut_112 : decode b_En_putOut 112 = .ok (.putfield 28, 3) := by decide +kernel
theorem d_En_putOut_115 : decode b_En_putOut 115 = .ok (.aload_n 0, 1) := by decide +kernel
theorem d_En_putOut_116 : decode b_En_putOut 116 = .ok (.bipush 8, 2) := by decide +kernel
theorem d_En_putOut_118 : decode b_En_putOut 118 = .ok (.putfield 31, 3) := by decide +kernel
theorem d_En_putOut_121 : decode b_En_putOut 121 = .ok (.return_, 1) := by decide +kernel
theorem d_En_flush_0 : decode b_En_flush 0 = .ok (.aload_n 0, 1) := by decide +kernel
theorem d_En_flush_1 : decode b_En_flush 1 = .ok (.getfield 28, 3) := by decide +kernel
theorem d_En_flush_4 : decode b_En_flush 4 = .ok (.aload_n 0, 1) := by decide +kernel
theorem d_En_flush_5 : decode b_En_flush 5 = .ok (.getfield 24, 3) := by decide +kernel
theorem d_En_flush_8 : decode b_En_flush 8 = .ok (.iadd, 1) := by decide +kernel
theorem d_En_flush_9 : decode b_En_flush 9 = .ok (.istore_n 1, 1) := by decide +kernel
theorem d_En_flush_10 : decode b_En_flush 10 = .ok (.aload_n 0, 1) := by decide +kernel
theorem d_En_flush_11 : decode b_En_flush 11 = .ok (.dup, 1) := by decide +kernel
theorem d_En_flush_12 : decode b_En_flush 12 = .ok (.getfield 28, 3) := by decide +kernel
theorem d_En_flush_15 : decode b_En_flush 15 = .ok (.ldc 100, 2) := by decide +kernel
theorem d_En_flush_17 : decode b_En_flush 17 = .ok (.ior, 1) := by decide +kernel
theorem d_En_flush_18 : decode b_En_flush 18 = .ok (.putfield 28, 3) := by decide +kernel
theorem d_En_flush_21 : decode b_En_flush 21 = .ok (.aload_n 0, 1) := by decide +kernel
theorem d_En_flush_22 : decode b_En_flush 22 = .ok (.getfield 28, 3) := by decide +kernel
theorem d_En_flush_25 : decode b_En_flush 25 = .ok (.iload_n 1, 1) := by decide +kernel
theorem d_En_flush_26 : decode b_En_flush 26 = .ok (.if_icmp .lt 14, 3) := by decide +kernel
theorem d_En_flush_29 : decode b_En_flush 29 = .ok (.aload_n 0, 1) := by decide +kernel
theorem d_En_flush_30 : decode b_En_flush 30 = .ok (.dup, 1) := by decide +kernel
theorem d_En_flush_31 : decode b_En_flush 31 = .ok (.getfield 28, 3) := by decide +kernel
theorem d_En_flush_34 : decode b_En_flush 34 = .ok (.ldc 23, 2) := by decide +kernel
theorem d_En_flush_36 : decode b_En_flush 36 = .ok (.isub, 1) := by decide +kernel
theorem d_En_flush_37 : decode b_En_flush 37 = .ok (.putfield 28, 3) := by decide +kernel
theorem d_En_flush_40 : decode b_En_flush 40 = .ok (.aload_n 0, 1) := by decide +kernel
theorem d_En_flush_41 : decode b_En_flush 41 = .ok (.dup, 1) := by decide +kernel
theorem d_En_flush_42 : decode b_En_flush 42 = .ok (.getfield 28, 3) := by decide +kernel
theorem d_En_flush_45 : decode b_En_flush 45 = .ok (.aload_n 0, 1) := by decide +kernel
theorem d_En_flush_46 : decode b_En_flush 46 = .ok (.getfield 31, 3) := by decide +kernel
theorem d_En_flush_49 : decode b_En_flush 49 = .ok (.ishl, 1) := by decide +kernel
theorem d_En_flush_50 : decode b_En_flush 50 = .ok (.putfield 28, 3) := by decide +kernel
theorem d_En_flush_53 : decode b_En_flush 53 = .ok (.aload_n 0, 1) := by decide +kernel
theorem d_En_flush_54 : decode b_En_flush 54 = .ok (.invokevirtual 83, 3) := by decide +kernel
theorem d_En_flush_57 : decode b_En_flush 57 = .ok (.aload_n 0, 1) := by decide +kernel
theorem d_En_flush_58 : decode b_En_flush 58 = .ok (.dup, 1) := by decide +kernel
theorem d_En_flush_59 : decode b_En_flush 59 = .ok (.getfield 28, 3) := by decide +kernel
theorem d_En_flush_62 : decode b_En_flush 62 = .ok (.aload_n 0, 1) := by decide +kernel
theorem d_En_flush_63 : decode b_En_flush 63 = .ok (.getfield 31, 3) := by decide +kernel
theorem d_En_flush_66 : decode b_En_flush 66 = .ok (.ishl, 1) := by decide +kernel
theorem d_En_flush_67 : decode b_En_flush 67 = .ok (.putfield 28, 3) := by decide +kernel
theorem d_En_flush_70 : decode b_En_flush 70 = .ok (.aload_n 0, 1) := by decide +kernel
theorem d_En_flush_71 : decode b_En_flush 71 = .ok (.invokevirtual 83, 3) := by decide +kernel
theorem d_En_flush_74 : decode b_En_flush 74 = .ok (.return_, 1) := by decide +kernel
theorem d_En_putPlain_0 : decode b_En_putPlain 0 = .ok (.aload_n 0, 1) := by decide +kernel
theorem d_En_putPlain_1 : decode b_En_putPlain 1 = .ok (.aload_n 0, 1) := by decide +kernel
theorem d_En_putPlain_2 : decode b_En_putPlain 2 = .ok (.getfield 34, 3) := by decide +kernel
theorem d_En_putPlain_5 : decode b_En_putPlain 5 = .ok (.iconst 1, 1) := by decide +kernel
theorem d_En_putPlain_6 : decode b_En_putPlain 6 = .ok (.ishl, 1) := by decide +kernel
theorem d_En_putPlain_7 : decode b_En_putPlain 7 = .ok (.iload_n 1, 1) := by decide +kernel
theorem d_En_putPlain_8 : decode b_En_putPlain 8 = .ok (.ior, 1) := by decide +kernel
theorem d_En_putPlain_9 : decode b_En_putPlain 9 = .ok (.putfield 34, 3) := by decide +kernel
theorem d_En_putPlain_12 : decode b_En_putPlain 12 = .ok (.aload_n 0, 1) := by decide +kernel
theorem d_En_putPlain_13 : decode b_En_putPlain 13 = .ok (.dup, 1) := by decide +kernel
theorem d_En_putPlain_14 : decode b_En_putPlain 14 = .ok (.getfield 37, 3) := by decide +kernel
theorem d_En_putPlain_17 : decode b_En_putPlain 17 = .ok (.iconst 1, 1) := by decide +kernel
theorem d_En_putPlain_18 : decode b_En_putPlain 18 = .ok (.iadd, 1) := by decide +kernel
theorem d_En_putPlain_19 : decode b_En_putPlain 19 = .ok (.putfield 37, 3) := by decide +kernel
theorem d_En_putPlain_22 : decode b_En_putPlain 22 = .ok (.aload_n 0, 1) := by decide +kernel
theorem d_En_putPlain_23 : decode b_En_putPlain 23 = .ok (.getfield 37, 3) := by decide +kernel
theorem d_En_putPlain_26 : decode b_En_putPlain 26 = .ok (.aload_n 0, 1) := by decide +kernel
theorem d_En_putPlain_27 : decode b_En_putPlain 27 = .ok (.getfield 40, 3) := by decide +kernel
theorem d_En_putPlain_30 : decode b_En_putPlain 30 = .ok (.if_icmp .lt 45, 3) := by decide +kernel
theorem d_En_putPlain_33 : decode b_En_putPlain 33 = .ok (.aload_n 0, 1) := by decide +kernel
theorem d_En_putPlain_34 : decode b_En_putPlain 34 = .ok (.getfield 9, 3) := by decide +kernel
theorem d_En_putPlain_37 : decode b_En_putPlain 37 = .ok (.aload_n 0, 1) := by decide +kernel
theorem d_En_putPlain_38 : decode b_En_putPlain 38 = .ok (.getfield 34, 3) := by decide +kernel
theorem d_En_putPlain_41 : decode b_En_putPlain 41 = .ok (.invokevirtual 95, 3) := by decide +kernel
theorem d_En_putPlain_44 : decode b_En_putPlain 44 = .ok (.aload_n 0, 1) := by decide +kernel
theorem d_En_putPlain_45 : decode b_En_putPlain 45 = .ok (.aload_n 0, 1) := by decide +kernel
theorem d_En_putPlain_46 : decode b_En_putPlain 46 = .ok (.getfield 34, 3) := by decide +kernel
theorem d_En_putPlain_49 : decode b_En_putPlain 49 = .ok (.sipush 255, 3) := by decide +kernel
theorem d_En_putPlain_52 : decode b_En_putPlain 52 = .ok (.if_icmp .ne 8, 3) := by decide +kernel
theorem d_En_putPlain_55 : decode b_En_putPlain 55 = .ok (.bipush 7, 2) := by decide +kernel
theorem d_En_putPlain_57 : decode b_En_putPlain 57 = .ok (.goto 5, 3) := by decide +kernel
theorem d_En_putPlain_60 : decode b_En_putPlain 60 = .ok (.bipush 8, 2) := by decide +kernel
theorem d_En_putPlain_62 : decode b_En_putPlain 62 = .ok (.putfield 40, 3) := by decide +kernel
theorem d_En_putPlain_65 : decode b_En_putPlain 65 = .ok (.aload_n 0, 1) := by decide +kernel
theorem d_En_putPlain_66 : decode b_En_putPlain 66 = .ok (.iconst 0, 1) := by decide +kernel
theorem d_En_putPlain_67 : decode b_En_putPlain 67 = .ok (.putfield 34, 3) := by decide +kernel
theorem d_En_putPlain_70 : decode b_En_putPlain 70 = .ok (.aload_n 0, 1) := by decide +kernel
theorem d_En_putPlain_71 : decode b_En_putPlain 71 = .ok (.iconst 0, 1) := by decide +kernel
theorem d_En_putPlain_72 : decode b_En_putPlain 72 = .ok (.putfield 37, 3) := by decide +kernel
theorem d_En_putPlain_75 : decode b_En_putPlain 75 = .ok (.return_, 1) := by decide +kernel
theorem d_En_fillByte_0 : decode b_En_fillByte 0 = .ok (.iconst 0, 1) := by decide +kernel
theorem d_En_fillByte_1 : decode b_En_fillByte 1 = .ok (.istore_n 1, 1) := by decide +kernel
theorem d_En_fillByte_2 : decode b_En_fillByte 2 = .ok (.iload_n 1, 1) := by decide +kernel
theorem d_En_fillByte_3 : decode b_En_fillByte 3 = .ok (.bipush 8, 2) := by decide +kernel
theorem d_En_fillByte_5 : decode b_En_fillByte 5 = .ok (.if_icmp .ge 23, 3) := by decide +kernel
theorem d_En_fillByte_8 : decode b_En_fillByte 8 = .ok (.aload_n 0, 1) := by decide +kernel
theorem d_En_fillByte_9 : decode b_En_fillByte 9 = .ok (.getfield 37, 3) := by decide +kernel
theorem d_En_fillByte_12 : decode b_En_fillByte 12 = .ok (.ifCond .le 16, 3) := by decide +kernel
theorem d_En_fillByte_15 : decode b_En_fillByte 15 = .ok (.aload_n 0, 1) := by decide +kernel
theorem d_En_fillByte_16 : decode b_En_fillByte 16 = .ok (.iload_n 1, 1) := by decide +kernel
theorem d_En_fillByte_17 : decode b_En_fillByte 17 = .ok (.iconst 1, 1) := by decide +kernel
theorem d_En_fillByte_18 : decode b_En_fillByte 18 = .ok (.iand, 1) := by decide +kernel
theorem d_En_fillByte_19 : decode b_En_fillByte 19 = .ok (.invokevirtual 51, 3) := by decide +kernel
theorem d_En_fillByte_22 : decode b_En_fillByte 22 = .ok (.iinc 1 1, 3) := by decide +kernel
theorem d_En_fillByte_25 : decode b_En_fillByte 25 = .ok (.goto (-23), 3) := by decide +kernel
theorem d_En_fillByte_28 : decode b_En_fillByte 28 = .ok (.return_, 1) := by decide +kernel
theorem d_De_init_0 : decode b_De_init 0 = .ok (.aload_n 0, 1) := by decide +kernel
theorem d_De_init_1 : decode b_De_init 1 = .ok (.invokespecial 3, 3) := by decide +kernel
theorem d_De_init_4 : decode b_De_init 4 = .ok (.aload_n 0, 1) := by decide +kernel
theorem d_De_init_5 : decode b_De_init 5 = .ok (.aload_n 1, 1) := by decide +kernel
theorem d_De_init_6 : decode b_De_init 6 = .ok (.putfield 9, 3) := by decide +kernel
theorem d_De_init_9 : decode b_De_init 9 = .ok (.aload_n 0, 1) := by decide +kernel
theorem d_De_init_10 : decode b_De_init 10 = .ok (.iconst 0, 1) := by decide +kernel
theorem d_De_init_11 : decode b_De_init 11 = .ok (.putfield 15, 3) := by decide +kernel
theorem d_De_init_14 : decode b_De_init 14 = .ok (.aload_n 0, 1) := by decide +kernel
theorem d_De_init_15 : decode b_De_init 15 = .ok (.iconst 0, 1) := by decide +kernel
theorem d_De_init_16 : decode b_De_init 16 = .ok (.putfield 19, 3) := by decide +kernel
theorem d_De_init_19 : decode b_De_init 19 = .ok (.aload_n 0, 1) := by decide +kernel
theorem d_De_init_20 : decode b_De_init 20 = .ok (.iconst 0, 1) := by decide +kernel
theorem d_De_init_21 : decode b_De_init 21 = .ok (.putfield 23, 3) := by decide +kernel
theorem d_De_init_24 : decode b_De_init 24 = .ok (.aload_n 0, 1) := by decide +kernel
theorem d_De_init_25 : decode b_De_init 25 = .ok (.iconst (-1), 1) := by decide +kernel
theorem d_De_init_26 : decode b_De_init 26 = .ok (.putfield 26, 3) := by decide +kernel
theorem d_De_init_29 : decode b_De_init 29 = .ok (.return_, 1) := by decide +kernel
theorem d_De_open_0 : decode b_De_open 0 = .ok (.aload_n 0, 1) := by decide +kernel
theorem d_De_open_1 : decode b_De_open 1 = .ok (.iload_n 1, 1) := by decide +kernel
theorem d_De_open_2 : decode b_De_open 2 = .ok (.putfield 15, 3) := by decide +kernel
theorem d_De_open_5 : decode b_De_open 5 = .ok (.aload_n 0, 1) := by decide +kernel
theorem d_De_open_6 : decode b_De_open 6 = .ok (.aload_n 0, 1) := by decide +kernel
theorem d_De_open_7 : decode b_De_open 7 = .ok (.getfield 9, 3) := by decide +kernel
theorem d_De_open_10 : decode b_De_open 10 = .ok (.iload_n 1, 1) := by decide +kernel
theorem d_De_open_11 : decode b_De_open 11 = .ok (.invokevirtual 29, 3) := by decide +kernel
theorem d_De_open_14 : decode b_De_open 14 = .ok (.putfield 19, 3) := by decide +kernel
theorem d_De_open_17 : decode b_De_open 17 = .ok (.aload_n 0, 1) := by decide +kernel
theorem d_De_open_18 : decode b_De_open 18 = .ok (.iconst 0, 1) := by decide +kernel
theorem d_De_open_19 : decode b_De_open 19 = .ok (.putfield 23, 3) := by decide +kernel
theorem d_De_open_22 : decode b_De_open 22 = .ok (.aload_n 0, 1) := by decide +kernel
theorem d_De_open_23 : decode b_De_open 23 = .ok (.iconst (-1), 1) := by decide +kernel
theorem d_De_open_24 : decode b_De_open 24 = .ok (.putfield 26, 3) := by decide +kernel
theorem d_De_open_27 : decode b_De_open 27 = .ok (.aload_n 0, 1) := by decide +kernel
theorem d_De_open_28 : decode b_De_open 28 = .ok (.iconst 0, 1) := by decide +kernel
theorem d_De_open_29 : decode b_De_open 29 = .ok (.putfield 35, 3) := by decide +kernel
theorem d_De_open_32 : decode b_De_open 32 = .ok (.return_, 1) := by decide +kernel
theorem d_De_goOn_0 : decode b_De_goOn 0 = .ok (.aload_n 0, 1) := by decide +kernel
theorem d_De_goOn_1 : decode b_De_goOn 1 = .ok (.getfield 15, 3) := by decide +kernel
theorem d_De_goOn_4 : decode b_De_goOn 4 = .ok (.iconst 1, 1) := by decide +kernel
theorem d_De_goOn_5 : decode b_De_goOn 5 = .ok (.iadd, 1) := by decide +kernel
theorem d_De_goOn_6 : decode b_De_goOn 6 = .ok (.istore_n 2, 1) := by decide +kernel
theorem d_De_goOn_7 : decode b_De_goOn 7 = .ok (.iload_n 2, 1) := by decide +kernel
theorem d_De_goOn_8 : decode b_De_goOn 8 = .ok (.aload_n 0, 1) := by decide +kernel
theorem d_De_goOn_9 : decode b_De_goOn 9 = .ok (.getfield 9, 3) := by decide +kernel
theorem d_De_goOn_12 : decode b_De_goOn 12 = .ok (.invokevirtual 38, 3) := by decide +kernel
theorem d_De_goOn_15 : decode b_De_goOn 15 = .ok (.if_icmp .ge 15, 3) := by decide +kernel
theorem d_De_goOn_18 : decode b_De_goOn 18 = .ok (.aload_n 0, 1) := by decide +kernel
theorem d_De_goOn_19 : decode b_De_goOn 19 = .ok (.getfield 9, 3) := by decide +kernel
theorem d_De_goOn_22 : decode b_De_goOn 22 = .ok (.iload_n 2, 1) := by decide +kernel
theorem d_De_goOn_23 : decode b_De_goOn 23 = .ok (.invokevirtual 29, 3) := by decide +kernel
theorem d_De_goOn_26 : decode b_De_goOn 26 = .ok (.iload_n 1, 1) := by decide +kernel
theorem d_De_goOn_27 : decode b_De_goOn 27 = .ok (.if_icmp .eq 5, 3) := by decide +kernel
theorem d_De_goOn_30 : decode b_De_goOn 30 = .ok (.iconst 0, 1) := by decide +kernel
theorem d_De_goOn_31 : decode b_De_goOn 31 = .ok (.ireturn, 1) := by decide +kernel
theorem d_De_goOn_32 : decode b_De_goOn 32 = .ok (.aload_n 0, 1) := by decide +kernel
theorem d_De_goOn_33 : decode b_De_goOn 33 = .ok (.iload_n 2, 1) := by decide +kernel
theorem d_De_goOn_34 : decode b_De_goOn 34 = .ok (.invokevirtual 42, 3) := by decide +kernel
theorem d_De_goOn_37 : decode b_De_goOn 37 = .ok (.iconst 1, 1) := by decide +kernel
theorem d_De_goOn_38 : decode b_De_goOn 38 = .ok (.ireturn, 1) := by decide +kernel
theorem d_De_isUntouched_0 : decode b_De_isUntouched 0 = .ok (.aload_n 0, 1) := by decide +kernel
theorem d_De_isUntouched_1 : decode b_De_isUntouched 1 = .ok (.getfield 15, 3) := by decide +kernel
theorem d_De_isUntouched_4 : decode b_De_isUntouched 4 = .ok (.ifCond .ne 14, 3) := by decide +kernel
theorem d_De_isUntouched_7 : decode b_De_isUntouched 7 = .ok (.aload_n 0, 1) := by decide +kernel
theorem d_De_isUntouched_8 : decode b_De_isUntouched 8 = .ok (.getfield 23, 3) := by decide +kernel
theorem d_De_isUntouched_11 : decode b_De_isUntouched 11 = .ok (.ifCond .ne 7, 3) := by decide +kernel
theorem d_De_isUntouched_14 : decode b_De_isUntouched 14 = .ok (.iconst 1, 1) := by decide +kernel
theorem d_De_isUntouched_15 : decode b_De_isUntouched 15 = .ok (.goto 4, 3) := by decide +kernel
theorem d_De_isUntouched_18 : decode b_De_isUntouched 18 = .ok (.iconst 0, 1) := by decide +kernel
theorem d_De_isUntouched_19 : decode b_De_isUntouched 19 = .ok (.ireturn, 1) := by decide +kernel
theorem d_De_takenBeyond_0 : decode b_De_takenBeyond 0 = .ok (.aload_n 0, 1) := by decide +kernel
theorem d_De_takenBeyond_1 : decode b_De_takenBeyond 1 = .ok (.getfield 23, 3) := by decide +kernel
theorem d_De_takenBeyond_4 : decode b_De_takenBeyond 4 = .ok (.ifCond .eq 19, 3) := by decide +kernel
theorem d_De_takenBeyond_7 : decode b_De_takenBeyond 7 = .ok (.iconst 0, 1) := by decide +kernel
theorem d_De_takenBeyond_8 : decode b_De_takenBeyond 8 = .ok (.aload_n 0, 1) := by decide +kernel
theorem d_De_takenBeyond_9 : decode b_De_takenBeyond 9 = .ok (.getfield 46, 3) := by decide +kernel
theorem d_De_takenBeyond_12 : decode b_De_takenBeyond 12 = .ok (.aload_n 0, 1) := by decide +kernel
theorem d_De_takenBeyond_13 : decode b_De_takenBeyond 13 = .ok (.getfield 49, 3) := by decide +kernel
theorem d_De_takenBeyond_16 : decode b_De_takenBeyond 16 = .ok (.isub, 1) := by decide +kernel
theorem d_De_takenBeyond_17 : decode b_De_takenBeyond 17 = .ok (.invokestatic 52, 3) := by decide +kernel
theorem d_De_takenBeyond_20 : decode b_De_takenBeyond 20 = .ok (.goto 4, 3) := by decide +kernel
theorem d_De_takenBeyond_23 : decode b_De_takenBeyond 23 = .ok (.iconst 0, 1) := by decide +kernel
theorem d_De_takenBeyond_24 : decode b_De_takenBeyond 24 = .ok (.ireturn, 1) := by decide +kernel
theorem d_De_read_0 : decode b_De_read 0 = .ok (.aload_n 0, 1) := by decide +kernel
theorem d_De_read_1 : decode b_De_read 1 = .ok (.getfield 23, 3) := by decide +kernel
theorem d_De_read_4 : decode b_De_read 4 = .ok (.ifCond .ne 7, 3) := by decide +kernel
theorem d_De_read_7 : decode b_De_read 7 = .ok (.aload_n 0, 1) := by decide +kernel
theorem d_De_read_8 : decode b_De_read 8 = .ok (.invokevirtual 58, 3) := by decide +kernel
theorem d_De_read_11 : decode b_De_read 11 = .ok (.aload_n 0, 1) := by decide +kernel
theorem d_De_read_12 : decode b_De_read 12 = .ok (.getfield 19, 3) := by decide +kernel
theorem d_De_read_15 : decode b_De_read 15 = .ok (.ifCond .eq 10, 3) := by decide +kernel
theorem d_De_read_18 : decode b_De_read 18 = .ok (.aload_n 0, 1) := by decide +kernel
theorem d_De_read_19 : decode b_De_read 19 = .ok (.invokevirtual 61, 3) := by decide +kernel
theorem d_De_read_22 : decode b_De_read 22 = .ok (.goto 9, 3) := by decide +kernel
theorem d_De_read_25 : decode b_De_read 25 = .ok (.aload_n 0, 1) := by decide +kernel
theorem d_De_read_26 : decode b_De_read 26 = .ok (.aload_n 1, 1) := by decide +kernel
theorem d_De_read_27 : decode b_De_read 27 = .ok (.iload_n 2, 1) := by decide +kernel
theorem d_De_read_28 : decode b_De_read 28 = .ok (.invokevirtual 64, 3) := by decide +kernel
theorem d_De_read_31 : decode b_De_read 31 = .ok (.ireturn, 1) := by decide +kernel
theorem d_De_start_0 : decode b_De_start 0 = .ok (.aload_n 0, 1) := by decide +kernel
theorem d_De_start_1 : decode b_De_start 1 = .ok (.iconst 1, 1) := by decide +kernel
theorem d_De_start_2 : decode b_De_start 2 = .ok (.putfield 23, 3) := by decide +kernel
theorem d_De_start_5 : decode b_De_start 5 = .ok (.aload_n 0, 1) := by decide +kernel
theorem d_De_start_6 : decode b_De_start 6 = .ok (.aload_n 0, 1) := by decide +kernel
theorem d_De_start_7 : decode b_De_start 7 = .ok (.getfield 9, 3) := by decide +kernel
theorem d_De_start_10 : decode b_De_start 10 = .ok (.aload_n 0, 1) := by decide +kernel
theorem d_De_start_11 : decode b_De_start 11 = .ok (.getfield 15, 3) := by decide +kernel
theorem d_De_start_14 : decode b_De_start 14 = .ok (.invokevirtual 68, 3) := by decide +kernel
theorem d_De_start_17 : decode b_De_start 17 = .ok (.putfield 46, 3) := by decide +kernel
theorem d_De_start_20 : decode b_De_start 20 = .ok (.aload_n 0, 1) := by decide +kernel
theorem d_De_start_21 : decode b_De_start 21 = .ok (.aload_n 0, 1) := by decide +kernel
theorem d_De_start_22 : decode b_De_start 22 = .ok (.getfield 9, 3) := by decide +kernel
theorem d_De_start_25 : decode b_De_start 25 = .ok (.aload_n 0, 1) := by decide +kernel
theorem d_De_start_26 : decode b_De_start 26 = .ok (.getfield 15, 3) := by decide +kernel
theorem d_De_start_29 : decode b_De_start 29 = .ok (.invokevirtual 72, 3) := by decide +kernel
theorem d_De_start_32 : decode b_De_start 32 = .ok (.putfield 49, 3) := by decide +kernel
theorem d_De_start_35 : decode b_De_start 35 = .ok (.aload_n 0, 1) := by decide +kernel
theorem d_De_start_36 : decode b_De_start 36 = .ok (.getfield 19, 3) := by decide +kernel
theorem d_De_start_39 : decode b_De_start 39 = .ok (.ifCond .eq 4, 3) := by decide +kernel
theorem d_De_start_42 : decode b_De_start 42 = .ok (.return_, 1) := by decide +kernel
theorem d_De_start_43 : decode b_De_start 43 = .ok (.aload_n 0, 1) := by decide +kernel
theorem d_De_start_44 : decode b_De_start 44 = .ok (.aload_n 0, 1) := by decide +kernel
theorem d_De_start_45 : decode b_De_start 45 = .ok (.getfield 9, 3) := by decide +kernel
theorem d_De_start_48 : decode b_De_start 48 = .ok (.aload_n 0, 1) := by decide +kernel
theorem d_De_start_49 : decode b_De_start 49 = .ok (.getfield 49, 3) := by decide +kernel
theorem d_De_start_52 : decode b_De_start 52 = .ok (.aload_n 0, 1) := by decide +kernel
theorem d_De_start_53 : decode b_De_start 53 = .ok (.getfield 46, 3) := by decide +kernel
theorem d_De_start_56 : decode b_De_start 56 = .ok (.invokevirtual 75, 3) := by decide +kernel
theorem d_De_start_59 : decode b_De_start 59 = .ok (.putfield 26, 3) := by decide +kernel
theorem d_De_start_62 : decode b_De_start 62 = .ok (.aload_n 0, 1) := by decide +kernel
theorem d_De_start_63 : decode b_De_start 63 = .ok (.dup, 1) := by decide +kernel
theorem d_De_start_64 : decode b_De_start 64 = .ok (.getfield 46, 3) := by decide +kernel
theorem d_De_start_67 : decode b_De_start 67 = .ok (.iconst 1, 1) := by decide +kernel
theorem d_De_start_68 : decode b_De_start 68 = .ok (.iadd, 1) := by decide +kernel
theorem d_De_start_69 : decode b_De_start 69 = .ok (.putfield 46, 3) := by decide +kernel
theorem d_De_start_72 : decode b_De_start 72 = .ok (.aload_n 0, 1) := by decide +kernel
theorem d_De_start_73 : decode b_De_start 73 = .ok (.aload_n 0, 1) := by decide +kernel
theorem d_De_start_74 : decode b_De_start 74 = .ok (.getfield 26, 3) := by decide +kernel
theorem d_De_start_77 : decode b_De_start 77 = .ok (.bipush 16, 2) := by decide +kernel
theorem d_De_start_79 : decode b_De_start 79 = .ok (.ishl, 1) := by decide +kernel
theorem d_De_start_80 : decode b_De_start 80 = .ok (.putfield 78, 3) := by decide +kernel
theorem d_De_start_83 : decode b_De_start 83 = .ok (.aload_n 0, 1) := by decide +kernel
theorem d_De_start_84 : decode b_De_start 84 = .ok (.invokevirtual 81, 3) := by decide +kernel
theorem d_De_start_87 : decode b_De_start 87 = .ok (.aload_n 0, 1) := by decide +kernel
theorem d_De_start_88 : decode b_De_start 88 = .ok (.dup, 1) := by decide +kernel
theorem d_De_start_89 : decode b_De_start 89 = .ok (.getfield 78, 3) := by decide +kernel
theorem d_De_start_92 : decode b_De_start 92 = .ok (.bipush 7, 2) := by decide +kernel
theorem d_De_start_94 : decode b_De_start 94 = .ok (.ishl, 1) := by decide +kernel
theorem d_De_start_95 : decode b_De_start 95 = .ok (.putfield 78, 3) := by decide +kernel
theorem d_De_start_98 : decode b_De_start 98 = .ok (.aload_n 0, 1) := by decide +kernel
theorem d_De_start_99 : decode b_De_start 99 = .ok (.dup, 1) := by decide +kernel
theorem d_De_start_100 : decode b_De_start 100 = .ok (.getfield 84, 3) := by decide +kernel
theorem d_De_start_103 : decode b_De_start 103 = .ok (.bipush 7, 2) := by decide +kernel
theorem d_De_start_105 : decode b_De_start 105 = .ok (.isub, 1) := by decide +kernel
theorem d_De_start_106 : decode b_De_start 106 = .ok (.putfield 84, 3) := by decide +kernel
theorem d_De_start_109 : decode b_De_start 109 = .ok (.aload_n 0, 1) := by decide +kernel
theorem d_De_start_110 : decode b_De_start 110 = .ok (.ldc 87, 2) := by decide +kernel
theorem d_De_start_112 : decode b_De_start 112 = .ok (.putfield 88, 3) := by decide +kernel
theorem d_De_start_115 : decode b_De_start 115 = .ok (.return_, 1) := by decide +kernel
theorem d_De_readCoded_0 : decode b_De_readCoded 0 = .ok (.iload_n 2, 1) := by decide +kernel
theorem d_De_readCoded_1 : decode b_De_readCoded 1 = .ok (.ifCond .lt 9, 3) := by decide +kernel
theorem d_De_readCoded_4 : decode b_De_readCoded 4 = .ok (.iload_n 2, 1) := by decide +kernel
theorem d_De_readCoded_5 : decode b_De_readCoded 5 = .ok (.aload_n 1, 1) := by decide +kernel
theorem d_De_readCoded_6 : decode b_De_readCoded 6 = .ok (.arraylength, 1) := by decide +kernel
theorem d_De_readCoded_7 : decode b_De_readCoded 7 = .ok (.if_icmp .lt 5, 3) := by decide +kernel
theorem d_De_readCoded_10 : decode b_De_readCoded 10 = .ok (.iconst 0, 1) := by decide +kernel
theorem d_De_readCoded_11 : decode b_De_readCoded 11 = .ok (.ireturn, 1) := by decide +kernel
theorem d_De_readCoded_12 : decode b_De_readCoded 12 = .ok (.aload_n 1, 1) := by decide +kernel
theorem d_De_readCoded_13 : decode b_De_readCoded 13 = .ok (.iload_n 2, 1) := by decide +kernel
theorem d_De_readCoded_14 : decode b_De_readCoded 14 = .ok (.iaload, 1) := by decide +kernel
theorem d_De_readCoded_15 : decode b_De_readCoded 15 = .ok (.istore_n 3, 1) := by decide +kernel
theorem d_De_readCoded_16 : decode b_De_readCoded 16 = .ok (.iload_n 3, 1) := by decide +kernel
theorem d_De_readCoded_17 : decode b_De_readCoded 17 = .ok (.invokestatic 91, 3) := by decide +kernel
theorem d_De_readCoded_20 : decode b_De_readCoded 20 = .ok (.istore 4, 2) := by decide +kernel
theorem d_De_readCoded_22 : decode b_De_readCoded 22 = .ok (.aload_n 0, 1) := by decide +kernel
theorem d_De_readCoded_23 : decode b_De_readCoded 23 = .ok (.dup, 1) := by decide +kernel
theorem d_De_readCoded_24 : decode b_De_readCoded 24 = .ok (.getfield 88, 3) := by decide +kernel
theorem d_De_readCoded_27 : decode b_De_readCoded 27 = .ok (.iload 4, 2) := by decide +kernel
theorem d_De_readCoded_29 : decode b_De_readCoded 29 = .ok (.isub, 1) := by decide +kernel
theorem d_De_readCoded_30 : decode b_De_readCoded 30 = .ok (.putfield 88, 3) := by decide +kernel
theorem d_De_readCoded_33 : decode b_De_readCoded 33 = .ok (.aload_n 0, 1) := by decide +kernel
theorem d_De_readCoded_34 : decode b_De_readCoded 34 = .ok (.getfield 78, 3) := by decide +kernel
theorem d_De_readCoded_37 : decode b_De_readCoded 37 = .ok (.bipush 16, 2) := by decide +kernel
theorem d_De_readCoded_39 : decode b_De_readCoded 39 = .ok (.iushr, 1) := by decide +kernel
theorem d_De_readCoded_40 : decode b_De_readCoded 40 = .ok (.iload 4, 2) := by decide +kernel
theorem d_De_readCoded_42 : decode b_De_readCoded 42 = .ok (.if_icmp .ge 28, 3) := by decide +kernel
theorem d_De_readCoded_45 : decode b_De_readCoded 45 = .ok (.aload_n 0, 1) := by decide +kernel
theorem d_De_readCoded_46 : decode b_De_readCoded 46 = .ok (.getfield 88, 3) := by decide +kernel
theorem d_De_readCoded_49 : decode b_De_readCoded 49 = .ok (.iload 4, 2) := by decide +kernel
theorem d_De_readCoded_51 : decode b_De_readCoded 51 = .ok (.if_icmp .ge 7, 3) := by decide +kernel
theorem d_De_readCoded_54 : decode b_De_readCoded 54 = .ok (.iconst 1, 1) := by decide +kernel
theorem d_De_readCoded_55 : decode b_De_readCoded 55 = .ok (.goto 4, 3) := by decide +kernel
theorem d_De_readCoded_58 : decode b_De_readCoded 58 = .ok (.iconst 0, 1) := by decide +kernel
theorem d_De_readCoded_59 : decode b_De_readCoded 59 = .ok (.istore 5, 2) := by decide +kernel
theorem d_De_readCoded_61 : decode b_De_readCoded 61 = .ok (.aload_n 0, 1) := by decide +kernel
theorem d_De_readCoded_62 : decode b_De_readCoded 62 = .ok (.iload 4, 2) := by decide +kernel
theorem d_De_readCoded_64 : decode b_De_readCoded 64 = .ok (.putfield 88, 3) := by decide +kernel
theorem d_De_readCoded_67 : decode b_De_readCoded 67 = .ok (.goto 46, 3) := by decide +kernel
theorem d_De_readCoded_70 : decode b_De_readCoded 70 = .ok (.aload_n 0, 1) := by decide +kernel
theorem d_De_readCoded_71 : decode b_De_readCoded 71 = .ok (.dup, 1) := by decide +kernel
theorem d_De_readCoded_72 : decode b_De_readCoded 72 = .ok (.getfield 78, 3) := by decide +kernel
theorem d_De_readCoded_75 : decode b_De_readCoded 75 = .ok (.iload 4, 2) := by decide +kernel
theorem d_De_readCoded_77 : decode b_De_readCoded 77 = .ok (.bipush 16, 2) := by decide +kernel
theorem d_De_readCoded_79 : decode b_De_readCoded 79 = .ok (.ishl, 1) := by decide +kernel
theorem d_De_readCoded_80 : decode b_De_readCoded 80 = .ok (.isub, 1) := by decide +kernel
theorem d_De_readCoded_81 : decode b_De_readCoded 81 = .ok (.putfield 78, 3) := by decide +kernel
theorem d_De_readCoded_84 : decode b_De_readCoded 84 = .ok (.aload_n 0, 1) := by decide +kernel
theorem d_De_readCoded_85 : decode b_De_readCoded 85 = .ok (.getfield 88, 3) := by decide +kernel
theorem d_De_readCoded_88 : decode b_De_readCoded 88 = .ok (.ldc 87, 2) := by decide +kernel
theorem d_De_readCoded_90 : decode b_De_readCoded 90 = .ok (.if_icmp .lt 7, 3) := by decide +kernel
theorem d_De_readCoded_93 : decode b_De_readCoded 93 = .ok (.iload_n 3, 1) := by decide +kernel
theorem d_De_readCoded_94 : decode b_De_readCoded 94 = .ok (.iconst 1, 1) := by decide +kernel
theorem d_De_readCoded_95 : decode b_De_readCoded 95 = .ok (.iand, 1) := by decide +kernel
theorem d_De_readCoded_96 : decode b_De_readCoded 96 = .ok (.ireturn, 1) := by decide +kernel
theorem d_De_readCoded_97 : decode b_De_readCoded 97 = .ok (.aload_n 0, 1) := by decide +kernel
theorem d_De_readCoded_98 : decode b_De_readCoded 98 = .ok (.getfield 88, 3) := by decide +kernel
theorem d_De_readCoded_101 : decode b_De_readCoded 101 = .ok (.iload 4, 2) := by decide +kernel
theorem d_De_readCoded_103 : decode b_De_readCoded 103 = .ok (.if_icmp .lt 7, 3) := by decide +kernel
theorem d_De_readCoded_106 : decode b_De_readCoded 106 = .ok (.iconst 1, 1) := by decide +kernel
theorem d_De_readCoded_107 : decode b_De_readCoded 107 = .ok (.goto 4, 3) := by decide +kernel
theorem d_De_readCoded_110 : decode b_De_readCoded 110 = .ok (.iconst 0, 1) := by decide +kernel
theorem d_De_readCoded_111 : decode b_De_readCoded 111 = .ok (.istore 5, 2) := by decide +kernel
theorem d_De_readCoded_113 : decode b_De_readCoded 113 = .ok (.aload_n 1, 1) := by decide +kernel
theorem d_De_readCoded_114 : decode b_De_readCoded 114 = .ok (.iload_n 2, 1) := by decide +kernel
theorem d_De_readCoded_115 : decode b_De_readCoded 115 = .ok (.iload 5, 2) := by decide +kernel
theorem d_De_readCoded_117 : decode b_De_readCoded 117 = .ok (.ifCond .eq 10, 3) := by decide +kernel
theorem d_De_readCoded_120 : decode b_De_readCoded 120 = .ok (.iload_n 3, 1) := by decide +kernel
theorem d_De_readCoded_121 : decode b_De_readCoded 121 = .ok (.invokestatic 96, 3) := by decide +kernel
theorem d_De_readCoded_124 : decode b_De_readCoded 124 = .ok (.goto 7, 3) := by decide +kernel
theorem d_De_readCoded_127 : decode b_De_readCoded 127 = .ok (.iload_n 3, 1) := by decide +kernel
theorem d_De_readCoded_128 : decode b_De_readCoded 128 = .ok (.invokestatic 99, 3) := by decide +kernel
theorem d_De_readCoded_131 : decode b_De_readCoded 131 = .ok (.iastore, 1) := by decide +kernel
theorem d_De_readCoded_132 : decode b_De_readCoded 132 = .ok (.aload_n 0, 1) := by decide +kernel
theorem d_De_readCoded_133 : decode b_De_readCoded 133 = .ok (.invokevirtual 102, 3) := by decide +kernel
theorem d_De_readCoded_136 : decode b_De_readCoded 136 = .ok (.iload 5, 2) := by decide +kernel
theorem d_De_readCoded_138 : decode b_De_readCoded 138 = .ok (.ifCond .eq 9, 3) := by decide +kernel
theorem d_De_readCoded_141 : decode b_De_readCoded 141 = .ok (.iload_n 3, 1) := by decide +kernel
theorem d_De_readCoded_142 : decode b_De_readCoded 142 = .ok (.iconst 1, 1) := by decide +kernel
theorem d_De_readCoded_143 : decode b_De_readCoded 143 = .ok (.iand, 1) := by decide +kernel
theorem d_De_readCoded_144 : decode b_De_readCoded 144 = .ok (.goto 8, 3) := by decide +kernel
theorem d_De_readCoded_147 : decode b_De_readCoded 147 = .ok (.iconst 1, 1) := by decide +kernel
theorem d_De_readCoded_148 : decode b_De_readCoded 148 = .ok (.iload_n 3, 1) := by decide +kernel
theorem d_De_readCoded_149 : decode b_De_readCoded 149 = .ok (.iconst 1, 1) := by decide +kernel
theorem d_De_readCoded_150 : decode b_De_readCoded 150 = .ok (.iand, 1) := by decide +kernel
theorem d_De_readCoded_151 : decode b_De_readCoded 151 = .ok (.isub, 1) := by decide +kernel
theorem d_De_readCoded_152 : decode b_De_readCoded 152 = .ok (.ireturn, 1) := by decide +kernel
theorem d_De_renew_0 : decode b_De_renew 0 = .ok (.iconst 0, 1) := by decide +kernel
theorem d_De_renew_1 : decode b_De_renew 1 = .ok (.istore_n 1, 1) := by decide +kernel
theorem d_De_renew_2 : decode b_De_renew 2 = .ok (.iload_n 1, 1) := by decide +kernel
theorem d_De_renew_3 : decode b_De_renew 3 = .ok (.bipush 16, 2) := by decide +kernel
theorem d_De_renew_5 : decode b_De_renew 5 = .ok (.if_icmp .ge 59, 3) := by decide +kernel
theorem d_De_renew_8 : decode b_De_renew 8 = .ok (.aload_n 0, 1) := by decide +kernel
theorem d_De_renew_9 : decode b_De_renew 9 = .ok (.getfield 88, 3) := by decide +kernel
theorem d_De_renew_12 : decode b_De_renew 12 = .ok (.ldc 87, 2) := by decide +kernel
theorem d_De_renew_14 : decode b_De_renew 14 = .ok (.if_icmp .ge 50, 3) := by decide +kernel
theorem d_De_renew_17 : decode b_De_renew 17 = .ok (.aload_n 0, 1) := by decide +kernel
theorem d_De_renew_18 : decode b_De_renew 18 = .ok (.getfield 84, 3) := by decide +kernel
theorem d_De_renew_21 : decode b_De_renew 21 = .ok (.ifCond .ne 7, 3) := by decide +kernel
theorem d_De_renew_24 : decode b_De_renew 24 = .ok (.aload_n 0, 1) := by decide +kernel
theorem d_De_renew_25 : decode b_De_renew 25 = .ok (.invokevirtual 81, 3) := by decide +kernel
theorem d_De_renew_28 : decode b_De_renew 28 = .ok (.aload_n 0, 1) := by decide +kernel
theorem d_De_renew_29 : decode b_De_renew 29 = .ok (.dup, 1) := by decide +kernel
theorem d_De_renew_30 : decode b_De_renew 30 = .ok (.getfield 88, 3) := by decide +kernel
theorem d_De_renew_33 : decode b_De_renew 33 = .ok (.iconst 1, 1) := by decide +kernel
theorem d_De_renew_34 : decode b_De_renew 34 = .ok (.ishl, 1) := by decide +kernel
theorem d_De_renew_35 : decode b_De_renew 35 = .ok (.putfield 88, 3) := by decide +kernel
theorem d_De_renew_38 : decode b_De_renew 38 = .ok (.aload_n 0, 1) := by decide +kernel
theorem d_De_renew_39 : decode b_De_renew 39 = .ok (.dup, 1) := by decide +kernel
theorem d_De_renew_40 : decode b_De_renew 40 = .ok (.getfield 78, 3) := by decide +kernel
theorem d_De_renew_43 : decode b_De_renew 43 = .ok (.iconst 1, 1) := by decide +kernel
theorem d_De_renew_44 : decode b_De_renew 44 = .ok (.ishl, 1) := by decide +kernel
theorem d_De_renew_45 : decode b_De_renew 45 = .ok (.putfield 78, 3) := by decide +kernel
theorem d_De_renew_48 : decode b_De_renew 48 = .ok (.aload_n 0, 1) := by decide +kernel
theorem d_De_renew_49 : decode b_De_renew 49 = .ok (.dup, 1) := by decide +kernel
theorem d_De_renew_50 : decode b_De_renew 50 = .ok (.getfield 84, 3) := by decide +kernel
theorem d_De_renew_53 : decode b_De_renew 53 = .ok (.iconst 1, 1) := by decide +kernel
theorem d_De_renew_54 : decode b_De_renew 54 = .ok (.isub, 1) := by decide +kernel
theorem d_De_renew_55 : decode b_De_renew 55 = .ok (.putfield 84, 3) := by decide +kernel
theorem d_De_renew_58 : decode b_De_renew 58 = .ok (.iinc 1 1, 3) := by decide +kernel
theorem d_De_renew_61 : decode b_De_renew 61 = .ok (.goto (-59), 3) := by decide +kernel
theorem d_De_renew_64 : decode b_De_renew 64 = .ok (.return_, 1) := by decide +kernel
theorem d_De_take_0 : decode b_De_take 0 = .ok (.aload_n 0, 1) := by decide +kernel
theorem d_De_take_1 : decode b_De_take 1 = .ok (.getfield 9, 3) := by decide +kernel
theorem d_De_take_4 : decode b_De_take 4 = .ok (.aload_n 0, 1) := by decide +kernel
theorem d_De_take_5 : decode b_De_take 5 = .ok (.getfield 49, 3) := by decide +kernel
theorem d_De_take_8 : decode b_De_take 8 = .ok (.aload_n 0, 1) := by decide +kernel
theorem d_De_take_9 : decode b_De_take 9 = .ok (.getfield 46, 3) := by decide +kernel
theorem d_De_take_12 : decode b_De_take 12 = .ok (.invokevirtual 75, 3) := by decide +kernel
theorem d_De_take_15 : decode b_De_take 15 = .ok (.istore_n 1, 1) := by decide +kernel
theorem d_De_take_16 : decode b_De_take 16 = .ok (.aload_n 0, 1) := by decide +kernel
theorem d_De_take_17 : decode b_De_take 17 = .ok (.getfield 26, 3) := by decide +kernel
theorem d_De_take_20 : decode b_De_take 20 = .ok (.sipush 255, 3) := by decide +kernel
theorem d_De_take_23 : decode b_De_take 23 = .ok (.if_icmp .ne 7, 3) := by decide +kernel
theorem d_De_take_26 : decode b_De_take 26 = .ok (.iconst 1, 1) := by decide +kernel
theorem d_De_take_27 : decode b_De_take 27 = .ok (.goto 4, 3) := by decide +kernel
theorem d_De_take_30 : decode b_De_take 30 = .ok (.iconst 0, 1) := by decide +kernel
theorem d_De_take_31 : decode b_De_take 31 = .ok (.istore_n 2, 1) := by decide +kernel
theorem d_De_take_32 : decode b_De_take 32 = .ok (.iload_n 2, 1) := by decide +kernel
theorem d_De_take_33 : decode b_De_take 33 = .ok (.ifCond .eq 28, 3) := by decide +kernel
theorem d_De_take_36 : decode b_De_take 36 = .ok (.iload_n 1, 1) := by decide +kernel
theorem d_De_take_37 : decode b_De_take 37 = .ok (.sipush 143, 3) := by decide +kernel
theorem d_De_take_40 : decode b_De_take 40 = .ok (.if_icmp .le 21, 3) := by decide +kernel
theorem d_De_take_43 : decode b_De_take 43 = .ok (.aload_n 0, 1) := by decide +kernel
theorem d_De_take_44 : decode b_De_take 44 = .ok (.dup, 1) := by decide +kernel
theorem d_De_take_45 : decode b_De_take 45 = .ok (.getfield 78, 3) := by decide +kernel
theorem d_De_take_48 : decode b_De_take 48 = .ok (.ldc 105, 2) := by decide +kernel
theorem d_De_take_50 : decode b_De_take 50 = .ok (.iadd, 1) := by decide +kernel
theorem d_De_take_51 : decode b_De_take 51 = .ok (.putfield 78, 3) := by decide +kernel
theorem d_De_take_54 : decode b_De_take 54 = .ok (.aload_n 0, 1) := by decide +kernel
theorem d_De_take_55 : decode b_De_take 55 = .ok (.bipush 8, 2) := by decide +kernel
theorem d_De_take_57 : decode b_De_take 57 = .ok (.putfield 84, 3) := by decide +kernel
theorem d_De_take_60 : decode b_De_take 60 = .ok (.return_, 1) := by decide +kernel
theorem d_De_take_61 : decode b_De_take 61 = .ok (.aload_n 0, 1) := by decide +kernel
theorem d_De_take_62 : decode b_De_take 62 = .ok (.dup, 1) := by decide +kernel
theorem d_De_take_63 : decode b_De_take 63 = .ok (.getfield 78, 3) := by decide +kernel
theorem d_De_take_66 : decode b_De_take 66 = .ok (.iload_n 1, 1) := by decide +kernel
theorem d_De_take_67 : decode b_De_take 67 = .ok (.iload_n 2, 1) := by decide +kernel
theorem d_De_take_68 : decode b_De_take 68 = .ok (.ifCond .eq 8, 3) := by decide +kernel
theorem d_De_take_71 : decode b_De_take 71 = .ok (.bipush 9, 2) := by decide +kernel
theorem d_De_take_73 : decode b_De_take 73 = .ok (.goto 5, 3) := by decide +kernel
theorem d_De_take_76 : decode b_De_take 76 = .ok (.bipush 8, 2) := by decide +kernel
theorem d_De_take_78 : decode b_De_take 78 = .ok (.ishl, 1) := by decide +kernel
theorem d_De_take_79 : decode b_De_take 79 = .ok (.iadd, 1) := by decide +kernel
theorem d_De_take_80 : decode b_De_take 80 = .ok (.putfield 78, 3) := by decide +kernel
theorem d_De_take_83 : decode b_De_take 83 = .ok (.aload_n 0, 1) := by decide +kernel
theorem d_De_take_84 : decode b_De_take 84 = .ok (.iload_n 2, 1) := by decide +kernel
theorem d_De_take_85 : decode b_De_take 85 = .ok (.ifCond .eq 8, 3) := by decide +kernel
theorem d_De_take_88 : decode b_De_take 88 = .ok (.bipush 7, 2) := by decide +kernel
theorem d_De_take_90 : decode b_De_take 90 = .ok (.goto 5, 3) := by decide +kernel
theorem d_De_take_93 : decode b_De_take 93 = .ok (.bipush 8, 2) := by decide +kernel
theorem d_De_take_95 : decode b_De_take 95 = .ok (.putfield 84, 3) := by decide +kernel
theorem d_De_take_98 : decode b_De_take 98 = .ok (.aload_n 0, 1) := by decide +kernel
theorem d_De_take_99 : decode b_De_take 99 = .ok (.iload_n 1, 1) := by decide +kernel
theorem d_De_take_100 : decode b_De_take 100 = .ok (.putfield 26, 3) := by decide +kernel
theorem d_De_take_103 : decode b_De_take 103 = .ok (.aload_n 0, 1) := by decide +kernel
theorem d_De_take_104 : decode b_De_take 104 = .ok (.dup, 1) := by decide +kernel
theorem d_De_take_105 : decode b_De_take 105 = .ok (.getfield 46, 3) := by decide +kernel
theorem d_De_take_108 : decode b_De_take 108 = .ok (.iconst 1, 1) := by decide +kernel
theorem d_De_take_109 : decode b_De_take 109 = .ok (.iadd, 1) := by decide +kernel
theorem d_De_take_110 : decode b_De_take 110 = .ok (.putfield 46, 3) := by decide +kernel
theorem d_De_take_113 : decode b_De_take 113 = .ok (.return_, 1) := by decide +kernel
theorem d_De_readPlain_0 : decode b_De_readPlain 0 = .ok (.aload_n 0, 1) := by decide +kernel
theorem d_De_readPlain_1 : decode b_De_readPlain 1 = .ok (.getfield 35, 3) := by decide +kernel
theorem d_De_readPlain_4 : decode b_De_readPlain 4 = .ok (.ifCond .gt 53, 3) := by decide +kernel
theorem d_De_readPlain_7 : decode b_De_readPlain 7 = .ok (.aload_n 0, 1) := by decide +kernel
theorem d_De_readPlain_8 : decode b_De_readPlain 8 = .ok (.aload_n 0, 1) := by decide +kernel
theorem d_De_readPlain_9 : decode b_De_readPlain 9 = .ok (.getfield 26, 3) := by decide +kernel
theorem d_De_readPlain_12 : decode b_De_readPlain 12 = .ok (.sipush 255, 3) := by decide +kernel
theorem d_De_readPlain_15 : decode b_De_readPlain 15 = .ok (.if_icmp .ne 8, 3) := by decide +kernel
theorem d_De_readPlain_18 : decode b_De_readPlain 18 = .ok (.bipush 7, 2) := by decide +kernel
theorem d_De_readPlain_20 : decode b_De_readPlain 20 = .ok (.goto 5, 3) := by decide +kernel
theorem d_De_readPlain_23 : decode b_De_readPlain 23 = .ok (.bipush 8, 2) := by decide +kernel
theorem d_De_readPlain_25 : decode b_De_readPlain 25 = .ok (.putfield 35, 3) := by decide +kernel
theorem d_De_readPlain_28 : decode b_De_readPlain 28 = .ok (.aload_n 0, 1) := by decide +kernel
theorem d_De_readPlain_29 : decode b_De_readPlain 29 = .ok (.aload_n 0, 1) := by decide +kernel
theorem d_De_readPlain_30 : decode b_De_readPlain 30 = .ok (.getfield 9, 3) := by decide +kernel
theorem d_De_readPlain_33 : decode b_De_readPlain 33 = .ok (.aload_n 0, 1) := by decide +kernel
theorem d_De_readPlain_34 : decode b_De_readPlain 34 = .ok (.getfield 49, 3) := by decide +kernel
theorem d_De_readPlain_37 : decode b_De_readPlain 37 = .ok (.aload_n 0, 1) := by decide +kernel
theorem d_De_readPlain_38 : decode b_De_readPlain 38 = .ok (.getfield 46, 3) := by decide +kernel
theorem d_De_readPlain_41 : decode b_De_readPlain 41 = .ok (.invokevirtual 75, 3) := by decide +kernel
theorem d_De_readPlain_44 : decode b_De_readPlain 44 = .ok (.putfield 26, 3) := by decide +kernel
theorem d_De_readPlain_47 : decode b_De_readPlain 47 = .ok (.aload_n 0, 1) := by decide +kernel
theorem d_De_readPlain_48 : decode b_De_readPlain 48 = .ok (.dup, 1) := by decide +kernel
theorem d_De_readPlain_49 : decode b_De_readPlain 49 = .ok (.getfield 46, 3) := by decide +kernel
theorem d_De_readPlain_52 : decode b_De_readPlain 52 = .ok (.iconst 1, 1) := by decide +kernel
theorem d_De_readPlain_53 : decode b_De_readPlain 53 = .ok (.iadd, 1) := by decide +kernel
theorem d_De_readPlain_54 : decode b_De_readPlain 54 = .ok (.putfield 46, 3) := by decide +kernel
theorem d_De_readPlain_57 : decode b_De_readPlain 57 = .ok (.aload_n 0, 1) := by decide +kernel
theorem d_De_readPlain_58 : decode b_De_readPlain 58 = .ok (.dup, 1) := by decide +kernel
theorem d_De_readPlain_59 : decode b_De_readPlain 59 = .ok (.getfield 35, 3) := by decide +kernel
theorem d_De_readPlain_62 : decode b_De_readPlain 62 = .ok (.iconst 1, 1) := by decide +kernel
theorem d_De_readPlain_63 : decode b_De_readPlain 63 = .ok (.isub, 1) := by decide +kernel
theorem d_De_readPlain_64 : decode b_De_readPlain 64 = .ok (.putfield 35, 3) := by decide +kernel
theorem d_De_readPlain_67 : decode b_De_readPlain 67 = .ok (.aload_n 0, 1) := by decide +kernel
theorem d_De_readPlain_68 : decode b_De_readPlain 68 = .ok (.getfield 26, 3) := by decide +kernel
theorem d_De_readPlain_71 : decode b_De_readPlain 71 = .ok (.aload_n 0, 1) := by decide +kernel
theorem d_De_readPlain_72 : decode b_De_readPlain 72 = .ok (.getfield 35, 3) := by decide +kernel
theorem d_De_readPlain_75 : decode b_De_readPlain 75 = .ok (.iushr, 1) := by decide +kernel
theorem d_De_readPlain_76 : decode b_De_readPlain 76 = .ok (.iconst 1, 1) := by decide +kernel
theorem d_De_readPlain_77 : decode b_De_readPlain 77 = .ok (.iand, 1) := by decide +kernel
theorem d_De_readPlain_78 : decode b_De_readPlain 78 = .ok (.ireturn, 1) := by decide +kernel
theorem d_X_init_0 : decode b_X_init 0 = .ok (.aload_n 0, 1) := by decide +kernel
theorem d_X_init_1 : decode b_X_init 1 = .ok (.invokespecial 1, 3) := by decide +kernel
theorem d_X_init_4 : decode b_X_init 4 = .ok (.aload_n 0, 1) := by decide +kernel
theorem d_X_init_5 : decode b_X_init 5 = .ok (.iconst 1, 1) := by decide +kernel
theorem d_X_init_6 : decode b_X_init 6 = .ok (.ldc 9, 2) := by decide +kernel
theorem d_X_init_8 : decode b_X_init 8 = .ok (.iload_n 1, 1) := by decide +kernel
theorem d_X_init_9 : decode b_X_init 9 = .ok (.invokestatic 10, 3) := by decide +kernel
theorem d_X_init_12 : decode b_X_init 12 = .ok (.invokestatic 16, 3) := by decide +kernel
theorem d_X_init_15 : decode b_X_init 15 = .ok (.putfield 19, 3) := by decide +kernel
theorem d_X_init_18 : decode b_X_init 18 = .ok (.aload_n 0, 1) := by decide +kernel
theorem d_X_init_19 : decode b_X_init 19 = .ok (.new 23, 3) := by decide +kernel
theorem d_X_init_22 : decode b_X_init 22 = .ok (.dup, 1) := by decide +kernel
theorem d_X_init_23 : decode b_X_init 23 = .ok (.aload_n 0, 1) := by decide +kernel
theorem d_X_init_24 : decode b_X_init 24 = .ok (.getfield 19, 3) := by decide +kernel
theorem d_X_init_27 : decode b_X_init 27 = .ok (.invokespecial 25, 3) := by decide +kernel
theorem d_X_init_30 : decode b_X_init 30 = .ok (.putfield 28, 3) := by decide +kernel
theorem d_X_init_33 : decode b_X_init 33 = .ok (.aload_n 0, 1) := by decide +kernel
theorem d_X_init_34 : decode b_X_init 34 = .ok (.new 23, 3) := by decide +kernel
theorem d_X_init_37 : decode b_X_init 37 = .ok (.dup, 1) := by decide +kernel
theorem d_X_init_38 : decode b_X_init 38 = .ok (.aload_n 0, 1) := by decide +kernel
theorem d_X_init_39 : decode b_X_init 39 = .ok (.getfield 19, 3) := by decide +kernel
theorem d_X_init_42 : decode b_X_init 42 = .ok (.invokespecial 25, 3) := by decide +kernel
theorem d_X_init_45 : decode b_X_init 45 = .ok (.putfield 32, 3) := by decide +kernel
theorem d_X_init_48 : decode b_X_init 48 = .ok (.aload_n 0, 1) := by decide +kernel
theorem d_X_init_49 : decode b_X_init 49 = .ok (.new 35, 3) := by decide +kernel
theorem d_X_init_52 : decode b_X_init 52 = .ok (.dup, 1) := by decide +kernel
theorem d_X_init_53 : decode b_X_init 53 = .ok (.invokespecial 37, 3) := by decide +kernel
theorem d_X_init_56 : decode b_X_init 56 = .ok (.putfield 38, 3) := by decide +kernel
theorem d_X_init_59 : decode b_X_init 59 = .ok (.aload_n 0, 1) := by decide +kernel
theorem d_X_init_60 : decode b_X_init 60 = .ok (.new 42, 3) := by decide +kernel
theorem d_X_init_63 : decode b_X_init 63 = .ok (.dup, 1) := by decide +kernel
theorem d_X_init_64 : decode b_X_init 64 = .ok (.aload_n 0, 1) := by decide +kernel
theorem d_X_init_65 : decode b_X_init 65 = .ok (.getfield 38, 3) := by decide +kernel
theorem d_X_init_68 : decode b_X_init 68 = .ok (.invokespecial 44, 3) := by decide +kernel
theorem d_X_init_71 : decode b_X_init 71 = .ok (.putfield 47, 3) := by decide +kernel
theorem d_X_init_74 : decode b_X_init 74 = .ok (.aload_n 0, 1) := by decide +kernel
theorem d_X_init_75 : decode b_X_init 75 = .ok (.new 51, 3) := by decide +kernel
theorem d_X_init_78 : decode b_X_init 78 = .ok (.dup, 1) := by decide +kernel
theorem d_X_init_79 : decode b_X_init 79 = .ok (.aload_n 0, 1) := by decide +kernel
theorem d_X_init_80 : decode b_X_init 80 = .ok (.getfield 38, 3) := by decide +kernel
theorem d_X_init_83 : decode b_X_init 83 = .ok (.invokespecial 53, 3) := by decide +kernel
theorem d_X_init_86 : decode b_X_init 86 = .ok (.putfield 54, 3) := by decide +kernel
theorem d_X_init_89 : decode b_X_init 89 = .ok (.aload_n 0, 1) := by decide +kernel
theorem d_X_init_90 : decode b_X_init 90 = .ok (.bipush 6, 2) := by decide +kernel
theorem d_X_init_92 : decode b_X_init 92 = .ok (.aload_n 0, 1) := by decide +kernel
theorem d_X_init_93 : decode b_X_init 93 = .ok (.getfield 19, 3) := by decide +kernel
theorem d_X_init_96 : decode b_X_init 96 = .ok (.imul, 1) := by decide +kernel
theorem d_X_init_97 : decode b_X_init 97 = .ok (.newarray .int, 2) := by decide +kernel
theorem d_X_init_99 : decode b_X_init 99 = .ok (.putfield 58, 3) := by decide +kernel
theorem d_X_init_102 : decode b_X_init 102 = .ok (.aload_n 0, 1) := by decide +kernel
theorem d_X_init_103 : decode b_X_init 103 = .ok (.iconst 0, 1) := by decide +kernel
theorem d_X_init_104 : decode b_X_init 104 = .ok (.putfield 62, 3) := by decide +kernel
theorem d_X_init_107 : decode b_X_init 107 = .ok (.aload_n 0, 1) := by decide +kernel
theorem d_X_init_108 : decode b_X_init 108 = .ok (.iconst 0, 1) := by decide +kernel
theorem d_X_init_109 : decode b_X_init 109 = .ok (.putfield 65, 3) := by decide +kernel
theorem d_X_init_112 : decode b_X_init 112 = .ok (.aload_n 0, 1) := by decide +kernel
theorem d_X_init_113 : decode b_X_init 113 = .ok (.iconst 1, 1) := by decide +kernel
theorem d_X_init_114 : decode b_X_init 114 = .ok (.putfield 69, 3) := by decide +kernel
theorem d_X_init_117 : decode b_X_init 117 = .ok (.return_, 1) := by decide +kernel
theorem d_X_encode_0 : decode b_X_encode 0 = .ok (.aload_n 0, 1) := by decide +kernel
theorem d_X_encode_1 : decode b_X_encode 1 = .ok (.iload_n 1, 1) := by decide +kernel
theorem d_X_encode_2 : decode b_X_encode 2 = .ok (.invokevirtual 72, 3) := by decide +kernel
theorem d_X_encode_5 : decode b_X_encode 5 = .ok (.aload_n 0, 1) := by decide +kernel
theorem d_X_encode_6 : decode b_X_encode 6 = .ok (.invokevirtual 75, 3) := by decide +kernel
theorem d_X_encode_9 : decode b_X_encode 9 = .ok (.iload_n 2, 1) := by decide +kernel
theorem d_X_encode_10 : decode b_X_encode 10 = .ok (.ifCond .eq 18, 3) := by decide +kernel
theorem d_X_encode_13 : decode b_X_encode 13 = .ok (.iload_n 2, 1) := by decide +kernel
theorem d_X_encode_14 : decode b_X_encode 14 = .ok (.iconst 1, 1) := by decide +kernel
theorem d_X_encode_15 : decode b_X_encode 15 = .ok (.if_icmp .eq 13, 3) := by decide +kernel
theorem d_X_encode_18 : decode b_X_encode 18 = .ok (.new 78, 3) := by decide +kernel
theorem d_X_encode_21 : decode b_X_encode 21 = .ok (.dup, 1) := by decide +kernel
theorem d_X_encode_22 : decode b_X_encode 22 = .ok (.ldc 80, 2) := by decide +kernel
theorem d_X_encode_24 : decode b_X_encode 24 = .ok (.invokespecial 82, 3) := by decide +kernel
theorem d_X_encode_27 : decode b_X_encode 27 = .ok (.athrow, 1) := by decide +kernel
theorem d_X_encode_28 : decode b_X_encode 28 = .ok (.aload_n 0, 1) := by decide +kernel
theorem d_X_encode_29 : decode b_X_encode 29 = .ok (.getfield 47, 3) := by decide +kernel
theorem d_X_encode_32 : decode b_X_encode 32 = .ok (.aload_n 0, 1) := by decide +kernel
theorem d_X_encode_33 : decode b_X_encode 33 = .ok (.getfield 28, 3) := by decide +kernel
theorem d_X_encode_36 : decode b_X_encode 36 = .ok (.getfield 85, 3) := by decide +kernel
theorem d_X_encode_39 : decode b_X_encode 39 = .ok (.iload_n 1, 1) := by decide +kernel
theorem d_X_encode_40 : decode b_X_encode 40 = .ok (.iload_n 2, 1) := by decide +kernel
theorem d_X_encode_41 : decode b_X_encode 41 = .ok (.invokevirtual 88, 3) := by decide +kernel
theorem d_X_encode_44 : decode b_X_encode 44 = .ok (.aload_n 0, 1) := by decide +kernel
theorem d_X_encode_45 : decode b_X_encode 45 = .ok (.getfield 38, 3) := by decide +kernel
theorem d_X_encode_48 : decode b_X_encode 48 = .ok (.invokevirtual 92, 3) := by decide +kernel
theorem d_X_encode_51 : decode b_X_encode 51 = .ok (.ireturn, 1) := by decide +kernel
theorem d_X_finish_0 : decode b_X_finish 0 = .ok (.aload_n 0, 1) := by decide +kernel
theorem d_X_finish_1 : decode b_X_finish 1 = .ok (.invokevirtual 75, 3) := by decide +kernel
theorem d_X_finish_4 : decode b_X_finish 4 = .ok (.aload_n 0, 1) := by decide +kernel
theorem d_X_finish_5 : decode b_X_finish 5 = .ok (.getfield 47, 3) := by decide +kernel
theorem d_X_finish_8 : decode b_X_finish 8 = .ok (.invokevirtual 96, 3) := by decide +kernel
theorem d_X_finish_11 : decode b_X_finish 11 = .ok (.aload_n 0, 1) := by decide +kernel
theorem d_X_finish_12 : decode b_X_finish 12 = .ok (.iconst 1, 1) := by decide +kernel
theorem d_X_finish_13 : decode b_X_finish 13 = .ok (.putfield 65, 3) := by decide +kernel
theorem d_X_finish_16 : decode b_X_finish 16 = .ok (.aload_n 0, 1) := by decide +kernel
theorem d_X_finish_17 : decode b_X_finish 17 = .ok (.getfield 54, 3) := by decide +kernel
theorem d_X_finish_20 : decode b_X_finish 20 = .ok (.iconst 0, 1) := by decide +kernel
theorem d_X_finish_21 : decode b_X_finish 21 = .ok (.invokevirtual 99, 3) := by decide +kernel
theorem d_X_finish_24 : decode b_X_finish 24 = .ok (.aload_n 0, 1) := by decide +kernel
theorem d_X_finish_25 : decode b_X_finish 25 = .ok (.getfield 38, 3) := by decide +kernel
theorem d_X_finish_28 : decode b_X_finish 28 = .ok (.invokevirtual 92, 3) := by decide +kernel
theorem d_X_finish_31 : decode b_X_finish 31 = .ok (.ireturn, 1) := by decide +kernel
theorem d_X_byteAt_0 : decode b_X_byteAt 0 = .ok (.iload_n 1, 1) := by decide +kernel
theorem d_X_byteAt_1 : decode b_X_byteAt 1 = .ok (.ifCond .lt 14, 3) := by decide +kernel
theorem d_X_byteAt_4 : decode b_X_byteAt 4 = .ok (.iload_n 1, 1) := by decide +kernel
theorem d_X_byteAt_5 : decode b_X_byteAt 5 = .ok (.aload_n 0, 1) := by decide +kernel
theorem d_X_byteAt_6 : decode b_X_byteAt 6 = .ok (.getfield 38, 3) := by decide +kernel
theorem d_X_byteAt_9 : decode b_X_byteAt 9 = .ok (.invokevirtual 92, 3) := by decide +kernel
theorem d_X_byteAt_12 : decode b_X_byteAt 12 = .ok (.if_icmp .lt 13, 3) := by decide +kernel
theorem d_X_byteAt_15 : decode b_X_byteAt 15 = .ok (.new 102, 3) := by decide +kernel
theorem d_X_byteAt_18 : decode b_X_byteAt 18 = .ok (.dup, 1) := by decide +kernel
theorem d_X_byteAt_19 : decode b_X_byteAt 19 = .ok (.ldc 104, 2) := by decide +kernel
theorem d_X_byteAt_21 : decode b_X_byteAt 21 = .ok (.invokespecial 106, 3) := by decide +kernel
theorem d_X_byteAt_24 : decode b_X_byteAt 24 = .ok (.athrow, 1) := by decide +kernel
theorem d_X_byteAt_25 : decode b_X_byteAt 25 = .ok (.aload_n 0, 1) := by decide +kernel
theorem d_X_byteAt_26 : decode b_X_byteAt 26 = .ok (.getfield 38, 3) := by decide +kernel
theorem d_X_byteAt_29 : decode b_X_byteAt 29 = .ok (.aload_n 0, 1) := by decide +kernel
theorem d_X_byteAt_30 : decode b_X_byteAt 30 = .ok (.getfield 38, 3) := by decide +kernel
theorem d_X_byteAt_33 : decode b_X_byteAt 33 = .ok (.invokevirtual 92, 3) := by decide +kernel
theorem d_X_byteAt_36 : decode b_X_byteAt 36 = .ok (.iload_n 1, 1) := by decide +kernel
theorem d_X_byteAt_37 : decode b_X_byteAt 37 = .ok (.invokevirtual 107, 3) := by decide +kernel
theorem d_X_byteAt_40 : decode b_X_byteAt 40 = .ok (.ireturn, 1) := by decide +kernel
theorem d_X_feed_0 : decode b_X_feed 0 = .ok (.aload_n 0, 1) := by decide +kernel
theorem d_X_feed_1 : decode b_X_feed 1 = .ok (.getfield 65, 3) := by decide +kernel
theorem d_X_feed_4 : decode b_X_feed 4 = .ok (.ifCond .eq 13, 3) := by decide +kernel
theorem d_X_feed_7 : decode b_X_feed 7 = .ok (.aload_n 0, 1) := by decide +kernel
theorem d_X_feed_8 : decode b_X_feed 8 = .ok (.getfield 54, 3) := by decide +kernel
theorem d_X_feed_11 : decode b_X_feed 11 = .ok (.invokevirtual 110, 3) := by decide +kernel
theorem d_X_feed_14 : decode b_X_feed 14 = .ok (.ifCond .ne 13, 3) := by decide +kernel
theorem d_X_feed_17 : decode b_X_feed 17 = .ok (.new 114, 3) := by decide +kernel
theorem d_X_feed_20 : decode b_X_feed 20 = .ok (.dup, 1) := by decide +kernel
theorem d_X_feed_21 : decode b_X_feed 21 = .ok (.ldc 116, 2) := by decide +kernel
theorem d_X_feed_23 : decode b_X_feed 23 = .ok (.invokespecial 118, 3) := by decide +kernel
theorem d_X_feed_26 : decode b_X_feed 26 = .ok (.athrow, 1) := by decide +kernel
theorem d_X_feed_27 : decode b_X_feed 27 = .ok (.iload_n 1, 1) := by decide +kernel
theorem d_X_feed_28 : decode b_X_feed 28 = .ok (.ifCond .lt 10, 3) := by decide +kernel
theorem d_X_feed_31 : decode b_X_feed 31 = .ok (.iload_n 1, 1) := by decide +kernel
theorem d_X_feed_32 : decode b_X_feed 32 = .ok (.sipush 255, 3) := by decide +kernel
theorem d_X_feed_35 : decode b_X_feed 35 = .ok (.if_icmp .le 13, 3) := by decide +kernel
theorem d_X_feed_38 : decode b_X_feed 38 = .ok (.new 78, 3) := by decide +kernel
theorem d_X_feed_41 : decode b_X_feed 41 = .ok (.dup, 1) := by decide +kernel
theorem d_X_feed_42 : decode b_X_feed 42 = .ok (.ldc 119, 2) := by decide +kernel
theorem d_X_feed_44 : decode b_X_feed 44 = .ok (.invokespecial 82, 3) := by decide +kernel
theorem d_X_feed_47 : decode b_X_feed 47 = .ok (.athrow, 1) := by decide +kernel
theorem d_X_feed_48 : decode b_X_feed 48 = .ok (.aload_n 0, 1) := by decide +kernel
theorem d_X_feed_49 : decode b_X_feed 49 = .ok (.getfield 38, 3) := by decide +kernel
theorem d_X_feed_52 : decode b_X_feed 52 = .ok (.invokevirtual 92, 3) := by decide +kernel
theorem d_X_feed_55 : decode b_X_feed 55 = .ok (.sipush 4000, 3) := by decide +kernel
theorem d_X_feed_58 : decode b_X_feed 58 = .ok (.if_icmp .lt 5, 3) := by decide +kernel
theorem d_X_feed_61 : decode b_X_feed 61 = .ok (.iconst 0, 1) := by decide +kernel
theorem d_X_feed_62 : decode b_X_feed 62 = .ok (.ireturn, 1) := by decide +kernel
theorem d_X_feed_63 : decode b_X_feed 63 = .ok (.aload_n 0, 1) := by decide +kernel
theorem d_X_feed_64 : decode b_X_feed 64 = .ok (.getfield 38, 3) := by decide +kernel
theorem d_X_feed_67 : decode b_X_feed 67 = .ok (.iload_n 1, 1) := by decide +kernel
theorem d_X_feed_68 : decode b_X_feed 68 = .ok (.invokevirtual 121, 3) := by decide +kernel
theorem d_X_feed_71 : decode b_X_feed 71 = .ok (.iconst 1, 1) := by decide +kernel
theorem d_X_feed_72 : decode b_X_feed 72 = .ok (.ireturn, 1) := by decide +kernel
theorem d_X_decode_0 : decode b_X_decode 0 = .ok (.aload_n 0, 1) := by decide +kernel
theorem d_X_decode_1 : decode b_X_decode 1 = .ok (.iload_n 1, 1) := by decide +kernel
theorem d_X_decode_2 : decode b_X_decode 2 = .ok (.invokevirtual 72, 3) := by decide +kernel
theorem d_X_decode_5 : decode b_X_decode 5 = .ok (.aload_n 0, 1) := by decide +kernel
theorem d_X_decode_6 : decode b_X_decode 6 = .ok (.invokevirtual 124, 3) := by decide +kernel
theorem d_X_decode_9 : decode b_X_decode 9 = .ok (.aload_n 0, 1) := by decide +kernel
theorem d_X_decode_10 : decode b_X_decode 10 = .ok (.getfield 54, 3) := by decide +kernel
theorem d_X_decode_13 : decode b_X_decode 13 = .ok (.aload_n 0, 1) := by decide +kernel
theorem d_X_decode_14 : decode b_X_decode 14 = .ok (.getfield 32, 3) := by decide +kernel
theorem d_X_decode_17 : decode b_X_decode 17 = .ok (.getfield 85, 3) := by decide +kernel
theorem d_X_decode_20 : decode b_X_decode 20 = .ok (.iload_n 1, 1) := by decide +kernel
theorem d_X_decode_21 : decode b_X_decode 21 = .ok (.invokevirtual 127, 3) := by decide +kernel
theorem d_X_decode_24 : decode b_X_decode 24 = .ok (.ireturn, 1) := by decide +kernel
theorem d_X_state_0 : decode b_X_state 0 = .ok (.iload_n 1, 1) := by decide +kernel
theorem d_X_state_1 : decode b_X_state 1 = .ok (.ifCond .eq 18, 3) := by decide +kernel
theorem d_X_state_4 : decode b_X_state 4 = .ok (.iload_n 1, 1) := by decide +kernel
theorem d_X_state_5 : decode b_X_state 5 = .ok (.iconst 1, 1) := by decide +kernel
theorem d_X_state_6 : decode b_X_state 6 = .ok (.if_icmp .eq 13, 3) := by decide +kernel
theorem d_X_state_9 : decode b_X_state 9 = .ok (.new 102, 3) := by decide +kernel
theorem d_X_state_12 : decode b_X_state 12 = .ok (.dup, 1) := by decide +kernel
theorem d_X_state_13 : decode b_X_state 13 = .ok (.ldc 131, 2) := by decide +kernel
theorem d_X_state_15 : decode b_X_state 15 = .ok (.invokespecial 106, 3) := by decide +kernel
theorem d_X_state_18 : decode b_X_state 18 = .ok (.athrow, 1) := by decide +kernel
theorem d_X_state_19 : decode b_X_state 19 = .ok (.aload_n 0, 1) := by decide +kernel
theorem d_X_state_20 : decode b_X_state 20 = .ok (.iload_n 2, 1) := by decide +kernel
theorem d_X_state_21 : decode b_X_state 21 = .ok (.invokevirtual 72, 3) := by decide +kernel
theorem d_X_state_24 : decode b_X_state 24 = .ok (.iload_n 1, 1) := by decide +kernel
theorem d_X_state_25 : decode b_X_state 25 = .ok (.ifCond .ne 13, 3) := by decide +kernel
theorem d_X_state_28 : decode b_X_state 28 = .ok (.aload_n 0, 1) := by decide +kernel
theorem d_X_state_29 : decode b_X_state 29 = .ok (.getfield 28, 3) := by decide +kernel
theorem d_X_state_32 : decode b_X_state 32 = .ok (.getfield 85, 3) := by decide +kernel
theorem d_X_state_35 : decode b_X_state 35 = .ok (.goto 10, 3) := by decide +kernel
theorem d_X_state_38 : decode b_X_state 38 = .ok (.aload_n 0, 1) := by decide +kernel
theorem d_X_state_39 : decode b_X_state 39 = .ok (.getfield 32, 3) := by decide +kernel
theorem d_X_state_42 : decode b_X_state 42 = .ok (.getfield 85, 3) := by decide +kernel
theorem d_X_state_45 : decode b_X_state 45 = .ok (.iload_n 2, 1) := by decide +kernel
theorem d_X_state_46 : decode b_X_state 46 = .ok (.invokestatic 133, 3) := by decide +kernel
theorem d_X_state_49 : decode b_X_state 49 = .ok (.ireturn, 1) := by decide +kernel
theorem d_X_whole_0 : decode b_X_whole 0 = .ok (.aload_n 0, 1) := by decide +kernel
theorem d_X_whole_1 : decode b_X_whole 1 = .ok (.iload_n 1, 1) := by decide +kernel
theorem d_X_whole_2 : decode b_X_whole 2 = .ok (.invokevirtual 136, 3) := by decide +kernel
theorem d_X_whole_5 : decode b_X_whole 5 = .ok (.aload_n 0, 1) := by decide +kernel
theorem d_X_whole_6 : decode b_X_whole 6 = .ok (.invokevirtual 75, 3) := by decide +kernel
theorem d_X_whole_9 : decode b_X_whole 9 = .ok (.iload_n 2, 1) := by decide +kernel
theorem d_X_whole_10 : decode b_X_whole 10 = .ok (.ldc 139, 2) := by decide +kernel
theorem d_X_whole_12 : decode b_X_whole 12 = .ok (.if_icmp .ne 7, 3) := by decide +kernel
theorem d_X_whole_15 : decode b_X_whole 15 = .ok (.iconst 0, 1) := by decide +kernel
theorem d_X_whole_16 : decode b_X_whole 16 = .ok (.goto 7, 3) := by decide +kernel
theorem d_X_whole_19 : decode b_X_whole 19 = .ok (.iload_n 2, 1) := by decide +kernel
theorem d_X_whole_20 : decode b_X_whole 20 = .ok (.invokestatic 140, 3) := by decide +kernel
theorem d_X_whole_23 : decode b_X_whole 23 = .ok (.istore_n 3, 1) := by decide +kernel
theorem d_X_whole_24 : decode b_X_whole 24 = .ok (.iload_n 3, 1) := by decide +kernel
theorem d_X_whole_25 : decode b_X_whole 25 = .ok (.invokestatic 144, 3) := by decide +kernel
theorem d_X_whole_28 : decode b_X_whole 28 = .ok (.istore 4, 2) := by decide +kernel
theorem d_X_whole_30 : decode b_X_whole 30 = .ok (.getstatic 147, 3) := by decide +kernel
theorem d_X_whole_33 : decode b_X_whole 33 = .ok (.iload 4, 2) := by decide +kernel
theorem d_X_whole_35 : decode b_X_whole 35 = .ok (.invokestatic 133, 3) := by decide +kernel
theorem d_X_whole_38 : decode b_X_whole 38 = .ok (.istore 5, 2) := by decide +kernel
theorem d_X_whole_40 : decode b_X_whole 40 = .ok (.getstatic 150, 3) := by decide +kernel
theorem d_X_whole_43 : decode b_X_whole 43 = .ok (.iload 4, 2) := by decide +kernel
theorem d_X_whole_45 : decode b_X_whole 45 = .ok (.invokestatic 133, 3) := by decide +kernel
theorem d_X_whole_48 : decode b_X_whole 48 = .ok (.istore 6, 2) := by decide +kernel
theorem d_X_whole_50 : decode b_X_whole 50 = .ok (.aload_n 0, 1) := by decide +kernel
theorem d_X_whole_51 : decode b_X_whole 51 = .ok (.iconst 1, 1) := by decide +kernel
theorem d_X_whole_52 : decode b_X_whole 52 = .ok (.putfield 69, 3) := by decide +kernel
theorem d_X_whole_55 : decode b_X_whole 55 = .ok (.aload_n 0, 1) := by decide +kernel
theorem d_X_whole_56 : decode b_X_whole 56 = .ok (.iload_n 1, 1) := by decide +kernel
theorem d_X_whole_57 : decode b_X_whole 57 = .ok (.iload_n 2, 1) := by decide +kernel
theorem d_X_whole_58 : decode b_X_whole 58 = .ok (.ifCond .ge 7, 3) := by decide +kernel
theorem d_X_whole_61 : decode b_X_whole 61 = .ok (.iconst 1, 1) := by decide +kernel
theorem d_X_whole_62 : decode b_X_whole 62 = .ok (.goto 4, 3) := by decide +kernel
theorem d_X_whole_65 : decode b_X_whole 65 = .ok (.iconst 0, 1) := by decide +kernel
theorem d_X_whole_66 : decode b_X_whole 66 = .ok (.iconst 1, 1) := by decide +kernel
theorem d_X_whole_67 : decode b_X_whole 67 = .ok (.invokevirtual 153, 3) := by decide +kernel
theorem d_X_whole_70 : decode b_X_whole 70 = .ok (.aload_n 0, 1) := by decide +kernel
theorem d_X_whole_71 : decode b_X_whole 71 = .ok (.iload_n 1, 1) := by decide +kernel
theorem d_X_whole_72 : decode b_X_whole 72 = .ok (.getstatic 157, 3) := by decide +kernel
theorem d_X_whole_75 : decode b_X_whole 75 = .ok (.iload 4, 2) := by decide +kernel
theorem d_X_whole_77 : decode b_X_whole 77 = .ok (.invokestatic 133, 3) := by decide +kernel
theorem d_X_whole_80 : decode b_X_whole 80 = .ok (.iload 5, 2) := by decide +kernel
theorem d_X_whole_82 : decode b_X_whole 82 = .ok (.invokevirtual 153, 3) := by decide +kernel
theorem d_X_whole_85 : decode b_X_whole 85 = .ok (.aload_n 0, 1) := by decide +kernel
theorem d_X_whole_86 : decode b_X_whole 86 = .ok (.iload_n 1, 1) := by decide +kernel
theorem d_X_whole_87 : decode b_X_whole 87 = .ok (.iload_n 3, 1) := by decide +kernel
theorem d_X_whole_88 : decode b_X_whole 88 = .ok (.getstatic 160, 3) := by decide +kernel
theorem d_X_whole_91 : decode b_X_whole 91 = .ok (.iload 4, 2) := by decide +kernel
theorem d_X_whole_93 : decode b_X_whole 93 = .ok (.invokestatic 133, 3) := by decide +kernel
theorem d_X_whole_96 : decode b_X_whole 96 = .ok (.isub, 1) := by decide +kernel
theorem d_X_whole_97 : decode b_X_whole 97 = .ok (.iload 6, 2) := by decide +kernel
theorem d_X_whole_99 : decode b_X_whole 99 = .ok (.invokevirtual 153, 3) := by decide +kernel
theorem d_X_whole_102 : decode b_X_whole 102 = .ok (.iconst 1, 1) := by decide +kernel
theorem d_X_whole_103 : decode b_X_whole 103 = .ok (.iload 5, 2) := by decide +kernel
theorem d_X_whole_105 : decode b_X_whole 105 = .ok (.iadd, 1) := by decide +kernel
theorem d_X_whole_106 : decode b_X_whole 106 = .ok (.iload 6, 2) := by decide +kernel
theorem d_X_whole_108 : decode b_X_whole 108 = .ok (.iadd, 1) := by decide +kernel
theorem d_X_whole_109 : decode b_X_whole 109 = .ok (.ireturn, 1) := by decide +kernel
theorem d_X_readWhole_0 : decode b_X_readWhole 0 = .ok (.aload_n 0, 1) := by decide +kernel
theorem d_X_readWhole_1 : decode b_X_readWhole 1 = .ok (.iload_n 1, 1) := by decide +kernel
theorem d_X_readWhole_2 : decode b_X_readWhole 2 = .ok (.invokevirtual 136, 3) := by decide +kernel
theorem d_X_readWhole_5 : decode b_X_readWhole 5 = .ok (.aload_n 0, 1) := by decide +kernel
theorem d_X_readWhole_6 : decode b_X_readWhole 6 = .ok (.invokevirtual 124, 3) := by decide +kernel
theorem d_X_readWhole_9 : decode b_X_readWhole 9 = .ok (.aload_n 0, 1) := by decide +kernel
theorem d_X_readWhole_10 : decode b_X_readWhole 10 = .ok (.iconst 1, 1) := by decide +kernel
theorem d_X_readWhole_11 : decode b_X_readWhole 11 = .ok (.putfield 69, 3) := by decide +kernel
theorem d_X_readWhole_14 : decode b_X_readWhole 14 = .ok (.aload_n 0, 1) := by decide +kernel
theorem d_X_readWhole_15 : decode b_X_readWhole 15 = .ok (.iload_n 1, 1) := by decide +kernel
theorem d_X_readWhole_16 : decode b_X_readWhole 16 = .ok (.iconst 1, 1) := by decide +kernel
theorem d_X_readWhole_17 : decode b_X_readWhole 17 = .ok (.invokevirtual 163, 3) := by decide +kernel
theorem d_X_readWhole_20 : decode b_X_readWhole 20 = .ok (.iconst 1, 1) := by decide +kernel
theorem d_X_readWhole_21 : decode b_X_readWhole 21 = .ok (.if_icmp .ne 7, 3) := by decide +kernel
theorem d_X_readWhole_24 : decode b_X_readWhole 24 = .ok (.iconst 1, 1) := by decide +kernel
theorem d_X_readWhole_25 : decode b_X_readWhole 25 = .ok (.goto 4, 3) := by decide +kernel
theorem d_X_readWhole_28 : decode b_X_readWhole 28 = .ok (.iconst 0, 1) := by decide +kernel
theorem d_X_readWhole_29 : decode b_X_readWhole 29 = .ok (.istore_n 2, 1) := by decide +kernel
theorem d_X_readWhole_30 : decode b_X_readWhole 30 = .ok (.iconst 0, 1) := by decide +kernel
theorem d_X_readWhole_31 : decode b_X_readWhole 31 = .ok (.istore_n 3, 1) := by decide +kernel
theorem d_X_readWhole_32 : decode b_X_readWhole 32 = .ok (.iload_n 3, 1) := by decide +kernel
theorem d_X_readWhole_33 : decode b_X_readWhole 33 = .ok (.iconst 5, 1) := by decide +kernel
theorem d_X_readWhole_34 : decode b_X_readWhole 34 = .ok (.if_icmp .ge 19, 3) := by decide +kernel
theorem d_X_readWhole_37 : decode b_X_readWhole 37 = .ok (.aload_n 0, 1) := by decide +kernel
theorem d_X_readWhole_38 : decode b_X_readWhole 38 = .ok (.iload_n 1, 1) := by decide +kernel
theorem d_X_readWhole_39 : decode b_X_readWhole 39 = .ok (.iconst 1, 1) := by decide +kernel
theorem d_X_readWhole_40 : decode b_X_readWhole 40 = .ok (.invokevirtual 163, 3) := by decide +kernel
theorem d_X_readWhole_43 : decode b_X_readWhole 43 = .ok (.iconst 1, 1) := by decide +kernel
theorem d_X_readWhole_44 : decode b_X_readWhole 44 = .ok (.if_icmp .ne 9, 3) := by decide +kernel
theorem d_X_readWhole_47 : decode b_X_readWhole 47 = .ok (.iinc 3 1, 3) := by decide +kernel
theorem d_X_readWhole_50 : decode b_X_readWhole 50 = .ok (.goto (-18), 3) := by decide +kernel
theorem d_X_readWhole_53 : decode b_X_readWhole 53 = .ok (.aload_n 0, 1) := by decide +kernel
theorem d_X_readWhole_54 : decode b_X_readWhole 54 = .ok (.iload_n 1, 1) := by decide +kernel
theorem d_X_readWhole_55 : decode b_X_readWhole 55 = .ok (.getstatic 150, 3) := by decide +kernel
theorem d_X_readWhole_58 : decode b_X_readWhole 58 = .ok (.iload_n 3, 1) := by decide +kernel
theorem d_X_readWhole_59 : decode b_X_readWhole 59 = .ok (.invokestatic 133, 3) := by decide +kernel
theorem d_X_readWhole_62 : decode b_X_readWhole 62 = .ok (.invokevirtual 163, 3) := by decide +kernel
theorem d_X_readWhole_65 : decode b_X_readWhole 65 = .ok (.getstatic 160, 3) := by decide +kernel
theorem d_X_readWhole_68 : decode b_X_readWhole 68 = .ok (.iload_n 3, 1) := by decide +kernel
theorem d_X_readWhole_69 : decode b_X_readWhole 69 = .ok (.invokestatic 133, 3) := by decide +kernel
theorem d_X_readWhole_72 : decode b_X_readWhole 72 = .ok (.iadd, 1) := by decide +kernel
theorem d_X_readWhole_73 : decode b_X_readWhole 73 = .ok (.istore 4, 2) := by decide +kernel
theorem d_X_readWhole_75 : decode b_X_readWhole 75 = .ok (.iload_n 2, 1) := by decide +kernel
theorem d_X_readWhole_76 : decode b_X_readWhole 76 = .ok (.ifCond .ne 6, 3) := by decide +kernel
theorem d_X_readWhole_79 : decode b_X_readWhole 79 = .ok (.iload 4, 2) := by decide +kernel
theorem d_X_readWhole_81 : decode b_X_readWhole 81 = .ok (.ireturn, 1) := by decide +kernel
theorem d_X_readWhole_82 : decode b_X_readWhole 82 = .ok (.iload 4, 2) := by decide +kernel
theorem d_X_readWhole_84 : decode b_X_readWhole 84 = .ok (.ifCond .ne 8, 3) := by decide +kernel
theorem d_X_readWhole_87 : decode b_X_readWhole 87 = .ok (.ldc 139, 2) := by decide +kernel
theorem d_X_readWhole_89 : decode b_X_readWhole 89 = .ok (.goto 6, 3) := by decide +kernel
theorem d_X_readWhole_92 : decode b_X_readWhole 92 = .ok (.iload 4, 2) := by decide +kernel
theorem d_X_readWhole_94 : decode b_X_readWhole 94 = .ok (.ineg, 1) := by decide +kernel
theorem d_X_readWhole_95 : decode b_X_readWhole 95 = .ok (.ireturn, 1) := by decide +kernel
theorem d_X_save_0 : decode b_X_save 0 = .ok (.aload_n 0, 1) := by decide +kernel
theorem d_X_save_1 : decode b_X_save 1 = .ok (.getfield 62, 3) := by decide +kernel
theorem d_X_save_4 : decode b_X_save 4 = .ok (.bipush 6, 2) := by decide +kernel
theorem d_X_save_6 : decode b_X_save 6 = .ok (.if_icmp .lt 13, 3) := by decide +kernel
theorem d_X_save_9 : decode b_X_save 9 = .ok (.new 114, 3) := by decide +kernel
theorem d_X_save_12 : decode b_X_save 12 = .ok (.dup, 1) := by decide +kernel
theorem d_X_save_13 : decode b_X_save 13 = .ok (.ldc 166, 2) := by decide +kernel
theorem d_X_save_15 : decode b_X_save 15 = .ok (.invokespecial 118, 3) := by decide +kernel
theorem d_X_save_18 : decode b_X_save 18 = .ok (.athrow, 1) := by decide +kernel
theorem d_X_save_19 : decode b_X_save 19 = .ok (.aload_n 0, 1) := by decide +kernel
theorem d_X_save_20 : decode b_X_save 20 = .ok (.invokevirtual 168, 3) := by decide +kernel
theorem d_X_save_23 : decode b_X_save 23 = .ok (.getfield 85, 3) := by decide +kernel
theorem d_X_save_26 : decode b_X_save 26 = .ok (.iconst 0, 1) := by decide +kernel
theorem d_X_save_27 : decode b_X_save 27 = .ok (.aload_n 0, 1) := by decide +kernel
theorem d_X_save_28 : decode b_X_save 28 = .ok (.getfield 58, 3) := by decide +kernel
theorem d_X_save_31 : decode b_X_save 31 = .ok (.aload_n 0, 1) := by decide +kernel
theorem d_X_save_32 : decode b_X_save 32 = .ok (.getfield 62, 3) := by decide +kernel
theorem d_X_save_35 : decode b_X_save 35 = .ok (.aload_n 0, 1) := by decide +kernel
theorem d_X_save_36 : decode b_X_save 36 = .ok (.getfield 19, 3) := by decide +kernel
theorem d_X_save_39 : decode b_X_save 39 = .ok (.imul, 1) := by decide +kernel
theorem d_X_save_40 : decode b_X_save 40 = .ok (.aload_n 0, 1) := by decide +kernel
theorem d_X_save_41 : decode b_X_save 41 = .ok (.getfield 19, 3) := by decide +kernel
theorem d_X_save_44 : decode b_X_save 44 = .ok (.invokestatic 172, 3) := by decide +kernel
theorem d_X_save_47 : decode b_X_save 47 = .ok (.aload_n 0, 1) := by decide +kernel
theorem d_X_save_48 : decode b_X_save 48 = .ok (.dup, 1) := by decide +kernel
theorem d_X_save_49 : decode b_X_save 49 = .ok (.getfield 62, 3) := by decide +kernel
theorem d_X_save_52 : decode b_X_save 52 = .ok (.iconst 1, 1) := by decide +kernel
theorem d_X_save_53 : decode b_X_save 53 = .ok (.iadd, 1) := by decide +kernel
theorem d_X_save_54 : decode b_X_save 54 = .ok (.putfield 62, 3) := by decide +kernel
theorem d_X_save_57 : decode b_X_save 57 = .ok (.aload_n 0, 1) := by decide +kernel
theorem d_X_save_58 : decode b_X_save 58 = .ok (.getfield 62, 3) := by decide +kernel
theorem d_X_save_61 : decode b_X_save 61 = .ok (.iconst 1, 1) := by decide +kernel
theorem d_X_save_62 : decode b_X_save 62 = .ok (.isub, 1) := by decide +kernel
theorem d_X_save_63 : decode b_X_save 63 = .ok (.ireturn, 1) := by decide +kernel
theorem d_X_back_0 : decode b_X_back 0 = .ok (.iload_n 1, 1) := by decide +kernel
theorem d_X_back_1 : decode b_X_back 1 = .ok (.ifCond .lt 11, 3) := by decide +kernel
theorem d_X_back_4 : decode b_X_back 4 = .ok (.iload_n 1, 1) := by decide +kernel
theorem d_X_back_5 : decode b_X_back 5 = .ok (.aload_n 0, 1) := by decide +kernel
theorem d_X_back_6 : decode b_X_back 6 = .ok (.getfield 62, 3) := by decide +kernel
theorem d_X_back_9 : decode b_X_back 9 = .ok (.if_icmp .lt 5, 3) := by decide +kernel
theorem d_X_back_12 : decode b_X_back 12 = .ok (.iconst 0, 1) := by decide +kernel
theorem d_X_back_13 : decode b_X_back 13 = .ok (.ireturn, 1) := by decide +kernel
theorem d_X_back_14 : decode b_X_back 14 = .ok (.aload_n 0, 1) := by decide +kernel
theorem d_X_back_15 : decode b_X_back 15 = .ok (.getfield 58, 3) := by decide +kernel
theorem d_X_back_18 : decode b_X_back 18 = .ok (.iload_n 1, 1) := by decide +kernel
theorem d_X_back_19 : decode b_X_back 19 = .ok (.aload_n 0, 1) := by decide +kernel
theorem d_X_back_20 : decode b_X_back 20 = .ok (.getfield 19, 3) := by decide +kernel
theorem d_X_back_23 : decode b_X_back 23 = .ok (.imul, 1) := by decide +kernel
theorem d_X_back_24 : decode b_X_back 24 = .ok (.aload_n 0, 1) := by decide +kernel
theorem d_X_back_25 : decode b_X_back 25 = .ok (.invokevirtual 168, 3) := by decide +kernel
theorem d_X_back_28 : decode b_X_back 28 = .ok (.getfield 85, 3) := by decide +kernel
theorem d_X_back_31 : decode b_X_back 31 = .ok (.iconst 0, 1) := by decide +kernel
theorem d_X_back_32 : decode b_X_back 32 = .ok (.aload_n 0, 1) := by decide +kernel
theorem d_X_back_33 : decode b_X_back 33 = .ok (.getfield 19, 3) := by decide +kernel
theorem d_X_back_36 : decode b_X_back 36 = .ok (.invokestatic 172, 3) := by decide +kernel
theorem d_X_back_39 : decode b_X_back 39 = .ok (.iconst 1, 1) := by decide +kernel
theorem d_X_back_40 : decode b_X_back 40 = .ok (.ireturn, 1) := by decide +kernel
theorem d_X_raw_0 : decode b_X_raw 0 = .ok (.aload_n 0, 1) := by decide +kernel
theorem d_X_raw_1 : decode b_X_raw 1 = .ok (.getfield 65, 3) := by decide +kernel
theorem d_X_raw_4 : decode b_X_raw 4 = .ok (.ifCond .eq 14, 3) := by decide +kernel
theorem d_X_raw_7 : decode b_X_raw 7 = .ok (.aload_n 0, 1) := by decide +kernel
theorem d_X_raw_8 : decode b_X_raw 8 = .ok (.getfield 54, 3) := by decide +kernel
theorem d_X_raw_11 : decode b_X_raw 11 = .ok (.iload_n 1, 1) := by decide +kernel
theorem d_X_raw_12 : decode b_X_raw 12 = .ok (.invokevirtual 178, 3) := by decide +kernel
theorem d_X_raw_15 : decode b_X_raw 15 = .ok (.goto 11, 3) := by decide +kernel
theorem d_X_raw_18 : decode b_X_raw 18 = .ok (.aload_n 0, 1) := by decide +kernel
theorem d_X_raw_19 : decode b_X_raw 19 = .ok (.getfield 47, 3) := by decide +kernel
theorem d_X_raw_22 : decode b_X_raw 22 = .ok (.iload_n 1, 1) := by decide +kernel
theorem d_X_raw_23 : decode b_X_raw 23 = .ok (.invokevirtual 182, 3) := by decide +kernel
theorem d_X_raw_26 : decode b_X_raw 26 = .ok (.ireturn, 1) := by decide +kernel
theorem d_X_beyond_0 : decode b_X_beyond 0 = .ok (.aload_n 0, 1) := by decide +kernel
theorem d_X_beyond_1 : decode b_X_beyond 1 = .ok (.getfield 65, 3) := by decide +kernel
theorem d_X_beyond_4 : decode b_X_beyond 4 = .ok (.ifCond .eq 13, 3) := by decide +kernel
theorem d_X_beyond_7 : decode b_X_beyond 7 = .ok (.aload_n 0, 1) := by decide +kernel
theorem d_X_beyond_8 : decode b_X_beyond 8 = .ok (.getfield 54, 3) := by decide +kernel
theorem d_X_beyond_11 : decode b_X_beyond 11 = .ok (.invokevirtual 185, 3) := by decide +kernel
theorem d_X_beyond_14 : decode b_X_beyond 14 = .ok (.goto 4, 3) := by decide +kernel
theorem d_X_beyond_17 : decode b_X_beyond 17 = .ok (.iconst 0, 1) := by decide +kernel
theorem d_X_beyond_18 : decode b_X_beyond 18 = .ok (.ireturn, 1) := by decide +kernel
theorem d_X_reset_0 : decode b_X_reset 0 = .ok (.aload_n 0, 1) := by decide +kernel
theorem d_X_reset_1 : decode b_X_reset 1 = .ok (.getfield 28, 3) := by decide +kernel
theorem d_X_reset_4 : decode b_X_reset 4 = .ok (.invokevirtual 188, 3) := by decide +kernel
theorem d_X_reset_7 : decode b_X_reset 7 = .ok (.aload_n 0, 1) := by decide +kernel
theorem d_X_reset_8 : decode b_X_reset 8 = .ok (.getfield 32, 3) := by decide +kernel
theorem d_X_reset_11 : decode b_X_reset 11 = .ok (.invokevirtual 188, 3) := by decide +kernel
theorem d_X_reset_14 : decode b_X_reset 14 = .ok (.aload_n 0, 1) := by decide +kernel
theorem d_X_reset_15 : decode b_X_reset 15 = .ok (.getfield 38, 3) := by decide +kernel
theorem d_X_reset_18 : decode b_X_reset 18 = .ok (.invokevirtual 191, 3) := by decide +kernel
theorem d_X_reset_21 : decode b_X_reset 21 = .ok (.aload_n 0, 1) := by decide +kernel
theorem d_X_reset_22 : decode b_X_reset 22 = .ok (.getfield 47, 3) := by decide +kernel
theorem d_X_reset_25 : decode b_X_reset 25 = .ok (.iconst 0, 1) := by decide +kernel
theorem d_X_reset_26 : decode b_X_reset 26 = .ok (.invokevirtual 192, 3) := by decide +kernel
theorem d_X_reset_29 : decode b_X_reset 29 = .ok (.aload_n 0, 1) := by decide +kernel
theorem d_X_reset_30 : decode b_X_reset 30 = .ok (.getfield 54, 3) := by decide +kernel
theorem d_X_reset_33 : decode b_X_reset 33 = .ok (.iconst 0, 1) := by decide +kernel
theorem d_X_reset_34 : decode b_X_reset 34 = .ok (.invokevirtual 99, 3) := by decide +kernel
theorem d_X_reset_37 : decode b_X_reset 37 = .ok (.aload_n 0, 1) := by decide +kernel
theorem d_X_reset_38 : decode b_X_reset 38 = .ok (.iconst 0, 1) := by decide +kernel
theorem d_X_reset_39 : decode b_X_reset 39 = .ok (.putfield 62, 3) := by decide +kernel
theorem d_X_reset_42 : decode b_X_reset 42 = .ok (.aload_n 0, 1) := by decide +kernel
theorem d_X_reset_43 : decode b_X_reset 43 = .ok (.iconst 0, 1) := by decide +kernel
theorem d_X_reset_44 : decode b_X_reset 44 = .ok (.putfield 65, 3) := by decide +kernel
theorem d_X_reset_47 : decode b_X_reset 47 = .ok (.aload_n 0, 1) := by decide +kernel
theorem d_X_reset_48 : decode b_X_reset 48 = .ok (.iconst 1, 1) := by decide +kernel
theorem d_X_reset_49 : decode b_X_reset 49 = .ok (.putfield 69, 3) := by decide +kernel
theorem d_X_reset_52 : decode b_X_reset 52 = .ok (.return_, 1) := by decide +kernel
theorem d_X_needContext_0 : decode b_X_needContext 0 = .ok (.iload_n 1, 1) := by decide +kernel
theorem d_X_needContext_1 : decode b_X_needContext 1 = .ok (.ifCond .lt 11, 3) := by decide +kernel
theorem d_X_needContext_4 : decode b_X_needContext 4 = .ok (.iload_n 1, 1) := by decide +kernel
theorem d_X_needContext_5 : decode b_X_needContext 5 = .ok (.aload_n 0, 1) := by decide +kernel
theorem d_X_needContext_6 : decode b_X_needContext 6 = .ok (.getfield 19, 3) := by decide +kernel
theorem d_X_needContext_9 : decode b_X_needContext 9 = .ok (.if_icmp .lt 13, 3) := by decide +kernel
theorem d_X_needContext_12 : decode b_X_needContext 12 = .ok (.new 102, 3) := by decide +kernel
theorem d_X_needContext_15 : decode b_X_needContext 15 = .ok (.dup, 1) := by decide +kernel
theorem d_X_needContext_16 : decode b_X_needContext 16 = .ok (.ldc 196, 2) := by decide +kernel
theorem d_X_needContext_18 : decode b_X_needContext 18 = .ok (.invokespecial 106, 3) := by decide +kernel
theorem d_X_needContext_21 : decode b_X_needContext 21 = .ok (.athrow, 1) := by decide +kernel
theorem d_X_needContext_22 : decode b_X_needContext 22 = .ok (.return_, 1) := by decide +kernel
theorem d_X_needSet_0 : decode b_X_needSet 0 = .ok (.iload_n 1, 1) := by decide +kernel
theorem d_X_needSet_1 : decode b_X_needSet 1 = .ok (.ifCond .lt 9, 3) := by decide +kernel
theorem d_X_needSet_4 : decode b_X_needSet 4 = .ok (.iload_n 1, 1) := by decide +kernel
theorem d_X_needSet_5 : decode b_X_needSet 5 = .ok (.bipush 8, 2) := by decide +kernel
theorem d_X_needSet_7 : decode b_X_needSet 7 = .ok (.if_icmp .lt 13, 3) := by decide +kernel
theorem d_X_needSet_10 : decode b_X_needSet 10 = .ok (.new 102, 3) := by decide +kernel
theorem d_X_needSet_13 : decode b_X_needSet 13 = .ok (.dup, 1) := by decide +kernel
theorem d_X_needSet_14 : decode b_X_needSet 14 = .ok (.ldc 198, 2) := by decide +kernel
theorem d_X_needSet_16 : decode b_X_needSet 16 = .ok (.invokespecial 106, 3) := by decide +kernel
theorem d_X_needSet_19 : decode b_X_needSet 19 = .ok (.athrow, 1) := by decide +kernel
theorem d_X_needSet_20 : decode b_X_needSet 20 = .ok (.return_, 1) := by decide +kernel
theorem d_X_needEncoding_0 : decode b_X_needEncoding 0 = .ok (.aload_n 0, 1) := by decide +kernel
theorem d_X_needEncoding_1 : decode b_X_needEncoding 1 = .ok (.getfield 65, 3) := by decide +kernel
theorem d_X_needEncoding_4 : decode b_X_needEncoding 4 = .ok (.ifCond .eq 13, 3) := by decide +kernel
theorem d_X_needEncoding_7 : decode b_X_needEncoding 7 = .ok (.new 114, 3) := by decide +kernel
theorem d_X_needEncoding_10 : decode b_X_needEncoding 10 = .ok (.dup, 1) := by decide +kernel
theorem d_X_needEncoding_11 : decode b_X_needEncoding 11 = .ok (.ldc 200, 2) := by decide +kernel
theorem d_X_needEncoding_13 : decode b_X_needEncoding 13 = .ok (.invokespecial 118, 3) := by decide +kernel
theorem d_X_needEncoding_16 : decode b_X_needEncoding 16 = .ok (.athrow, 1) := by decide +kernel
theorem d_X_needEncoding_17 : decode b_X_needEncoding 17 = .ok (.return_, 1) := by decide +kernel
theorem d_X_needDecoding_0 : decode b_X_needDecoding 0 = .ok (.aload_n 0, 1) := by decide +kernel
theorem d_X_needDecoding_1 : decode b_X_needDecoding 1 = .ok (.getfield 65, 3) := by decide +kernel
theorem d_X_needDecoding_4 : decode b_X_needDecoding 4 = .ok (.ifCond .ne 13, 3) := by decide +kernel
theorem d_X_needDecoding_7 : decode b_X_needDecoding 7 = .ok (.new 114, 3) := by decide +kernel
theorem d_X_needDecoding_10 : decode b_X_needDecoding 10 = .ok (.dup, 1) := by decide +kernel
theorem d_X_needDecoding_11 : decode b_X_needDecoding 11 = .ok (.ldc 202, 2) := by decide +kernel
theorem d_X_needDecoding_13 : decode b_X_needDecoding 13 = .ok (.invokespecial 118, 3) := by decide +kernel
theorem d_X_needDecoding_16 : decode b_X_needDecoding 16 = .ok (.athrow, 1) := by decide +kernel
theorem d_X_needDecoding_17 : decode b_X_needDecoding 17 = .ok (.return_, 1) := by decide +kernel
theorem d_X_sideAtWork_0 : decode b_X_sideAtWork 0 = .ok (.aload_n 0, 1) := by decide +kernel
theorem d_X_sideAtWork_1 : decode b_X_sideAtWork 1 = .ok (.getfield 65, 3) := by decide +kernel
theorem d_X_sideAtWork_4 : decode b_X_sideAtWork 4 = .ok (.ifCond .eq 10, 3) := by decide +kernel
theorem d_X_sideAtWork_7 : decode b_X_sideAtWork 7 = .ok (.aload_n 0, 1) := by decide +kernel
theorem d_X_sideAtWork_8 : decode b_X_sideAtWork 8 = .ok (.getfield 32, 3) := by decide +kernel
theorem d_X_sideAtWork_11 : decode b_X_sideAtWork 11 = .ok (.goto 7, 3) := by decide +kernel
theorem d_X_sideAtWork_14 : decode b_X_sideAtWork 14 = .ok (.aload_n 0, 1) := by decide +kernel
theorem d_X_sideAtWork_15 : decode b_X_sideAtWork 15 = .ok (.getfield 28, 3) := by decide +kernel
theorem d_X_sideAtWork_18 : decode b_X_sideAtWork 18 = .ok (.areturn, 1) := by decide +kernel
theorem d_X_kindOf_0 : decode b_X_kindOf 0 = .ok (.iconst 5, 1) := by decide +kernel
theorem d_X_kindOf_1 : decode b_X_kindOf 1 = .ok (.istore_n 1, 1) := by decide +kernel
theorem d_X_kindOf_2 : decode b_X_kindOf 2 = .ok (.iload_n 1, 1) := by decide +kernel
theorem d_X_kindOf_3 : decode b_X_kindOf 3 = .ok (.ifCond .le 20, 3) := by decide +kernel
theorem d_X_kindOf_6 : decode b_X_kindOf 6 = .ok (.iload_n 0, 1) := by decide +kernel
theorem d_X_kindOf_7 : decode b_X_kindOf 7 = .ok (.getstatic 160, 3) := by decide +kernel
theorem d_X_kindOf_10 : decode b_X_kindOf 10 = .ok (.iload_n 1, 1) := by decide +kernel
theorem d_X_kindOf_11 : decode b_X_kindOf 11 = .ok (.invokestatic 133, 3) := by decide +kernel
theorem d_X_kindOf_14 : decode b_X_kindOf 14 = .ok (.if_icmp .ge 9, 3) := by decide +kernel
theorem d_X_kindOf_17 : decode b_X_kindOf 17 = .ok (.iinc 1 (-1), 3) := by decide +kernel
theorem d_X_kindOf_20 : decode b_X_kindOf 20 = .ok (.goto (-18), 3) := by decide +kernel
theorem d_X_kindOf_23 : decode b_X_kindOf 23 = .ok (.iload_n 1, 1) := by decide +kernel
theorem d_X_kindOf_24 : decode b_X_kindOf 24 = .ok (.ireturn, 1) := by decide +kernel
theorem d_X_putBits_0 : decode b_X_putBits 0 = .ok (.iload_n 3, 1) := by decide +kernel
theorem d_X_putBits_1 : decode b_X_putBits 1 = .ok (.iconst 1, 1) := by decide +kernel
theorem d_X_putBits_2 : decode b_X_putBits 2 = .ok (.isub, 1) := by decide +kernel
theorem d_X_putBits_3 : decode b_X_putBits 3 = .ok (.istore 4, 2) := by decide +kernel
theorem d_X_putBits_5 : decode b_X_putBits 5 = .ok (.iload 4, 2) := by decide +kernel
theorem d_X_putBits_7 : decode b_X_putBits 7 = .ok (.ifCond .lt 56, 3) := by decide +kernel
theorem d_X_putBits_10 : decode b_X_putBits 10 = .ok (.iload_n 2, 1) := by decide +kernel
theorem d_X_putBits_11 : decode b_X_putBits 11 = .ok (.iload 4, 2) := by decide +kernel
theorem d_X_putBits_13 : decode b_X_putBits 13 = .ok (.iushr, 1) := by decide +kernel
theorem d_X_putBits_14 : decode b_X_putBits 14 = .ok (.iconst 1, 1) := by decide +kernel
theorem d_X_putBits_15 : decode b_X_putBits 15 = .ok (.iand, 1) := by decide +kernel
theorem d_X_putBits_16 : decode b_X_putBits 16 = .ok (.istore 5, 2) := by decide +kernel
theorem d_X_putBits_18 : decode b_X_putBits 18 = .ok (.aload_n 0, 1) := by decide +kernel
theorem d_X_putBits_19 : decode b_X_putBits 19 = .ok (.getfield 47, 3) := by decide +kernel
theorem d_X_putBits_22 : decode b_X_putBits 22 = .ok (.aload_n 0, 1) := by decide +kernel
theorem d_X_putBits_23 : decode b_X_putBits 23 = .ok (.getfield 28, 3) := by decide +kernel
theorem d_X_putBits_26 : decode b_X_putBits 26 = .ok (.getfield 204, 3) := by decide +kernel
theorem d_X_putBits_29 : decode b_X_putBits 29 = .ok (.iload_n 1, 1) := by decide +kernel
theorem d_X_putBits_30 : decode b_X_putBits 30 = .ok (.sipush 512, 3) := by decide +kernel
theorem d_X_putBits_33 : decode b_X_putBits 33 = .ok (.imul, 1) := by decide +kernel
theorem d_X_putBits_34 : decode b_X_putBits 34 = .ok (.aload_n 0, 1) := by decide +kernel
theorem d_X_putBits_35 : decode b_X_putBits 35 = .ok (.getfield 69, 3) := by decide +kernel
theorem d_X_putBits_38 : decode b_X_putBits 38 = .ok (.iadd, 1) := by decide +kernel
theorem d_X_putBits_39 : decode b_X_putBits 39 = .ok (.iload 5, 2) := by decide +kernel
theorem d_X_putBits_41 : decode b_X_putBits 41 = .ok (.invokevirtual 88, 3) := by decide +kernel
theorem d_X_putBits_44 : decode b_X_putBits 44 = .ok (.aload_n 0, 1) := by decide +kernel
theorem d_X_putBits_45 : decode b_X_putBits 45 = .ok (.aload_n 0, 1) := by decide +kernel
theorem d_X_putBits_46 : decode b_X_putBits 46 = .ok (.getfield 69, 3) := by decide +kernel
theorem d_X_putBits_49 : decode b_X_putBits 49 = .ok (.iload 5, 2) := by decide +kernel
theorem d_X_putBits_51 : decode b_X_putBits 51 = .ok (.invokestatic 207, 3) := by decide +kernel
theorem d_X_putBits_54 : decode b_X_putBits 54 = .ok (.putfield 69, 3) := by decide +kernel
theorem d_X_putBits_57 : decode b_X_putBits 57 = .ok (.iinc 4 (-1), 3) := by decide +kernel
theorem d_X_putBits_60 : decode b_X_putBits 60 = .ok (.goto (-55), 3) := by decide +kernel
theorem d_X_putBits_63 : decode b_X_putBits 63 = .ok (.return_, 1) := by decide +kernel
theorem d_X_readBits_0 : decode b_X_readBits 0 = .ok (.iconst 0, 1) := by decide +kernel
theorem d_X_readBits_1 : decode b_X_readBits 1 = .ok (.istore_n 3, 1) := by decide +kernel
theorem d_X_readBits_2 : decode b_X_readBits 2 = .ok (.iconst 0, 1) := by decide +kernel
theorem d_X_readBits_3 : decode b_X_readBits 3 = .ok (.istore 4, 2) := by decide +kernel
theorem d_X_readBits_5 : decode b_X_readBits 5 = .ok (.iload 4, 2) := by decide +kernel
theorem d_X_readBits_7 : decode b_X_readBits 7 = .ok (.iload_n 2, 1) := by decide +kernel
theorem d_X_readBits_8 : decode b_X_readBits 8 = .ok (.if_icmp .ge 55, 3) := by decide +kernel
theorem d_X_readBits_11 : decode b_X_readBits 11 = .ok (.aload_n 0, 1) := by decide +kernel
theorem d_X_readBits_12 : decode b_X_readBits 12 = .ok (.getfield 54, 3) := by decide +kernel
theorem d_X_readBits_15 : decode b_X_readBits 15 = .ok (.aload_n 0, 1) := by decide +kernel
theorem d_X_readBits_16 : decode b_X_readBits 16 = .ok (.getfield 32, 3) := by decide +kernel
theorem d_X_readBits_19 : decode b_X_readBits 19 = .ok (.getfield 204, 3) := by decide +kernel
theorem d_X_readBits_22 : decode b_X_readBits 22 = .ok (.iload_n 1, 1) := by decide +kernel
theorem d_X_readBits_23 : decode b_X_readBits 23 = .ok (.sipush 512, 3) := by decide +kernel
theorem d_X_readBits_26 : decode b_X_readBits 26 = .ok (.imul, 1) := by decide +kernel
theorem d_X_readBits_27 : decode b_X_readBits 27 = .ok (.aload_n 0, 1) := by decide +kernel
theorem d_X_readBits_28 : decode b_X_readBits 28 = .ok (.getfield 69, 3) := by decide +kernel
theorem d_X_readBits_31 : decode b_X_readBits 31 = .ok (.iadd, 1) := by decide +kernel
theorem d_X_readBits_32 : decode b_X_readBits 32 = .ok (.invokevirtual 127, 3) := by decide +kernel
theorem d_X_readBits_35 : decode b_X_readBits 35 = .ok (.istore 5, 2) := by decide +kernel
theorem d_X_readBits_37 : decode b_X_readBits 37 = .ok (.aload_n 0, 1) := by decide +kernel
theorem d_X_readBits_38 : decode b_X_readBits 38 = .ok (.aload_n 0, 1) := by decide +kernel
theorem d_X_readBits_39 : decode b_X_readBits 39 = .ok (.getfield 69, 3) := by decide +kernel
theorem d_X_readBits_42 : decode b_X_readBits 42 = .ok (.iload 5, 2) := by decide +kernel
theorem d_X_readBits_44 : decode b_X_readBits 44 = .ok (.invokestatic 207, 3) := by decide +kernel
theorem d_X_readBits_47 : decode b_X_readBits 47 = .ok (.putfield 69, 3) := by decide +kernel
theorem d_X_readBits_50 : decode b_X_readBits 50 = .ok (.iload_n 3, 1) := by decide +kernel
theorem d_X_readBits_51 : decode b_X_readBits 51 = .ok (.iconst 1, 1) := by decide +kernel
theorem d_X_readBits_52 : decode b_X_readBits 52 = .ok (.ishl, 1) := by decide +kernel
theorem d_X_readBits_53 : decode b_X_readBits 53 = .ok (.iload 5, 2) := by decide +kernel
theorem d_X_readBits_55 : decode b_X_readBits 55 = .ok (.ior, 1) := by decide +kernel
theorem d_X_readBits_56 : decode b_X_readBits 56 = .ok (.istore_n 3, 1) := by decide +kernel
theorem d_X_readBits_57 : decode b_X_readBits 57 = .ok (.iinc 4 1, 3) := by decide +kernel
theorem d_X_readBits_60 : decode b_X_readBits 60 = .ok (.goto (-55), 3) := by decide +kernel
theorem d_X_readBits_63 : decode b_X_readBits 63 = .ok (.iload_n 3, 1) := by decide +kernel
theorem d_X_readBits_64 : decode b_X_readBits 64 = .ok (.ireturn, 1) := by decide +kernel
theorem d_X_longerPath_0 : decode b_X_longerPath 0 = .ok (.iconst 2, 1) := by decide +kernel
theorem d_X_longerPath_1 : decode b_X_longerPath 1 = .ok (.iload_n 0, 1) := by decide +kernel
theorem d_X_longerPath_2 : decode b_X_longerPath 2 = .ok (.imul, 1) := by decide +kernel
theorem d_X_longerPath_3 : decode b_X_longerPath 3 = .ok (.iload_n 1, 1) := by decide +kernel
theorem d_X_longerPath_4 : decode b_X_longerPath 4 = .ok (.iadd, 1) := by decide +kernel
theorem d_X_longerPath_5 : decode b_X_longerPath 5 = .ok (.istore_n 2, 1) := by decide +kernel
theorem d_X_longerPath_6 : decode b_X_longerPath 6 = .ok (.iload_n 2, 1) := by decide +kernel
theorem d_X_longerPath_7 : decode b_X_longerPath 7 = .ok (.sipush 512, 3) := by decide +kernel
theorem d_X_longerPath_10 : decode b_X_longerPath 10 = .ok (.if_icmp .ge 7, 3) := by decide +kernel
theorem d_X_longerPath_13 : decode b_X_longerPath 13 = .ok (.iload_n 2, 1) := by decide +kernel
theorem d_X_longerPath_14 : decode b_X_longerPath 14 = .ok (.goto 12, 3) := by decide +kernel
theorem d_X_longerPath_17 : decode b_X_longerPath 17 = .ok (.iload_n 2, 1) := by decide +kernel
theorem d_X_longerPath_18 : decode b_X_longerPath 18 = .ok (.sipush 255, 3) := by decide +kernel
theorem d_X_longerPath_21 : decode b_X_longerPath 21 = .ok (.iand, 1) := by decide +kernel
theorem d_X_longerPath_22 : decode b_X_longerPath 22 = .ok (.sipush 256, 3) := by decide +kernel
theorem d_X_longerPath_25 : decode b_X_longerPath 25 = .ok (.ior, 1) := by decide +kernel
theorem d_X_longerPath_26 : decode b_X_longerPath 26 = .ok (.ireturn, 1) := by decide +kernel
theorem d_X_at_0 : decode b_X_at 0 = .ok (.iload_n 1, 1) := by decide +kernel
theorem d_X_at_1 : decode b_X_at 1 = .ok (.ifCond .lt 15, 3) := by decide +kernel
theorem d_X_at_4 : decode b_X_at 4 = .ok (.iload_n 1, 1) := by decide +kernel
theorem d_X_at_5 : decode b_X_at 5 = .ok (.aload_n 0, 1) := by decide +kernel
theorem d_X_at_6 : decode b_X_at 6 = .ok (.arraylength, 1) := by decide +kernel
theorem d_X_at_7 : decode b_X_at 7 = .ok (.if_icmp .ge 9, 3) := by decide +kernel
theorem d_X_at_10 : decode b_X_at 10 = .ok (.aload_n 0, 1) := by decide +kernel
theorem d_X_at_11 : decode b_X_at 11 = .ok (.iload_n 1, 1) := by decide +kernel
theorem d_X_at_12 : decode b_X_at 12 = .ok (.iaload, 1) := by decide +kernel
theorem d_X_at_13 : decode b_X_at 13 = .ok (.goto 4, 3) := by decide +kernel
theorem d_X_at_16 : decode b_X_at 16 = .ok (.iconst 0, 1) := by decide +kernel
theorem d_X_at_17 : decode b_X_at 17 = .ok (.ireturn, 1) := by decide +kernel
