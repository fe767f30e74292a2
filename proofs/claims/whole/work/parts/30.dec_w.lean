theorem d_La_cell_0 : decode b_La_cell 0 = .ok (.iload_n 1, 1) := by decide +kernel
theorem d_La_cell_1 : decode b_La_cell 1 = .ok (.aload_n 0, 1) := by decide +kernel
theorem d_La_cell_2 : decode b_La_cell 2 = .ok (.arraylength, 1) := by decide +kernel
theorem d_La_cell_3 : decode b_La_cell 3 = .ok (.if_icmp .ge 9, 3) := by decide +kernel
theorem d_La_cell_6 : decode b_La_cell 6 = .ok (.aload_n 0, 1) := by decide +kernel
theorem d_La_cell_7 : decode b_La_cell 7 = .ok (.iload_n 1, 1) := by decide +kernel
theorem d_La_cell_8 : decode b_La_cell 8 = .ok (.iaload, 1) := by decide +kernel
theorem d_La_cell_9 : decode b_La_cell 9 = .ok (.goto 4, 3) := by decide +kernel
theorem d_La_cell_12 : decode b_La_cell 12 = .ok (.iconst 0, 1) := by decide +kernel
theorem d_La_cell_13 : decode b_La_cell 13 = .ok (.ireturn, 1) := by decide +kernel
theorem d_La_encode_0 : decode b_La_encode 0 = .ok (.aload_n 3, 1) := by decide +kernel
theorem d_La_encode_1 : decode b_La_encode 1 = .ok (.iconst 0, 1) := by decide +kernel
theorem d_La_encode_2 : decode b_La_encode 2 = .ok (.aload_n 0, 1) := by decide +kernel
theorem d_La_encode_3 : decode b_La_encode 3 = .ok (.iload_n 1, 1) := by decide +kernel
theorem d_La_encode_4 : decode b_La_encode 4 = .ok (.iload_n 2, 1) := by decide +kernel
theorem d_La_encode_5 : decode b_La_encode 5 = .ok (.invokevirtual 7, 3) := by decide +kernel
theorem d_La_encode_8 : decode b_La_encode 8 = .ok (.i2l, 1) := by decide +kernel
theorem d_La_encode_9 : decode b_La_encode 9 = .ok (.lastore, 1) := by decide +kernel
theorem d_La_encode_10 : decode b_La_encode 10 = .ok (.goto 15, 3) := by decide +kernel
theorem d_La_encode_13 : decode b_La_encode 13 = .ok (.astore 4, 2) := by decide +kernel
theorem d_La_encode_15 : decode b_La_encode 15 = .ok (.iconst 1, 1) := by decide +kernel
theorem d_La_encode_16 : decode b_La_encode 16 = .ok (.ireturn, 1) := by decide +kernel
theorem d_La_encode_17 : decode b_La_encode 17 = .ok (.astore 4, 2) := by decide +kernel
theorem d_La_encode_19 : decode b_La_encode 19 = .ok (.iconst 2, 1) := by decide +kernel
theorem d_La_encode_20 : decode b_La_encode 20 = .ok (.ireturn, 1) := by decide +kernel
theorem d_La_encode_21 : decode b_La_encode 21 = .ok (.astore 4, 2) := by decide +kernel
theorem d_La_encode_23 : decode b_La_encode 23 = .ok (.iconst 3, 1) := by decide +kernel
theorem d_La_encode_24 : decode b_La_encode 24 = .ok (.ireturn, 1) := by decide +kernel
theorem d_La_encode_25 : decode b_La_encode 25 = .ok (.iconst 0, 1) := by decide +kernel
theorem d_La_encode_26 : decode b_La_encode 26 = .ok (.ireturn, 1) := by decide +kernel
theorem d_La_finish_0 : decode b_La_finish 0 = .ok (.aload_n 1, 1) := by decide +kernel
theorem d_La_finish_1 : decode b_La_finish 1 = .ok (.iconst 0, 1) := by decide +kernel
theorem d_La_finish_2 : decode b_La_finish 2 = .ok (.aload_n 0, 1) := by decide +kernel
theorem d_La_finish_3 : decode b_La_finish 3 = .ok (.invokevirtual 19, 3) := by decide +kernel
theorem d_La_finish_6 : decode b_La_finish 6 = .ok (.i2l, 1) := by decide +kernel
theorem d_La_finish_7 : decode b_La_finish 7 = .ok (.lastore, 1) := by decide +kernel
theorem d_La_finish_8 : decode b_La_finish 8 = .ok (.goto 6, 3) := by decide +kernel
theorem d_La_finish_11 : decode b_La_finish 11 = .ok (.astore_n 2, 1) := by decide +kernel
theorem d_La_finish_12 : decode b_La_finish 12 = .ok (.iconst 1, 1) := by decide +kernel
theorem d_La_finish_13 : decode b_La_finish 13 = .ok (.ireturn, 1) := by decide +kernel
theorem d_La_finish_14 : decode b_La_finish 14 = .ok (.iconst 0, 1) := by decide +kernel
theorem d_La_finish_15 : decode b_La_finish 15 = .ok (.ireturn, 1) := by decide +kernel
theorem d_La_byteAt_0 : decode b_La_byteAt 0 = .ok (.aload_n 2, 1) := by decide +kernel
theorem d_La_byteAt_1 : decode b_La_byteAt 1 = .ok (.iconst 0, 1) := by decide +kernel
theorem d_La_byteAt_2 : decode b_La_byteAt 2 = .ok (.aload_n 0, 1) := by decide +kernel
theorem d_La_byteAt_3 : decode b_La_byteAt 3 = .ok (.iload_n 1, 1) := by decide +kernel
theorem d_La_byteAt_4 : decode b_La_byteAt 4 = .ok (.invokevirtual 23, 3) := by decide +kernel
theorem d_La_byteAt_7 : decode b_La_byteAt 7 = .ok (.i2l, 1) := by decide +kernel
theorem d_La_byteAt_8 : decode b_La_byteAt 8 = .ok (.lastore, 1) := by decide +kernel
theorem d_La_byteAt_9 : decode b_La_byteAt 9 = .ok (.goto 6, 3) := by decide +kernel
theorem d_La_byteAt_12 : decode b_La_byteAt 12 = .ok (.astore_n 3, 1) := by decide +kernel
theorem d_La_byteAt_13 : decode b_La_byteAt 13 = .ok (.iconst 1, 1) := by decide +kernel
theorem d_La_byteAt_14 : decode b_La_byteAt 14 = .ok (.ireturn, 1) := by decide +kernel
theorem d_La_byteAt_15 : decode b_La_byteAt 15 = .ok (.iconst 0, 1) := by decide +kernel
theorem d_La_byteAt_16 : decode b_La_byteAt 16 = .ok (.ireturn, 1) := by decide +kernel
theorem d_La_feed_0 : decode b_La_feed 0 = .ok (.aload_n 2, 1) := by decide +kernel
theorem d_La_feed_1 : decode b_La_feed 1 = .ok (.iconst 0, 1) := by decide +kernel
theorem d_La_feed_2 : decode b_La_feed 2 = .ok (.aload_n 0, 1) := by decide +kernel
theorem d_La_feed_3 : decode b_La_feed 3 = .ok (.iload_n 1, 1) := by decide +kernel
theorem d_La_feed_4 : decode b_La_feed 4 = .ok (.invokevirtual 27, 3) := by decide +kernel
theorem d_La_feed_7 : decode b_La_feed 7 = .ok (.ifCond .eq 7, 3) := by decide +kernel
theorem d_La_feed_10 : decode b_La_feed 10 = .ok (.lconst 1, 1) := by decide +kernel
theorem d_La_feed_11 : decode b_La_feed 11 = .ok (.goto 4, 3) := by decide +kernel
theorem d_La_feed_14 : decode b_La_feed 14 = .ok (.lconst 0, 1) := by decide +kernel
theorem d_La_feed_15 : decode b_La_feed 15 = .ok (.lastore, 1) := by decide +kernel
theorem d_La_feed_16 : decode b_La_feed 16 = .ok (.goto 9, 3) := by decide +kernel
theorem d_La_feed_19 : decode b_La_feed 19 = .ok (.astore_n 3, 1) := by decide +kernel
theorem d_La_feed_20 : decode b_La_feed 20 = .ok (.iconst 1, 1) := by decide +kernel
theorem d_La_feed_21 : decode b_La_feed 21 = .ok (.ireturn, 1) := by decide +kernel
theorem d_La_feed_22 : decode b_La_feed 22 = .ok (.astore_n 3, 1) := by decide +kernel
theorem d_La_feed_23 : decode b_La_feed 23 = .ok (.iconst 2, 1) := by decide +kernel
theorem d_La_feed_24 : decode b_La_feed 24 = .ok (.ireturn, 1) := by decide +kernel
theorem d_La_feed_25 : decode b_La_feed 25 = .ok (.iconst 0, 1) := by decide +kernel
theorem d_La_feed_26 : decode b_La_feed 26 = .ok (.ireturn, 1) := by decide +kernel
theorem d_La_decode_0 : decode b_La_decode 0 = .ok (.aload_n 2, 1) := by decide +kernel
theorem d_La_decode_1 : decode b_La_decode 1 = .ok (.iconst 0, 1) := by decide +kernel
theorem d_La_decode_2 : decode b_La_decode 2 = .ok (.aload_n 0, 1) := by decide +kernel
theorem d_La_decode_3 : decode b_La_decode 3 = .ok (.iload_n 1, 1) := by decide +kernel
theorem d_La_decode_4 : decode b_La_decode 4 = .ok (.invokevirtual 31, 3) := by decide +kernel
theorem d_La_decode_7 : decode b_La_decode 7 = .ok (.i2l, 1) := by decide +kernel
theorem d_La_decode_8 : decode b_La_decode 8 = .ok (.lastore, 1) := by decide +kernel
theorem d_La_decode_9 : decode b_La_decode 9 = .ok (.goto 9, 3) := by decide +kernel
theorem d_La_decode_12 : decode b_La_decode 12 = .ok (.astore_n 3, 1) := by decide +kernel
theorem d_La_decode_13 : decode b_La_decode 13 = .ok (.iconst 1, 1) := by decide +kernel
theorem d_La_decode_14 : decode b_La_decode 14 = .ok (.ireturn, 1) := by decide +kernel
theorem d_La_decode_15 : decode b_La_decode 15 = .ok (.astore_n 3, 1) := by decide +kernel
theorem d_La_decode_16 : decode b_La_decode 16 = .ok (.iconst 2, 1) := by decide +kernel
theorem d_La_decode_17 : decode b_La_decode 17 = .ok (.ireturn, 1) := by decide +kernel
theorem d_La_decode_18 : decode b_La_decode 18 = .ok (.iconst 0, 1) := by decide +kernel
theorem d_La_decode_19 : decode b_La_decode 19 = .ok (.ireturn, 1) := by decide +kernel
theorem d_La_state_0 : decode b_La_state 0 = .ok (.aload_n 3, 1) := by decide +kernel
theorem d_La_state_1 : decode b_La_state 1 = .ok (.iconst 0, 1) := by decide +kernel
theorem d_La_state_2 : decode b_La_state 2 = .ok (.aload_n 0, 1) := by decide +kernel
theorem d_La_state_3 : decode b_La_state 3 = .ok (.iload_n 1, 1) := by decide +kernel
theorem d_La_state_4 : decode b_La_state 4 = .ok (.iload_n 2, 1) := by decide +kernel
theorem d_La_state_5 : decode b_La_state 5 = .ok (.invokevirtual 34, 3) := by decide +kernel
theorem d_La_state_8 : decode b_La_state 8 = .ok (.i2l, 1) := by decide +kernel
theorem d_La_state_9 : decode b_La_state 9 = .ok (.lastore, 1) := by decide +kernel
theorem d_La_state_10 : decode b_La_state 10 = .ok (.goto 7, 3) := by decide +kernel
theorem d_La_state_13 : decode b_La_state 13 = .ok (.astore 4, 2) := by decide +kernel
theorem d_La_state_15 : decode b_La_state 15 = .ok (.iconst 1, 1) := by decide +kernel
theorem d_La_state_16 : decode b_La_state 16 = .ok (.ireturn, 1) := by decide +kernel
theorem d_La_state_17 : decode b_La_state 17 = .ok (.iconst 0, 1) := by decide +kernel
theorem d_La_state_18 : decode b_La_state 18 = .ok (.ireturn, 1) := by decide +kernel
theorem d_La_whole_0 : decode b_La_whole 0 = .ok (.aload_n 3, 1) := by decide +kernel
theorem d_La_whole_1 : decode b_La_whole 1 = .ok (.iconst 0, 1) := by decide +kernel
theorem d_La_whole_2 : decode b_La_whole 2 = .ok (.aload_n 0, 1) := by decide +kernel
theorem d_La_whole_3 : decode b_La_whole 3 = .ok (.iload_n 1, 1) := by decide +kernel
theorem d_La_whole_4 : decode b_La_whole 4 = .ok (.iload_n 2, 1) := by decide +kernel
theorem d_La_whole_5 : decode b_La_whole 5 = .ok (.invokevirtual 37, 3) := by decide +kernel
theorem d_La_whole_8 : decode b_La_whole 8 = .ok (.i2l, 1) := by decide +kernel
theorem d_La_whole_9 : decode b_La_whole 9 = .ok (.lastore, 1) := by decide +kernel
theorem d_La_whole_10 : decode b_La_whole 10 = .ok (.goto 11, 3) := by decide +kernel
theorem d_La_whole_13 : decode b_La_whole 13 = .ok (.astore 4, 2) := by decide +kernel
theorem d_La_whole_15 : decode b_La_whole 15 = .ok (.iconst 1, 1) := by decide +kernel
theorem d_La_whole_16 : decode b_La_whole 16 = .ok (.ireturn, 1) := by decide +kernel
theorem d_La_whole_17 : decode b_La_whole 17 = .ok (.astore 4, 2) := by decide +kernel
theorem d_La_whole_19 : decode b_La_whole 19 = .ok (.iconst 2, 1) := by decide +kernel
theorem d_La_whole_20 : decode b_La_whole 20 = .ok (.ireturn, 1) := by decide +kernel
theorem d_La_whole_21 : decode b_La_whole 21 = .ok (.iconst 0, 1) := by decide +kernel
theorem d_La_whole_22 : decode b_La_whole 22 = .ok (.ireturn, 1) := by decide +kernel
theorem d_La_readWhole_0 : decode b_La_readWhole 0 = .ok (.aload_n 2, 1) := by decide +kernel
theorem d_La_readWhole_1 : decode b_La_readWhole 1 = .ok (.iconst 0, 1) := by decide +kernel
theorem d_La_readWhole_2 : decode b_La_readWhole 2 = .ok (.aload_n 0, 1) := by decide +kernel
theorem d_La_readWhole_3 : decode b_La_readWhole 3 = .ok (.iload_n 1, 1) := by decide +kernel
theorem d_La_readWhole_4 : decode b_La_readWhole 4 = .ok (.invokevirtual 40, 3) := by decide +kernel
theorem d_La_readWhole_7 : decode b_La_readWhole 7 = .ok (.i2l, 1) := by decide +kernel
theorem d_La_readWhole_8 : decode b_La_readWhole 8 = .ok (.lastore, 1) := by decide +kernel
theorem d_La_readWhole_9 : decode b_La_readWhole 9 = .ok (.goto 9, 3) := by decide +kernel
theorem d_La_readWhole_12 : decode b_La_readWhole 12 = .ok (.astore_n 3, 1) := by decide +kernel
theorem d_La_readWhole_13 : decode b_La_readWhole 13 = .ok (.iconst 1, 1) := by decide +kernel
theorem d_La_readWhole_14 : decode b_La_readWhole 14 = .ok (.ireturn, 1) := by decide +kernel
theorem d_La_readWhole_15 : decode b_La_readWhole 15 = .ok (.astore_n 3, 1) := by decide +kernel
theorem d_La_readWhole_16 : decode b_La_readWhole 16 = .ok (.iconst 2, 1) := by decide +kernel
theorem d_La_readWhole_17 : decode b_La_readWhole 17 = .ok (.ireturn, 1) := by decide +kernel
theorem d_La_readWhole_18 : decode b_La_readWhole 18 = .ok (.iconst 0, 1) := by decide +kernel
theorem d_La_readWhole_19 : decode b_La_readWhole 19 = .ok (.ireturn, 1) := by decide +kernel
theorem d_La_save_0 : decode b_La_save 0 = .ok (.aload_n 1, 1) := by decide +kernel
theorem d_La_save_1 : decode b_La_save 1 = .ok (.iconst 0, 1) := by decide +kernel
theorem d_La_save_2 : decode b_La_save 2 = .ok (.aload_n 0, 1) := by decide +kernel
theorem d_La_save_3 : decode b_La_save 3 = .ok (.invokevirtual 43, 3) := by decide +kernel
theorem d_La_save_6 : decode b_La_save 6 = .ok (.i2l, 1) := by decide +kernel
theorem d_La_save_7 : decode b_La_save 7 = .ok (.lastore, 1) := by decide +kernel
theorem d_La_save_8 : decode b_La_save 8 = .ok (.goto 6, 3) := by decide +kernel
theorem d_La_save_11 : decode b_La_save 11 = .ok (.astore_n 2, 1) := by decide +kernel
theorem d_La_save_12 : decode b_La_save 12 = .ok (.iconst 1, 1) := by decide +kernel
theorem d_La_save_13 : decode b_La_save 13 = .ok (.ireturn, 1) := by decide +kernel
theorem d_La_save_14 : decode b_La_save 14 = .ok (.iconst 0, 1) := by decide +kernel
theorem d_La_save_15 : decode b_La_save 15 = .ok (.ireturn, 1) := by decide +kernel
