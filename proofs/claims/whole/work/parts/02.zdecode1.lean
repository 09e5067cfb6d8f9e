theorem dX5_placeBy_6 : decode cX5_placeBy 6 = .ok (.iload_n 0, 1) := by decide +kernel
theorem dX5_placeBy_7 : decode cX5_placeBy 7 = .ok (.bipush 6, 2) := by decide +kernel
theorem dX5_placeBy_9 : decode cX5_placeBy 9 = .ok (.isub, 1) := by decide +kernel
theorem dX5_placeBy_10 : decode cX5_placeBy 10 = .ok (.goto 9, 3) := by decide +kernel
theorem dX5_placeBy_13 : decode cX5_placeBy 13 = .ok (.iload_n 0, 1) := by decide +kernel
theorem dX5_placeBy_14 : decode cX5_placeBy 14 = .ok (.bipush 6, 2) := by decide +kernel
theorem dX5_placeBy_16 : decode cX5_placeBy 16 = .ok (.isub, 1) := by decide +kernel
theorem dX5_placeBy_17 : decode cX5_placeBy 17 = .ok (.iconst 1, 1) := by decide +kernel
theorem dX5_placeBy_18 : decode cX5_placeBy 18 = .ok (.iadd, 1) := by decide +kernel
theorem dX5_placeBy_19 : decode cX5_placeBy 19 = .ok (.ireturn, 1) := by decide +kernel
theorem dX5_record_0 : decode cX5_record 0 = .ok (.aload_n 0, 1) := by decide +kernel
theorem dX5_record_1 : decode cX5_record 1 = .ok (.getfield 67, 3) := by decide +kernel
theorem dX5_record_4 : decode cX5_record 4 = .ok (.iconst 4, 1) := by decide +kernel
theorem dX5_record_5 : decode cX5_record 5 = .ok (.if_icmp .ne 44, 3) := by decide +kernel
theorem dX5_record_8 : decode cX5_record 8 = .ok (.iconst 0, 1) := by decide +kernel
theorem dX5_record_9 : decode cX5_record 9 = .ok (.istore_n 1, 1) := by decide +kernel
theorem dX5_record_10 : decode cX5_record 10 = .ok (.iload_n 1, 1) := by decide +kernel
theorem dX5_record_11 : decode cX5_record 11 = .ok (.sipush 729, 3) := by decide +kernel
theorem dX5_record_14 : decode cX5_record 14 = .ok (.if_icmp .ge 25, 3) := by decide +kernel
theorem dX5_record_17 : decode cX5_record 17 = .ok (.aload_n 0, 1) := by decide +kernel
theorem dX5_record_18 : decode cX5_record 18 = .ok (.getfield 13, 3) := by decide +kernel
theorem dX5_record_21 : decode cX5_record 21 = .ok (.iload_n 1, 1) := by decide +kernel
theorem dX5_record_22 : decode cX5_record 22 = .ok (.aload_n 0, 1) := by decide +kernel
theorem dX5_record_23 : decode cX5_record 23 = .ok (.getfield 13, 3) := by decide +kernel
theorem dX5_record_26 : decode cX5_record 26 = .ok (.iload_n 1, 1) := by decide +kernel
theorem dX5_record_27 : decode cX5_record 27 = .ok (.sipush 243, 3) := by decide +kernel
theorem dX5_record_30 : decode cX5_record 30 = .ok (.iadd, 1) := by decide +kernel
theorem dX5_record_31 : decode cX5_record 31 = .ok (.iaload, 1) := by decide +kernel
theorem dX5_record_32 : decode cX5_record 32 = .ok (.iastore, 1) := by decide +kernel
theorem dX5_record_33 : decode cX5_record 33 = .ok (.iinc 1 1, 3) := by decide +kernel
theorem dX5_record_36 : decode cX5_record 36 = .ok (.goto (-26), 3) := by decide +kernel
theorem dX5_record_39 : decode cX5_record 39 = .ok (.aload_n 0, 1) := by decide +kernel
theorem dX5_record_40 : decode cX5_record 40 = .ok (.dup, 1) := by decide +kernel
theorem dX5_record_41 : decode cX5_record 41 = .ok (.getfield 67, 3) := by decide +kernel
theorem dX5_record_44 : decode cX5_record 44 = .ok (.iconst 1, 1) := by decide +kernel
theorem dX5_record_45 : decode cX5_record 45 = .ok (.isub, 1) := by decide +kernel
theorem dX5_record_46 : decode cX5_record 46 = .ok (.putfield 67, 3) := by decide +kernel
theorem dX5_record_49 : decode cX5_record 49 = .ok (.iconst 0, 1) := by decide +kernel
theorem dX5_record_50 : decode cX5_record 50 = .ok (.istore_n 1, 1) := by decide +kernel
theorem dX5_record_51 : decode cX5_record 51 = .ok (.iload_n 1, 1) := by decide +kernel
theorem dX5_record_52 : decode cX5_record 52 = .ok (.sipush 243, 3) := by decide +kernel
theorem dX5_record_55 : decode cX5_record 55 = .ok (.if_icmp .ge 30, 3) := by decide +kernel
theorem dX5_record_58 : decode cX5_record 58 = .ok (.aload_n 0, 1) := by decide +kernel
theorem dX5_record_59 : decode cX5_record 59 = .ok (.getfield 13, 3) := by decide +kernel
theorem dX5_record_62 : decode cX5_record 62 = .ok (.aload_n 0, 1) := by decide +kernel
theorem dX5_record_63 : decode cX5_record 63 = .ok (.getfield 67, 3) := by decide +kernel
theorem dX5_record_66 : decode cX5_record 66 = .ok (.sipush 243, 3) := by decide +kernel
theorem dX5_record_69 : decode cX5_record 69 = .ok (.imul, 1) := by decide +kernel
theorem dX5_record_70 : decode cX5_record 70 = .ok (.iload_n 1, 1) := by decide +kernel
theorem dX5_record_71 : decode cX5_record 71 = .ok (.iadd, 1) := by decide +kernel
theorem dX5_record_72 : decode cX5_record 72 = .ok (.aload_n 0, 1) := by decide +kernel
theorem dX5_record_73 : decode cX5_record 73 = .ok (.getfield 7, 3) := by decide +kernel
theorem dX5_record_76 : decode cX5_record 76 = .ok (.iload_n 1, 1) := by decide +kernel
theorem dX5_record_77 : decode cX5_record 77 = .ok (.iaload, 1) := by decide +kernel
theorem dX5_record_78 : decode cX5_record 78 = .ok (.iastore, 1) := by decide +kernel
theorem dX5_record_79 : decode cX5_record 79 = .ok (.iinc 1 1, 3) := by decide +kernel
theorem dX5_record_82 : decode cX5_record 82 = .ok (.goto (-31), 3) := by decide +kernel
theorem dX5_record_85 : decode cX5_record 85 = .ok (.aload_n 0, 1) := by decide +kernel
theorem dX5_record_86 : decode cX5_record 86 = .ok (.dup, 1) := by decide +kernel
theorem dX5_record_87 : decode cX5_record 87 = .ok (.getfield 67, 3) := by decide +kernel
theorem dX5_record_90 : decode cX5_record 90 = .ok (.iconst 1, 1) := by decide +kernel
theorem dX5_record_91 : decode cX5_record 91 = .ok (.iadd, 1) := by decide +kernel
theorem dX5_record_92 : decode cX5_record 92 = .ok (.putfield 67, 3) := by decide +kernel
theorem dX5_record_95 : decode cX5_record 95 = .ok (.return_, 1) := by decide +kernel
theorem dX5_undo_0 : decode cX5_undo 0 = .ok (.aload_n 0, 1) := by decide +kernel
theorem dX5_undo_1 : decode cX5_undo 1 = .ok (.getfield 67, 3) := by decide +kernel
theorem dX5_undo_4 : decode cX5_undo 4 = .ok (.ifCond .ne 7, 3) := by decide +kernel
theorem dX5_undo_7 : decode cX5_undo 7 = .ok (.sipush (-10005), 3) := by decide +kernel
theorem dX5_undo_10 : decode cX5_undo 10 = .ok (.ireturn, 1) := by decide +kernel
theorem dX5_undo_11 : decode cX5_undo 11 = .ok (.aload_n 0, 1) := by decide +kernel
theorem dX5_undo_12 : decode cX5_undo 12 = .ok (.dup, 1) := by decide +kernel
theorem dX5_undo_13 : decode cX5_undo 13 = .ok (.getfield 67, 3) := by decide +kernel
theorem dX5_undo_16 : decode cX5_undo 16 = .ok (.iconst 1, 1) := by decide +kernel
theorem dX5_undo_17 : decode cX5_undo 17 = .ok (.isub, 1) := by decide +kernel
theorem dX5_undo_18 : decode cX5_undo 18 = .ok (.putfield 67, 3) := by decide +kernel
theorem dX5_undo_21 : decode cX5_undo 21 = .ok (.iconst 0, 1) := by decide +kernel
theorem dX5_undo_22 : decode cX5_undo 22 = .ok (.istore_n 1, 1) := by decide +kernel
theorem dX5_undo_23 : decode cX5_undo 23 = .ok (.iload_n 1, 1) := by decide +kernel
theorem dX5_undo_24 : decode cX5_undo 24 = .ok (.sipush 243, 3) := by decide +kernel
theorem dX5_undo_27 : decode cX5_undo 27 = .ok (.if_icmp .ge 30, 3) := by decide +kernel
theorem dX5_undo_30 : decode cX5_undo 30 = .ok (.aload_n 0, 1) := by decide +kernel
theorem dX5_undo_31 : decode cX5_undo 31 = .ok (.getfield 7, 3) := by decide +kernel
theorem dX5_undo_34 : decode cX5_undo 34 = .ok (.iload_n 1, 1) := by decide +kernel
theorem dX5_undo_35 : decode cX5_undo 35 = .ok (.aload_n 0, 1) := by decide +kernel
theorem dX5_undo_36 : decode cX5_undo 36 = .ok (.getfield 13, 3) := by decide +kernel
theorem dX5_undo_39 : decode cX5_undo 39 = .ok (.aload_n 0, 1) := by decide +kernel
theorem dX5_undo_40 : decode cX5_undo 40 = .ok (.getfield 67, 3) := by decide +kernel
theorem dX5_undo_43 : decode cX5_undo 43 = .ok (.sipush 243, 3) := by decide +kernel
theorem dX5_undo_46 : decode cX5_undo 46 = .ok (.imul, 1) := by decide +kernel
theorem dX5_undo_47 : decode cX5_undo 47 = .ok (.iload_n 1, 1) := by decide +kernel
theorem dX5_undo_48 : decode cX5_undo 48 = .ok (.iadd, 1) := by decide +kernel
theorem dX5_undo_49 : decode cX5_undo 49 = .ok (.iaload, 1) := by decide +kernel
theorem dX5_undo_50 : decode cX5_undo 50 = .ok (.iastore, 1) := by decide +kernel
theorem dX5_undo_51 : decode cX5_undo 51 = .ok (.iinc 1 1, 3) := by decide +kernel
theorem dX5_undo_54 : decode cX5_undo 54 = .ok (.goto (-31), 3) := by decide +kernel
theorem dX5_undo_57 : decode cX5_undo 57 = .ok (.aload_n 0, 1) := by decide +kernel
theorem dX5_undo_58 : decode cX5_undo 58 = .ok (.getfield 67, 3) := by decide +kernel
theorem dX5_undo_61 : decode cX5_undo 61 = .ok (.ireturn, 1) := by decide +kernel
theorem dX5_tokens_0 : decode cX5_tokens 0 = .ok (.iconst 0, 1) := by decide +kernel
theorem dX5_tokens_1 : decode cX5_tokens 1 = .ok (.istore_n 1, 1) := by decide +kernel
theorem dX5_tokens_2 : decode cX5_tokens 2 = .ok (.iconst 0, 1) := by decide +kernel
theorem dX5_tokens_3 : decode cX5_tokens 3 = .ok (.istore_n 2, 1) := by decide +kernel
theorem dX5_tokens_4 : decode cX5_tokens 4 = .ok (.iload_n 2, 1) := by decide +kernel
theorem dX5_tokens_5 : decode cX5_tokens 5 = .ok (.bipush 12, 2) := by decide +kernel
theorem dX5_tokens_7 : decode cX5_tokens 7 = .ok (.if_icmp .ge 20, 3) := by decide +kernel
theorem dX5_tokens_10 : decode cX5_tokens 10 = .ok (.iload_n 1, 1) := by decide +kernel
theorem dX5_tokens_11 : decode cX5_tokens 11 = .ok (.aload_n 0, 1) := by decide +kernel
theorem dX5_tokens_12 : decode cX5_tokens 12 = .ok (.iload_n 2, 1) := by decide +kernel
theorem dX5_tokens_13 : decode cX5_tokens 13 = .ok (.invokestatic 70, 3) := by decide +kernel
theorem dX5_tokens_16 : decode cX5_tokens 16 = .ok (.invokevirtual 64, 3) := by decide +kernel
theorem dX5_tokens_19 : decode cX5_tokens 19 = .ok (.iadd, 1) := by decide +kernel
theorem dX5_tokens_20 : decode cX5_tokens 20 = .ok (.istore_n 1, 1) := by decide +kernel
theorem dX5_tokens_21 : decode cX5_tokens 21 = .ok (.iinc 2 1, 3) := by decide +kernel
theorem dX5_tokens_24 : decode cX5_tokens 24 = .ok (.goto (-20), 3) := by decide +kernel
theorem dX5_tokens_27 : decode cX5_tokens 27 = .ok (.iload_n 1, 1) := by decide +kernel
theorem dX5_tokens_28 : decode cX5_tokens 28 = .ok (.ireturn, 1) := by decide +kernel
theorem dX5_keep_0 : decode cX5_keep 0 = .ok (.aload_n 0, 1) := by decide +kernel
theorem dX5_keep_1 : decode cX5_keep 1 = .ok (.iconst 1, 1) := by decide +kernel
theorem dX5_keep_2 : decode cX5_keep 2 = .ok (.putfield 73, 3) := by decide +kernel
theorem dX5_keep_5 : decode cX5_keep 5 = .ok (.iconst 0, 1) := by decide +kernel
theorem dX5_keep_6 : decode cX5_keep 6 = .ok (.istore_n 1, 1) := by decide +kernel
theorem dX5_keep_7 : decode cX5_keep 7 = .ok (.iload_n 1, 1) := by decide +kernel
theorem dX5_keep_8 : decode cX5_keep 8 = .ok (.sipush 243, 3) := by decide +kernel
theorem dX5_keep_11 : decode cX5_keep 11 = .ok (.if_icmp .ge 21, 3) := by decide +kernel
theorem dX5_keep_14 : decode cX5_keep 14 = .ok (.aload_n 0, 1) := by decide +kernel
theorem dX5_keep_15 : decode cX5_keep 15 = .ok (.getfield 16, 3) := by decide +kernel
theorem dX5_keep_18 : decode cX5_keep 18 = .ok (.iload_n 1, 1) := by decide +kernel
theorem dX5_keep_19 : decode cX5_keep 19 = .ok (.aload_n 0, 1) := by decide +kernel
theorem dX5_keep_20 : decode cX5_keep 20 = .ok (.getfield 7, 3) := by decide +kernel
theorem dX5_keep_23 : decode cX5_keep 23 = .ok (.iload_n 1, 1) := by decide +kernel
theorem dX5_keep_24 : decode cX5_keep 24 = .ok (.iaload, 1) := by decide +kernel
theorem dX5_keep_25 : decode cX5_keep 25 = .ok (.iastore, 1) := by decide +kernel
theorem dX5_keep_26 : decode cX5_keep 26 = .ok (.iinc 1 1, 3) := by decide +kernel
theorem dX5_keep_29 : decode cX5_keep 29 = .ok (.goto (-22), 3) := by decide +kernel
theorem dX5_keep_32 : decode cX5_keep 32 = .ok (.aload_n 0, 1) := by decide +kernel
theorem dX5_keep_33 : decode cX5_keep 33 = .ok (.invokevirtual 77, 3) := by decide +kernel
theorem dX5_keep_36 : decode cX5_keep 36 = .ok (.ireturn, 1) := by decide +kernel
theorem dX5_restore_0 : decode cX5_restore 0 = .ok (.aload_n 0, 1) := by decide +kernel
theorem dX5_restore_1 : decode cX5_restore 1 = .ok (.getfield 73, 3) := by decide +kernel
theorem dX5_restore_4 : decode cX5_restore 4 = .ok (.ifCond .ne 7, 3) := by decide +kernel
theorem dX5_restore_7 : decode cX5_restore 7 = .ok (.sipush (-10005), 3) := by decide +kernel
theorem dX5_restore_10 : decode cX5_restore 10 = .ok (.ireturn, 1) := by decide +kernel
theorem dX5_restore_11 : decode cX5_restore 11 = .ok (.aload_n 0, 1) := by decide +kernel
theorem dX5_restore_12 : decode cX5_restore 12 = .ok (.invokevirtual 81, 3) := by decide +kernel
theorem dX5_restore_15 : decode cX5_restore 15 = .ok (.iconst 0, 1) := by decide +kernel
theorem dX5_restore_16 : decode cX5_restore 16 = .ok (.istore_n 1, 1) := by decide +kernel
theorem dX5_restore_17 : decode cX5_restore 17 = .ok (.iload_n 1, 1) := by decide +kernel
theorem dX5_restore_18 : decode cX5_restore 18 = .ok (.sipush 243, 3) := by decide +kernel
theorem dX5_restore_21 : decode cX5_restore 21 = .ok (.if_icmp .ge 21, 3) := by decide +kernel
theorem dX5_restore_24 : decode cX5_restore 24 = .ok (.aload_n 0, 1) := by decide +kernel
theorem dX5_restore_25 : decode cX5_restore 25 = .ok (.getfield 7, 3) := by decide +kernel
theorem dX5_restore_28 : decode cX5_restore 28 = .ok (.iload_n 1, 1) := by decide +kernel
theorem dX5_restore_29 : decode cX5_restore 29 = .ok (.aload_n 0, 1) := by decide +kernel
theorem dX5_restore_30 : decode cX5_restore 30 = .ok (.getfield 16, 3) := by decide +kernel
theorem dX5_restore_33 : decode cX5_restore 33 = .ok (.iload_n 1, 1) := by decide +kernel
theorem dX5_restore_34 : decode cX5_restore 34 = .ok (.iaload, 1) := by decide +kernel
theorem dX5_restore_35 : decode cX5_restore 35 = .ok (.iastore, 1) := by decide +kernel
theorem dX5_restore_36 : decode cX5_restore 36 = .ok (.iinc 1 1, 3) := by decide +kernel
theorem dX5_restore_39 : decode cX5_restore 39 = .ok (.goto (-22), 3) := by decide +kernel
theorem dX5_restore_42 : decode cX5_restore 42 = .ok (.aload_n 0, 1) := by decide +kernel
theorem dX5_restore_43 : decode cX5_restore 43 = .ok (.invokevirtual 77, 3) := by decide +kernel
theorem dX5_restore_46 : decode cX5_restore 46 = .ok (.ireturn, 1) := by decide +kernel
theorem dX5_hasTipped_0 : decode cX5_hasTipped 0 = .ok (.aload_n 0, 1) := by decide +kernel
theorem dX5_hasTipped_1 : decode cX5_hasTipped 1 = .ok (.getfield 7, 3) := by decide +kernel
theorem dX5_hasTipped_4 : decode cX5_hasTipped 4 = .ok (.iconst 5, 1) := by decide +kernel
theorem dX5_hasTipped_5 : decode cX5_hasTipped 5 = .ok (.iaload, 1) := by decide +kernel
theorem dX5_hasTipped_6 : decode cX5_hasTipped 6 = .ok (.invokestatic 84, 3) := by decide +kernel
theorem dX5_hasTipped_9 : decode cX5_hasTipped 9 = .ok (.aload_n 0, 1) := by decide +kernel
theorem dX5_hasTipped_10 : decode cX5_hasTipped 10 = .ok (.getfield 7, 3) := by decide +kernel
theorem dX5_hasTipped_13 : decode cX5_hasTipped 13 = .ok (.iconst 1, 1) := by decide +kernel
theorem dX5_hasTipped_14 : decode cX5_hasTipped 14 = .ok (.iaload, 1) := by decide +kernel
theorem dX5_hasTipped_15 : decode cX5_hasTipped 15 = .ok (.if_icmp .le 7, 3) := by decide +kernel
theorem dX5_hasTipped_18 : decode cX5_hasTipped 18 = .ok (.iconst 1, 1) := by decide +kernel
theorem dX5_hasTipped_19 : decode cX5_hasTipped 19 = .ok (.goto 4, 3) := by decide +kernel
theorem dX5_hasTipped_22 : decode cX5_hasTipped 22 = .ok (.iconst 0, 1) := by decide +kernel
theorem dX5_hasTipped_23 : decode cX5_hasTipped 23 = .ok (.ireturn, 1) := by decide +kernel
theorem dX5_isOver_0 : decode cX5_isOver 0 = .ok (.aload_n 0, 1) := by decide +kernel
theorem dX5_isOver_1 : decode cX5_isOver 1 = .ok (.invokevirtual 87, 3) := by decide +kernel
theorem dX5_isOver_4 : decode cX5_isOver 4 = .ok (.ifCond .ne 17, 3) := by decide +kernel
theorem dX5_isOver_7 : decode cX5_isOver 7 = .ok (.aload_n 0, 1) := by decide +kernel
theorem dX5_isOver_8 : decode cX5_isOver 8 = .ok (.iconst 0, 1) := by decide +kernel
theorem dX5_isOver_9 : decode cX5_isOver 9 = .ok (.invokevirtual 91, 3) := by decide +kernel
theorem dX5_isOver_12 : decode cX5_isOver 12 = .ok (.aload_n 0, 1) := by decide +kernel
theorem dX5_isOver_13 : decode cX5_isOver 13 = .ok (.iconst 1, 1) := by decide +kernel
theorem dX5_isOver_14 : decode cX5_isOver 14 = .ok (.invokevirtual 91, 3) := by decide +kernel
theorem dX5_isOver_17 : decode cX5_isOver 17 = .ok (.iadd, 1) := by decide +kernel
theorem dX5_isOver_18 : decode cX5_isOver 18 = .ok (.ifCond .ne 7, 3) := by decide +kernel
theorem dX5_isOver_21 : decode cX5_isOver 21 = .ok (.iconst 1, 1) := by decide +kernel
theorem dX5_isOver_22 : decode cX5_isOver 22 = .ok (.goto 4, 3) := by decide +kernel
theorem dX5_isOver_25 : decode cX5_isOver 25 = .ok (.iconst 0, 1) := by decide +kernel
theorem dX5_isOver_26 : decode cX5_isOver 26 = .ok (.ireturn, 1) := by decide +kernel
theorem dX5_winner_0 : decode cX5_winner 0 = .ok (.aload_n 0, 1) := by decide +kernel
theorem dX5_winner_1 : decode cX5_winner 1 = .ok (.getfield 7, 3) := by decide +kernel
theorem dX5_winner_4 : decode cX5_winner 4 = .ok (.iconst 3, 1) := by decide +kernel
theorem dX5_winner_5 : decode cX5_winner 5 = .ok (.iaload, 1) := by decide +kernel
theorem dX5_winner_6 : decode cX5_winner 6 = .ok (.iconst 1, 1) := by decide +kernel
theorem dX5_winner_7 : decode cX5_winner 7 = .ok (.if_icmp .ne 13, 3) := by decide +kernel
theorem dX5_winner_10 : decode cX5_winner 10 = .ok (.aload_n 0, 1) := by decide +kernel
theorem dX5_winner_11 : decode cX5_winner 11 = .ok (.getfield 7, 3) := by decide +kernel
theorem dX5_winner_14 : decode cX5_winner 14 = .ok (.bipush 10, 2) := by decide +kernel
theorem dX5_winner_16 : decode cX5_winner 16 = .ok (.iaload, 1) := by decide +kernel
theorem dX5_winner_17 : decode cX5_winner 17 = .ok (.goto 12, 3) := by decide +kernel
theorem dX5_winner_20 : decode cX5_winner 20 = .ok (.iconst 1, 1) := by decide +kernel
theorem dX5_winner_21 : decode cX5_winner 21 = .ok (.aload_n 0, 1) := by decide +kernel
theorem dX5_winner_22 : decode cX5_winner 22 = .ok (.getfield 7, 3) := by decide +kernel
theorem dX5_winner_25 : decode cX5_winner 25 = .ok (.bipush 10, 2) := by decide +kernel
theorem dX5_winner_27 : decode cX5_winner 27 = .ok (.iaload, 1) := by decide +kernel
theorem dX5_winner_28 : decode cX5_winner 28 = .ok (.isub, 1) := by decide +kernel
theorem dX5_winner_29 : decode cX5_winner 29 = .ok (.ireturn, 1) := by decide +kernel
theorem dX5_result_0 : decode cX5_result 0 = .ok (.aload_n 0, 1) := by decide +kernel
theorem dX5_result_1 : decode cX5_result 1 = .ok (.invokevirtual 94, 3) := by decide +kernel
theorem dX5_result_4 : decode cX5_result 4 = .ok (.ifCond .ne 7, 3) := by decide +kernel
theorem dX5_result_7 : decode cX5_result 7 = .ok (.iconst 0, 1) := by decide +kernel
theorem dX5_result_8 : decode cX5_result 8 = .ok (.goto 20, 3) := by decide +kernel
theorem dX5_result_11 : decode cX5_result 11 = .ok (.aload_n 0, 1) := by decide +kernel
theorem dX5_result_12 : decode cX5_result 12 = .ok (.invokevirtual 87, 3) := by decide +kernel
theorem dX5_result_15 : decode cX5_result 15 = .ok (.ifCond .eq 12, 3) := by decide +kernel
theorem dX5_result_18 : decode cX5_result 18 = .ok (.aload_n 0, 1) := by decide +kernel
theorem dX5_result_19 : decode cX5_result 19 = .ok (.invokevirtual 97, 3) := by decide +kernel
theorem dX5_result_22 : decode cX5_result 22 = .ok (.iconst 1, 1) := by decide +kernel
theorem dX5_result_23 : decode cX5_result 23 = .ok (.iadd, 1) := by decide +kernel
theorem dX5_result_24 : decode cX5_result 24 = .ok (.goto 4, 3) := by decide +kernel
theorem dX5_result_27 : decode cX5_result 27 = .ok (.iconst 3, 1) := by decide +kernel
theorem dX5_result_28 : decode cX5_result 28 = .ok (.ireturn, 1) := by decide +kernel
theorem dX5_goal_0 : decode cX5_goal 0 = .ok (.iload_n 0, 1) := by decide +kernel
theorem dX5_goal_1 : decode cX5_goal 1 = .ok (.bipush 6, 2) := by decide +kernel
theorem dX5_goal_3 : decode cX5_goal 3 = .ok (.if_icmp .ge 5, 3) := by decide +kernel
theorem dX5_goal_6 : decode cX5_goal 6 = .ok (.iload_n 1, 1) := by decide +kernel
theorem dX5_goal_7 : decode cX5_goal 7 = .ok (.ireturn, 1) := by decide +kernel
theorem dX5_goal_8 : decode cX5_goal 8 = .ok (.iload_n 1, 1) := by decide +kernel
theorem dX5_goal_9 : decode cX5_goal 9 = .ok (.ifCond .ge 7, 3) := by decide +kernel
theorem dX5_goal_12 : decode cX5_goal 12 = .ok (.iconst (-1), 1) := by decide +kernel
theorem dX5_goal_13 : decode cX5_goal 13 = .ok (.goto 4, 3) := by decide +kernel
theorem dX5_goal_16 : decode cX5_goal 16 = .ok (.iconst 1, 1) := by decide +kernel
theorem dX5_goal_17 : decode cX5_goal 17 = .ok (.istore_n 2, 1) := by decide +kernel
theorem dX5_goal_18 : decode cX5_goal 18 = .ok (.iload_n 0, 1) := by decide +kernel
theorem dX5_goal_19 : decode cX5_goal 19 = .ok (.bipush 6, 2) := by decide +kernel
theorem dX5_goal_21 : decode cX5_goal 21 = .ok (.if_icmp .ne 19, 3) := by decide +kernel
theorem dX5_goal_24 : decode cX5_goal 24 = .ok (.iload_n 1, 1) := by decide +kernel
theorem dX5_goal_25 : decode cX5_goal 25 = .ok (.iload_n 2, 1) := by decide +kernel
theorem dX5_goal_26 : decode cX5_goal 26 = .ok (.if_icmp .ne 8, 3) := by decide +kernel
theorem dX5_goal_29 : decode cX5_goal 29 = .ok (.iload_n 2, 1) := by decide +kernel
theorem dX5_goal_30 : decode cX5_goal 30 = .ok (.ineg, 1) := by decide +kernel
theorem dX5_goal_31 : decode cX5_goal 31 = .ok (.goto 12, 3) := by decide +kernel
theorem dX5_goal_34 : decode cX5_goal 34 = .ok (.iload_n 1, 1) := by decide +kernel
theorem dX5_goal_35 : decode cX5_goal 35 = .ok (.iload_n 2, 1) := by decide +kernel
theorem dX5_goal_36 : decode cX5_goal 36 = .ok (.isub, 1) := by decide +kernel
theorem dX5_goal_37 : decode cX5_goal 37 = .ok (.goto 6, 3) := by decide +kernel
theorem dX5_goal_40 : decode cX5_goal 40 = .ok (.iload_n 1, 1) := by decide +kernel
theorem dX5_goal_41 : decode cX5_goal 41 = .ok (.iload_n 2, 1) := by decide +kernel
theorem dX5_goal_42 : decode cX5_goal 42 = .ok (.iadd, 1) := by decide +kernel
theorem dX5_goal_43 : decode cX5_goal 43 = .ok (.istore_n 3, 1) := by decide +kernel
theorem dX5_goal_44 : decode cX5_goal 44 = .ok (.iload_n 3, 1) := by decide +kernel
theorem dX5_goal_45 : decode cX5_goal 45 = .ok (.invokestatic 100, 3) := by decide +kernel
theorem dX5_goal_48 : decode cX5_goal 48 = .ok (.ifCond .eq 7, 3) := by decide +kernel
theorem dX5_goal_51 : decode cX5_goal 51 = .ok (.iload_n 3, 1) := by decide +kernel
theorem dX5_goal_52 : decode cX5_goal 52 = .ok (.goto 4, 3) := by decide +kernel
theorem dX5_goal_55 : decode cX5_goal 55 = .ok (.iconst 0, 1) := by decide +kernel
theorem dX5_goal_56 : decode cX5_goal 56 = .ok (.ireturn, 1) := by decide +kernel
theorem dX5_whyNot_0 : decode cX5_whyNot 0 = .ok (.aload_n 0, 1) := by decide +kernel
theorem dX5_whyNot_1 : decode cX5_whyNot 1 = .ok (.invokevirtual 94, 3) := by decide +kernel
theorem dX5_whyNot_4 : decode cX5_whyNot 4 = .ok (.ifCond .eq 5, 3) := by decide +kernel
theorem dX5_whyNot_7 : decode cX5_whyNot 7 = .ok (.iconst 1, 1) := by decide +kernel
theorem dX5_whyNot_8 : decode cX5_whyNot 8 = .ok (.ireturn, 1) := by decide +kernel
theorem dX5_whyNot_9 : decode cX5_whyNot 9 = .ok (.iload_n 1, 1) := by decide +kernel
theorem dX5_whyNot_10 : decode cX5_whyNot 10 = .ok (.bipush 6, 2) := by decide +kernel
theorem dX5_whyNot_12 : decode cX5_whyNot 12 = .ok (.if_icmp .ge 20, 3) := by decide +kernel
theorem dX5_whyNot_15 : decode cX5_whyNot 15 = .ok (.aload_n 0, 1) := by decide +kernel
theorem dX5_whyNot_16 : decode cX5_whyNot 16 = .ok (.aload_n 0, 1) := by decide +kernel
theorem dX5_whyNot_17 : decode cX5_whyNot 17 = .ok (.getfield 7, 3) := by decide +kernel
theorem dX5_whyNot_20 : decode cX5_whyNot 20 = .ok (.iconst 4, 1) := by decide +kernel
theorem dX5_whyNot_21 : decode cX5_whyNot 21 = .ok (.iaload, 1) := by decide +kernel
theorem dX5_whyNot_22 : decode cX5_whyNot 22 = .ok (.iload_n 1, 1) := by decide +kernel
theorem dX5_whyNot_23 : decode cX5_whyNot 23 = .ok (.invokevirtual 57, 3) := by decide +kernel
theorem dX5_whyNot_26 : decode cX5_whyNot 26 = .ok (.ifCond .ne 17, 3) := by decide +kernel
theorem dX5_whyNot_29 : decode cX5_whyNot 29 = .ok (.goto 12, 3) := by decide +kernel
theorem dX5_whyNot_32 : decode cX5_whyNot 32 = .ok (.aload_n 0, 1) := by decide +kernel
theorem dX5_whyNot_33 : decode cX5_whyNot 33 = .ok (.getfield 7, 3) := by decide +kernel
theorem dX5_whyNot_36 : decode cX5_whyNot 36 = .ok (.iconst 2, 1) := by decide +kernel
theorem dX5_whyNot_37 : decode cX5_whyNot 37 = .ok (.iaload, 1) := by decide +kernel
theorem dX5_whyNot_38 : decode cX5_whyNot 38 = .ok (.ifCond .ne 5, 3) := by decide +kernel
theorem dX5_whyNot_41 : decode cX5_whyNot 41 = .ok (.iconst 2, 1) := by decide +kernel
theorem dX5_whyNot_42 : decode cX5_whyNot 42 = .ok (.ireturn, 1) := by decide +kernel
theorem dX5_whyNot_43 : decode cX5_whyNot 43 = .ok (.iload_n 1, 1) := by decide +kernel
theorem dX5_whyNot_44 : decode cX5_whyNot 44 = .ok (.bipush 6, 2) := by decide +kernel
theorem dX5_whyNot_46 : decode cX5_whyNot 46 = .ok (.if_icmp .lt 24, 3) := by decide +kernel
theorem dX5_whyNot_49 : decode cX5_whyNot 49 = .ok (.aload_n 0, 1) := by decide +kernel
theorem dX5_whyNot_50 : decode cX5_whyNot 50 = .ok (.iload_n 2, 1) := by decide +kernel
theorem dX5_whyNot_51 : decode cX5_whyNot 51 = .ok (.invokevirtual 64, 3) := by decide +kernel
theorem dX5_whyNot_54 : decode cX5_whyNot 54 = .ok (.ifCond .eq 14, 3) := by decide +kernel
theorem dX5_whyNot_57 : decode cX5_whyNot 57 = .ok (.aload_n 0, 1) := by decide +kernel
theorem dX5_whyNot_58 : decode cX5_whyNot 58 = .ok (.getfield 7, 3) := by decide +kernel
theorem dX5_whyNot_61 : decode cX5_whyNot 61 = .ok (.bipush 11, 2) := by decide +kernel
theorem dX5_whyNot_63 : decode cX5_whyNot 63 = .ok (.iaload, 1) := by decide +kernel
theorem dX5_whyNot_64 : decode cX5_whyNot 64 = .ok (.iload_n 2, 1) := by decide +kernel
theorem dX5_whyNot_65 : decode cX5_whyNot 65 = .ok (.if_icmp .ne 5, 3) := by decide +kernel
theorem dX5_whyNot_68 : decode cX5_whyNot 68 = .ok (.iconst 3, 1) := by decide +kernel
theorem dX5_whyNot_69 : decode cX5_whyNot 69 = .ok (.ireturn, 1) := by decide +kernel
theorem dX5_whyNot_70 : decode cX5_whyNot 70 = .ok (.iload_n 1, 1) := by decide +kernel
theorem dX5_whyNot_71 : decode cX5_whyNot 71 = .ok (.iload_n 2, 1) := by decide +kernel
theorem dX5_whyNot_72 : decode cX5_whyNot 72 = .ok (.invokestatic 104, 3) := by decide +kernel
theorem dX5_whyNot_75 : decode cX5_whyNot 75 = .ok (.istore_n 3, 1) := by decide +kernel
theorem dX5_whyNot_76 : decode cX5_whyNot 76 = .ok (.iload_n 3, 1) := by decide +kernel
theorem dX5_whyNot_77 : decode cX5_whyNot 77 = .ok (.ifCond .eq 17, 3) := by decide +kernel
theorem dX5_whyNot_80 : decode cX5_whyNot 80 = .ok (.aload_n 0, 1) := by decide +kernel
theorem dX5_whyNot_81 : decode cX5_whyNot 81 = .ok (.iload_n 3, 1) := by decide +kernel
theorem dX5_whyNot_82 : decode cX5_whyNot 82 = .ok (.invokevirtual 64, 3) := by decide +kernel
theorem dX5_whyNot_85 : decode cX5_whyNot 85 = .ok (.aload_n 0, 1) := by decide +kernel
theorem dX5_whyNot_86 : decode cX5_whyNot 86 = .ok (.getfield 7, 3) := by decide +kernel
theorem dX5_whyNot_89 : decode cX5_whyNot 89 = .ok (.iconst 0, 1) := by decide +kernel
theorem dX5_whyNot_90 : decode cX5_whyNot 90 = .ok (.iaload, 1) := by decide +kernel
theorem dX5_whyNot_91 : decode cX5_whyNot 91 = .ok (.if_icmp .lt 7, 3) := by decide +kernel
theorem dX5_whyNot_94 : decode cX5_whyNot 94 = .ok (.iconst 4, 1) := by decide +kernel
theorem dX5_whyNot_95 : decode cX5_whyNot 95 = .ok (.goto 4, 3) := by decide +kernel
theorem dX5_whyNot_98 : decode cX5_whyNot 98 = .ok (.iconst 0, 1) := by decide +kernel
theorem dX5_whyNot_99 : decode cX5_whyNot 99 = .ok (.ireturn, 1) := by decide +kernel
theorem dX5_change_0 : decode cX5_change 0 = .ok (.iload_n 1, 1) := by decide +kernel
theorem dX5_change_1 : decode cX5_change 1 = .ok (.iload_n 2, 1) := by decide +kernel
theorem dX5_change_2 : decode cX5_change 2 = .ok (.invokestatic 104, 3) := by decide +kernel
theorem dX5_change_5 : decode cX5_change 5 = .ok (.istore_n 3, 1) := by decide +kernel
theorem dX5_change_6 : decode cX5_change 6 = .ok (.iload_n 1, 1) := by decide +kernel
theorem dX5_change_7 : decode cX5_change 7 = .ok (.bipush 6, 2) := by decide +kernel
theorem dX5_change_9 : decode cX5_change 9 = .ok (.if_icmp .ge 32, 3) := by decide +kernel
theorem dX5_change_12 : decode cX5_change 12 = .ok (.aload_n 0, 1) := by decide +kernel
theorem dX5_change_13 : decode cX5_change 13 = .ok (.aload_n 0, 1) := by decide +kernel
theorem dX5_change_14 : decode cX5_change 14 = .ok (.getfield 7, 3) := by decide +kernel
theorem dX5_change_17 : decode cX5_change 17 = .ok (.iconst 4, 1) := by decide +kernel
theorem dX5_change_18 : decode cX5_change 18 = .ok (.iaload, 1) := by decide +kernel
theorem dX5_change_19 : decode cX5_change 19 = .ok (.iload_n 1, 1) := by decide +kernel
theorem dX5_change_20 : decode cX5_change 20 = .ok (.iconst (-1), 1) := by decide +kernel
theorem dX5_change_21 : decode cX5_change 21 = .ok (.invokevirtual 45, 3) := by decide +kernel
theorem dX5_change_24 : decode cX5_change 24 = .ok (.aload_n 0, 1) := by decide +kernel
theorem dX5_change_25 : decode cX5_change 25 = .ok (.iload_n 3, 1) := by decide +kernel
theorem dX5_change_26 : decode cX5_change 26 = .ok (.iload_n 1, 1) := by decide +kernel
theorem dX5_change_27 : decode cX5_change 27 = .ok (.invokevirtual 107, 3) := by decide +kernel
theorem dX5_change_30 : decode cX5_change 30 = .ok (.aload_n 0, 1) := by decide +kernel
theorem dX5_change_31 : decode cX5_change 31 = .ok (.getfield 7, 3) := by decide +kernel
theorem dX5_change_34 : decode cX5_change 34 = .ok (.bipush 11, 2) := by decide +kernel
theorem dX5_change_36 : decode cX5_change 36 = .ok (.iconst 0, 1) := by decide +kernel
theorem dX5_change_37 : decode cX5_change 37 = .ok (.iastore, 1) := by decide +kernel
theorem dX5_change_38 : decode cX5_change 38 = .ok (.goto 25, 3) := by decide +kernel
theorem dX5_change_41 : decode cX5_change 41 = .ok (.aload_n 0, 1) := by decide +kernel
theorem dX5_change_42 : decode cX5_change 42 = .ok (.iload_n 2, 1) := by decide +kernel
theorem dX5_change_43 : decode cX5_change 43 = .ok (.invokevirtual 111, 3) := by decide +kernel
theorem dX5_change_46 : decode cX5_change 46 = .ok (.istore 4, 2) := by decide +kernel
theorem dX5_change_48 : decode cX5_change 48 = .ok (.aload_n 0, 1) := by decide +kernel
theorem dX5_change_49 : decode cX5_change 49 = .ok (.iload_n 3, 1) := by decide +kernel
theorem dX5_change_50 : decode cX5_change 50 = .ok (.iload 4, 2) := by decide +kernel
theorem dX5_change_52 : decode cX5_change 52 = .ok (.invokevirtual 107, 3) := by decide +kernel
theorem dX5_change_55 : decode cX5_change 55 = .ok (.aload_n 0, 1) := by decide +kernel
theorem dX5_change_56 : decode cX5_change 56 = .ok (.getfield 7, 3) := by decide +kernel
theorem dX5_change_59 : decode cX5_change 59 = .ok (.bipush 11, 2) := by decide +kernel
theorem dX5_change_61 : decode cX5_change 61 = .ok (.iload_n 3, 1) := by decide +kernel
theorem dX5_change_62 : decode cX5_change 62 = .ok (.iastore, 1) := by decide +kernel
theorem dX5_change_63 : decode cX5_change 63 = .ok (.aload_n 0, 1) := by decide +kernel
theorem dX5_change_64 : decode cX5_change 64 = .ok (.getfield 7, 3) := by decide +kernel
theorem dX5_change_67 : decode cX5_change 67 = .ok (.bipush 10, 2) := by decide +kernel
theorem dX5_change_69 : decode cX5_change 69 = .ok (.aload_n 0, 1) := by decide +kernel
theorem dX5_change_70 : decode cX5_change 70 = .ok (.getfield 7, 3) := by decide +kernel
theorem dX5_change_73 : decode cX5_change 73 = .ok (.iconst 4, 1) := by decide +kernel
theorem dX5_change_74 : decode cX5_change 74 = .ok (.iaload, 1) := by decide +kernel
theorem dX5_change_75 : decode cX5_change 75 = .ok (.iastore, 1) := by decide +kernel
theorem dX5_change_76 : decode cX5_change 76 = .ok (.aload_n 0, 1) := by decide +kernel
theorem dX5_change_77 : decode cX5_change 77 = .ok (.getfield 7, 3) := by decide +kernel
theorem dX5_change_80 : decode cX5_change 80 = .ok (.iconst 2, 1) := by decide +kernel
theorem dX5_change_81 : decode cX5_change 81 = .ok (.iaload, 1) := by decide +kernel
theorem dX5_change_82 : decode cX5_change 82 = .ok (.ifCond .ne 35, 3) := by decide +kernel
theorem dX5_change_85 : decode cX5_change 85 = .ok (.aload_n 0, 1) := by decide +kernel
theorem dX5_change_86 : decode cX5_change 86 = .ok (.iconst 1, 1) := by decide +kernel
theorem dX5_change_87 : decode cX5_change 87 = .ok (.aload_n 0, 1) := by decide +kernel
theorem dX5_change_88 : decode cX5_change 88 = .ok (.getfield 7, 3) := by decide +kernel
theorem dX5_change_91 : decode cX5_change 91 = .ok (.iconst 4, 1) := by decide +kernel
theorem dX5_change_92 : decode cX5_change 92 = .ok (.iaload, 1) := by decide +kernel
theorem dX5_change_93 : decode cX5_change 93 = .ok (.isub, 1) := by decide +kernel
theorem dX5_change_94 : decode cX5_change 94 = .ok (.invokevirtual 91, 3) := by decide +kernel
theorem dX5_change_97 : decode cX5_change 97 = .ok (.ifCond .ne 20, 3) := by decide +kernel
theorem dX5_change_100 : decode cX5_change 100 = .ok (.aload_n 0, 1) := by decide +kernel
theorem dX5_change_101 : decode cX5_change 101 = .ok (.aload_n 0, 1) := by decide +kernel
theorem dX5_change_102 : decode cX5_change 102 = .ok (.getfield 7, 3) := by decide +kernel
theorem dX5_change_105 : decode cX5_change 105 = .ok (.iconst 4, 1) := by decide +kernel
theorem dX5_change_106 : decode cX5_change 106 = .ok (.iaload, 1) := by decide +kernel
theorem dX5_change_107 : decode cX5_change 107 = .ok (.invokevirtual 91, 3) := by decide +kernel
theorem dX5_change_110 : decode cX5_change 110 = .ok (.ifCond .le 7, 3) := by decide +kernel
theorem dX5_change_113 : decode cX5_change 113 = .ok (.iconst 1, 1) := by decide +kernel
theorem dX5_change_114 : decode cX5_change 114 = .ok (.goto 4, 3) := by decide +kernel
theorem dX5_change_117 : decode cX5_change 117 = .ok (.iconst 0, 1) := by decide +kernel
theorem dX5_change_118 : decode cX5_change 118 = .ok (.istore 4, 2) := by decide +kernel
theorem dX5_change_120 : decode cX5_change 120 = .ok (.aload_n 0, 1) := by decide +kernel
theorem dX5_change_121 : decode cX5_change 121 = .ok (.getfield 7, 3) := by decide +kernel
theorem dX5_change_124 : decode cX5_change 124 = .ok (.iconst 4, 1) := by decide +kernel
theorem dX5_change_125 : decode cX5_change 125 = .ok (.iload 4, 2) := by decide +kernel
theorem dX5_change_127 : decode cX5_change 127 = .ok (.ifCond .eq 12, 3) := by decide +kernel
theorem dX5_change_130 : decode cX5_change 130 = .ok (.aload_n 0, 1) := by decide +kernel
theorem dX5_change_131 : decode cX5_change 131 = .ok (.getfield 7, 3) := by decide +kernel
theorem dX5_change_134 : decode cX5_change 134 = .ok (.iconst 4, 1) := by decide +kernel
theorem dX5_change_135 : decode cX5_change 135 = .ok (.iaload, 1) := by decide +kernel
theorem dX5_change_136 : decode cX5_change 136 = .ok (.goto 11, 3) := by decide +kernel
theorem dX5_change_139 : decode cX5_change 139 = .ok (.iconst 1, 1) := by decide +kernel
theorem dX5_change_140 : decode cX5_change 140 = .ok (.aload_n 0, 1) := by decide +kernel
theorem dX5_change_141 : decode cX5_change 141 = .ok (.getfield 7, 3) := by decide +kernel
theorem dX5_change_144 : decode cX5_change 144 = .ok (.iconst 4, 1) := by decide +kernel
theorem dX5_change_145 : decode cX5_change 145 = .ok (.iaload, 1) := by decide +kernel
theorem dX5_change_146 : decode cX5_change 146 = .ok (.isub, 1) := by decide +kernel
theorem dX5_change_147 : decode cX5_change 147 = .ok (.iastore, 1) := by decide +kernel
theorem dX5_change_148 : decode cX5_change 148 = .ok (.return_, 1) := by decide +kernel
theorem dX5_moveIt_0 : decode cX5_moveIt 0 = .ok (.aload_n 0, 1) := by decide +kernel
theorem dX5_moveIt_1 : decode cX5_moveIt 1 = .ok (.getfield 7, 3) := by decide +kernel
theorem dX5_moveIt_4 : decode cX5_moveIt 4 = .ok (.iconst 4, 1) := by decide +kernel
theorem dX5_moveIt_5 : decode cX5_moveIt 5 = .ok (.iaload, 1) := by decide +kernel
theorem dX5_moveIt_6 : decode cX5_moveIt 6 = .ok (.istore_n 3, 1) := by decide +kernel
theorem dX5_moveIt_7 : decode cX5_moveIt 7 = .ok (.aload_n 0, 1) := by decide +kernel
theorem dX5_moveIt_8 : decode cX5_moveIt 8 = .ok (.getfield 7, 3) := by decide +kernel
theorem dX5_moveIt_11 : decode cX5_moveIt 11 = .ok (.iconst 5, 1) := by decide +kernel
theorem dX5_moveIt_12 : decode cX5_moveIt 12 = .ok (.iaload, 1) := by decide +kernel
theorem dX5_moveIt_13 : decode cX5_moveIt 13 = .ok (.istore 4, 2) := by decide +kernel
theorem dX5_moveIt_15 : decode cX5_moveIt 15 = .ok (.aload_n 0, 1) := by decide +kernel
theorem dX5_moveIt_16 : decode cX5_moveIt 16 = .ok (.iload_n 1, 1) := by decide +kernel
theorem dX5_moveIt_17 : decode cX5_moveIt 17 = .ok (.iload_n 2, 1) := by decide +kernel
theorem dX5_moveIt_18 : decode cX5_moveIt 18 = .ok (.invokevirtual 114, 3) := by decide +kernel
theorem dX5_moveIt_21 : decode cX5_moveIt 21 = .ok (.aload_n 0, 1) := by decide +kernel
theorem dX5_moveIt_22 : decode cX5_moveIt 22 = .ok (.getfield 7, 3) := by decide +kernel
theorem dX5_moveIt_25 : decode cX5_moveIt 25 = .ok (.iconst 5, 1) := by decide +kernel
theorem dX5_moveIt_26 : decode cX5_moveIt 26 = .ok (.iaload, 1) := by decide +kernel
theorem dX5_moveIt_27 : decode cX5_moveIt 27 = .ok (.iload 4, 2) := by decide +kernel
theorem dX5_moveIt_29 : decode cX5_moveIt 29 = .ok (.isub, 1) := by decide +kernel
theorem dX5_moveIt_30 : decode cX5_moveIt 30 = .ok (.istore 5, 2) := by decide +kernel
theorem dX5_moveIt_32 : decode cX5_moveIt 32 = .ok (.aload_n 0, 1) := by decide +kernel
theorem dX5_moveIt_33 : decode cX5_moveIt 33 = .ok (.getfield 7, 3) := by decide +kernel
theorem dX5_moveIt_36 : decode cX5_moveIt 36 = .ok (.bipush 6, 2) := by decide +kernel
theorem dX5_moveIt_38 : decode cX5_moveIt 38 = .ok (.dup2, 1) := by decide +kernel
theorem dX5_moveIt_39 : decode cX5_moveIt 39 = .ok (.iaload, 1) := by decide +kernel
theorem dX5_moveIt_40 : decode cX5_moveIt 40 = .ok (.iconst 1, 1) := by decide +kernel
theorem dX5_moveIt_41 : decode cX5_moveIt 41 = .ok (.iadd, 1) := by decide +kernel
theorem dX5_moveIt_42 : decode cX5_moveIt 42 = .ok (.iastore, 1) := by decide +kernel
theorem dX5_moveIt_43 : decode cX5_moveIt 43 = .ok (.aload_n 0, 1) := by decide +kernel
theorem dX5_moveIt_44 : decode cX5_moveIt 44 = .ok (.getfield 7, 3) := by decide +kernel
theorem dX5_moveIt_47 : decode cX5_moveIt 47 = .ok (.bipush 7, 2) := by decide +kernel
theorem dX5_moveIt_49 : decode cX5_moveIt 49 = .ok (.dup2, 1) := by decide +kernel
theorem dX5_moveIt_50 : decode cX5_moveIt 50 = .ok (.iaload, 1) := by decide +kernel
theorem dX5_moveIt_51 : decode cX5_moveIt 51 = .ok (.iload 5, 2) := by decide +kernel
theorem dX5_moveIt_53 : decode cX5_moveIt 53 = .ok (.iadd, 1) := by decide +kernel
theorem dX5_moveIt_54 : decode cX5_moveIt 54 = .ok (.iastore, 1) := by decide +kernel
theorem dX5_moveIt_55 : decode cX5_moveIt 55 = .ok (.aload_n 0, 1) := by decide +kernel
theorem dX5_moveIt_56 : decode cX5_moveIt 56 = .ok (.getfield 7, 3) := by decide +kernel
theorem dX5_moveIt_59 : decode cX5_moveIt 59 = .ok (.bipush 9, 2) := by decide +kernel
theorem dX5_moveIt_61 : decode cX5_moveIt 61 = .ok (.aload_n 0, 1) := by decide +kernel
theorem dX5_moveIt_62 : decode cX5_moveIt 62 = .ok (.getfield 7, 3) := by decide +kernel
theorem dX5_moveIt_65 : decode cX5_moveIt 65 = .ok (.iconst 5, 1) := by decide +kernel
theorem dX5_moveIt_66 : decode cX5_moveIt 66 = .ok (.iaload, 1) := by decide +kernel
theorem dX5_moveIt_67 : decode cX5_moveIt 67 = .ok (.invokestatic 84, 3) := by decide +kernel
theorem dX5_moveIt_70 : decode cX5_moveIt 70 = .ok (.aload_n 0, 1) := by decide +kernel
theorem dX5_moveIt_71 : decode cX5_moveIt 71 = .ok (.getfield 7, 3) := by decide +kernel
theorem dX5_moveIt_74 : decode cX5_moveIt 74 = .ok (.bipush 9, 2) := by decide +kernel
theorem dX5_moveIt_76 : decode cX5_moveIt 76 = .ok (.iaload, 1) := by decide +kernel
theorem dX5_moveIt_77 : decode cX5_moveIt 77 = .ok (.if_icmp .le 15, 3) := by decide +kernel
theorem dX5_moveIt_80 : decode cX5_moveIt 80 = .ok (.aload_n 0, 1) := by decide +kernel
theorem dX5_moveIt_81 : decode cX5_moveIt 81 = .ok (.getfield 7, 3) := by decide +kernel
theorem dX5_moveIt_84 : decode cX5_moveIt 84 = .ok (.iconst 5, 1) := by decide +kernel
theorem dX5_moveIt_85 : decode cX5_moveIt 85 = .ok (.iaload, 1) := by decide +kernel
theorem dX5_moveIt_86 : decode cX5_moveIt 86 = .ok (.invokestatic 84, 3) := by decide +kernel
theorem dX5_moveIt_89 : decode cX5_moveIt 89 = .ok (.goto 10, 3) := by decide +kernel
theorem dX5_moveIt_92 : decode cX5_moveIt 92 = .ok (.aload_n 0, 1) := by decide +kernel
theorem dX5_moveIt_93 : decode cX5_moveIt 93 = .ok (.getfield 7, 3) := by decide +kernel
theorem dX5_moveIt_96 : decode cX5_moveIt 96 = .ok (.bipush 9, 2) := by decide +kernel
theorem dX5_moveIt_98 : decode cX5_moveIt 98 = .ok (.iaload, 1) := by decide +kernel
theorem dX5_moveIt_99 : decode cX5_moveIt 99 = .ok (.iastore, 1) := by decide +kernel
theorem dX5_moveIt_100 : decode cX5_moveIt 100 = .ok (.aload_n 0, 1) := by decide +kernel
theorem dX5_moveIt_101 : decode cX5_moveIt 101 = .ok (.getfield 7, 3) := by decide +kernel
theorem dX5_moveIt_104 : decode cX5_moveIt 104 = .ok (.bipush 12, 2) := by decide +kernel
theorem dX5_moveIt_106 : decode cX5_moveIt 106 = .ok (.iaload, 1) := by decide +kernel
theorem dX5_moveIt_107 : decode cX5_moveIt 107 = .ok (.bipush 40, 2) := by decide +kernel
theorem dX5_moveIt_109 : decode cX5_moveIt 109 = .ok (.if_icmp .ne 53, 3) := by decide +kernel
theorem dX5_moveIt_112 : decode cX5_moveIt 112 = .ok (.iconst 0, 1) := by decide +kernel
theorem dX5_moveIt_113 : decode cX5_moveIt 113 = .ok (.istore 6, 2) := by decide +kernel
theorem dX5_moveIt_115 : decode cX5_moveIt 115 = .ok (.iload 6, 2) := by decide +kernel
theorem dX5_moveIt_117 : decode cX5_moveIt 117 = .ok (.sipush 156, 3) := by decide +kernel
theorem dX5_moveIt_120 : decode cX5_moveIt 120 = .ok (.if_icmp .ge 31, 3) := by decide +kernel
theorem dX5_moveIt_123 : decode cX5_moveIt 123 = .ok (.aload_n 0, 1) := by decide +kernel
theorem dX5_moveIt_124 : decode cX5_moveIt 124 = .ok (.getfield 7, 3) := by decide +kernel
theorem dX5_moveIt_127 : decode cX5_moveIt 127 = .ok (.bipush 83, 2) := by decide +kernel
theorem dX5_moveIt_129 : decode cX5_moveIt 129 = .ok (.iload 6, 2) := by decide +kernel
theorem dX5_moveIt_131 : decode cX5_moveIt 131 = .ok (.iadd, 1) := by decide +kernel
theorem dX5_moveIt_132 : decode cX5_moveIt 132 = .ok (.aload_n 0, 1) := by decide +kernel
theorem dX5_moveIt_133 : decode cX5_moveIt 133 = .ok (.getfield 7, 3) := by decide +kernel
theorem dX5_moveIt_136 : decode cX5_moveIt 136 = .ok (.bipush 83, 2) := by decide +kernel
theorem dX5_moveIt_138 : decode cX5_moveIt 138 = .ok (.iload 6, 2) := by decide +kernel
theorem dX5_moveIt_140 : decode cX5_moveIt 140 = .ok (.iadd, 1) := by decide +kernel
theorem dX5_moveIt_141 : decode cX5_moveIt 141 = .ok (.iconst 4, 1) := by decide +kernel
theorem dX5_moveIt_142 : decode cX5_moveIt 142 = .ok (.iadd, 1) := by decide +kernel
theorem dX5_moveIt_143 : decode cX5_moveIt 143 = .ok (.iaload, 1) := by decide +kernel
theorem dX5_moveIt_144 : decode cX5_moveIt 144 = .ok (.iastore, 1) := by decide +kernel
theorem dX5_moveIt_145 : decode cX5_moveIt 145 = .ok (.iinc 6 1, 3) := by decide +kernel
theorem dX5_moveIt_148 : decode cX5_moveIt 148 = .ok (.goto (-33), 3) := by decide +kernel
theorem dX5_moveIt_151 : decode cX5_moveIt 151 = .ok (.aload_n 0, 1) := by decide +kernel
theorem dX5_moveIt_152 : decode cX5_moveIt 152 = .ok (.getfield 7, 3) := by decide +kernel
theorem dX5_moveIt_155 : decode cX5_moveIt 155 = .ok (.bipush 12, 2) := by decide +kernel
theorem dX5_moveIt_157 : decode cX5_moveIt 157 = .ok (.dup2, 1) := by decide +kernel
theorem dX5_moveIt_158 : decode cX5_moveIt 158 = .ok (.iaload, 1) := by decide +kernel
theorem dX5_moveIt_159 : decode cX5_moveIt 159 = .ok (.iconst 1, 1) := by decide +kernel
theorem dX5_moveIt_160 : decode cX5_moveIt 160 = .ok (.isub, 1) := by decide +kernel
theorem dX5_moveIt_161 : decode cX5_moveIt 161 = .ok (.iastore, 1) := by decide +kernel
theorem dX5_moveIt_162 : decode cX5_moveIt 162 = .ok (.bipush 83, 2) := by decide +kernel
theorem dX5_moveIt_164 : decode cX5_moveIt 164 = .ok (.iconst 4, 1) := by decide +kernel
theorem dX5_moveIt_165 : decode cX5_moveIt 165 = .ok (.aload_n 0, 1) := by decide +kernel
theorem dX5_moveIt_166 : decode cX5_moveIt 166 = .ok (.getfield 7, 3) := by decide +kernel
theorem dX5_moveIt_169 : decode cX5_moveIt 169 = .ok (.bipush 12, 2) := by decide +kernel
theorem dX5_moveIt_171 : decode cX5_moveIt 171 = .ok (.iaload, 1) := by decide +kernel
theorem dX5_moveIt_172 : decode cX5_moveIt 172 = .ok (.imul, 1) := by decide +kernel
theorem dX5_moveIt_173 : decode cX5_moveIt 173 = .ok (.iadd, 1) := by decide +kernel
theorem dX5_moveIt_174 : decode cX5_moveIt 174 = .ok (.istore 6, 2) := by decide +kernel
theorem dX5_moveIt_176 : decode cX5_moveIt 176 = .ok (.aload_n 0, 1) := by decide +kernel
theorem dX5_moveIt_177 : decode cX5_moveIt 177 = .ok (.getfield 7, 3) := by decide +kernel
theorem dX5_moveIt_180 : decode cX5_moveIt 180 = .ok (.iload 6, 2) := by decide +kernel
theorem dX5_moveIt_182 : decode cX5_moveIt 182 = .ok (.iload_n 3, 1) := by decide +kernel
theorem dX5_moveIt_183 : decode cX5_moveIt 183 = .ok (.iastore, 1) := by decide +kernel
theorem dX5_moveIt_184 : decode cX5_moveIt 184 = .ok (.aload_n 0, 1) := by decide +kernel
theorem dX5_moveIt_185 : decode cX5_moveIt 185 = .ok (.getfield 7, 3) := by decide +kernel
theorem dX5_moveIt_188 : decode cX5_moveIt 188 = .ok (.iload 6, 2) := by decide +kernel
theorem dX5_moveIt_190 : decode cX5_moveIt 190 = .ok (.iconst 1, 1) := by decide +kernel
theorem dX5_moveIt_191 : decode cX5_moveIt 191 = .ok (.iadd, 1) := by decide +kernel
theorem dX5_moveIt_192 : decode cX5_moveIt 192 = .ok (.iload_n 1, 1) := by decide +kernel
theorem dX5_moveIt_193 : decode cX5_moveIt 193 = .ok (.iastore, 1) := by decide +kernel
theorem dX5_moveIt_194 : decode cX5_moveIt 194 = .ok (.aload_n 0, 1) := by decide +kernel
theorem dX5_moveIt_195 : decode cX5_moveIt 195 = .ok (.getfield 7, 3) := by decide +kernel
theorem dX5_moveIt_198 : decode cX5_moveIt 198 = .ok (.iload 6, 2) := by decide +kernel
theorem dX5_moveIt_200 : decode cX5_moveIt 200 = .ok (.iconst 2, 1) := by decide +kernel
theorem dX5_moveIt_201 : decode cX5_moveIt 201 = .ok (.iadd, 1) := by decide +kernel
theorem dX5_moveIt_202 : decode cX5_moveIt 202 = .ok (.iload_n 2, 1) := by decide +kernel
theorem dX5_moveIt_203 : decode cX5_moveIt 203 = .ok (.iastore, 1) := by decide +kernel
theorem dX5_moveIt_204 : decode cX5_moveIt 204 = .ok (.aload_n 0, 1) := by decide +kernel
theorem dX5_moveIt_205 : decode cX5_moveIt 205 = .ok (.getfield 7, 3) := by decide +kernel
theorem dX5_moveIt_208 : decode cX5_moveIt 208 = .ok (.iload 6, 2) := by decide +kernel
theorem dX5_moveIt_210 : decode cX5_moveIt 210 = .ok (.iconst 3, 1) := by decide +kernel
theorem dX5_moveIt_211 : decode cX5_moveIt 211 = .ok (.iadd, 1) := by decide +kernel
theorem dX5_moveIt_212 : decode cX5_moveIt 212 = .ok (.iload 5, 2) := by decide +kernel
theorem dX5_moveIt_214 : decode cX5_moveIt 214 = .ok (.iastore, 1) := by decide +kernel
theorem dX5_moveIt_215 : decode cX5_moveIt 215 = .ok (.aload_n 0, 1) := by decide +kernel
theorem dX5_moveIt_216 : decode cX5_moveIt 216 = .ok (.getfield 7, 3) := by decide +kernel
theorem dX5_moveIt_219 : decode cX5_moveIt 219 = .ok (.bipush 12, 2) := by decide +kernel
theorem dX5_moveIt_221 : decode cX5_moveIt 221 = .ok (.dup2, 1) := by decide +kernel
theorem dX5_moveIt_222 : decode cX5_moveIt 222 = .ok (.iaload, 1) := by decide +kernel
theorem dX5_moveIt_223 : decode cX5_moveIt 223 = .ok (.iconst 1, 1) := by decide +kernel
theorem dX5_moveIt_224 : decode cX5_moveIt 224 = .ok (.iadd, 1) := by decide +kernel
theorem dX5_moveIt_225 : decode cX5_moveIt 225 = .ok (.iastore, 1) := by decide +kernel
theorem dX5_moveIt_226 : decode cX5_moveIt 226 = .ok (.aload_n 0, 1) := by decide +kernel
theorem dX5_moveIt_227 : decode cX5_moveIt 227 = .ok (.getfield 7, 3) := by decide +kernel
theorem dX5_moveIt_230 : decode cX5_moveIt 230 = .ok (.iconst 5, 1) := by decide +kernel
theorem dX5_moveIt_231 : decode cX5_moveIt 231 = .ok (.iaload, 1) := by decide +kernel
theorem dX5_moveIt_232 : decode cX5_moveIt 232 = .ok (.ireturn, 1) := by decide +kernel
theorem dX5_tryMove_0 : decode cX5_tryMove 0 = .ok (.aload_n 0, 1) := by decide +kernel
theorem dX5_tryMove_1 : decode cX5_tryMove 1 = .ok (.iload_n 1, 1) := by decide +kernel
theorem dX5_tryMove_2 : decode cX5_tryMove 2 = .ok (.iload_n 2, 1) := by decide +kernel
theorem dX5_tryMove_3 : decode cX5_tryMove 3 = .ok (.invokevirtual 117, 3) := by decide +kernel
theorem dX5_tryMove_6 : decode cX5_tryMove 6 = .ok (.istore_n 3, 1) := by decide +kernel
theorem dX5_tryMove_7 : decode cX5_tryMove 7 = .ok (.iload_n 3, 1) := by decide +kernel
theorem dX5_tryMove_8 : decode cX5_tryMove 8 = .ok (.ifCond .le 9, 3) := by decide +kernel
theorem dX5_tryMove_11 : decode cX5_tryMove 11 = .ok (.sipush (-10010), 3) := by decide +kernel
theorem dX5_tryMove_14 : decode cX5_tryMove 14 = .ok (.iload_n 3, 1) := by decide +kernel
theorem dX5_tryMove_15 : decode cX5_tryMove 15 = .ok (.isub, 1) := by decide +kernel
theorem dX5_tryMove_16 : decode cX5_tryMove 16 = .ok (.ireturn, 1) := by decide +kernel
theorem dX5_tryMove_17 : decode cX5_tryMove 17 = .ok (.aload_n 0, 1) := by decide +kernel
theorem dX5_tryMove_18 : decode cX5_tryMove 18 = .ok (.invokevirtual 81, 3) := by decide +kernel
theorem dX5_tryMove_21 : decode cX5_tryMove 21 = .ok (.aload_n 0, 1) := by decide +kernel
theorem dX5_tryMove_22 : decode cX5_tryMove 22 = .ok (.iload_n 1, 1) := by decide +kernel
theorem dX5_tryMove_23 : decode cX5_tryMove 23 = .ok (.iload_n 2, 1) := by decide +kernel
theorem dX5_tryMove_24 : decode cX5_tryMove 24 = .ok (.invokevirtual 120, 3) := by decide +kernel
theorem dX5_tryMove_27 : decode cX5_tryMove 27 = .ok (.ireturn, 1) := by decide +kernel
theorem dX5_lay_0 : decode cX5_lay 0 = .ok (.iload_n 1, 1) := by decide +kernel
theorem dX5_lay_1 : decode cX5_lay 1 = .ok (.invokestatic 123, 3) := by decide +kernel
theorem dX5_lay_4 : decode cX5_lay 4 = .ok (.ifCond .eq 19, 3) := by decide +kernel
theorem dX5_lay_7 : decode cX5_lay 7 = .ok (.iload_n 2, 1) := by decide +kernel
theorem dX5_lay_8 : decode cX5_lay 8 = .ok (.invokestatic 100, 3) := by decide +kernel
theorem dX5_lay_11 : decode cX5_lay 11 = .ok (.ifCond .eq 12, 3) := by decide +kernel
theorem dX5_lay_14 : decode cX5_lay 14 = .ok (.aload_n 0, 1) := by decide +kernel
theorem dX5_lay_15 : decode cX5_lay 15 = .ok (.iload_n 1, 1) := by decide +kernel
theorem dX5_lay_16 : decode cX5_lay 16 = .ok (.iload_n 2, 1) := by decide +kernel
theorem dX5_lay_17 : decode cX5_lay 17 = .ok (.invokevirtual 126, 3) := by decide +kernel
theorem dX5_lay_20 : decode cX5_lay 20 = .ok (.goto 6, 3) := by decide +kernel
theorem dX5_lay_23 : decode cX5_lay 23 = .ok (.sipush (-10001), 3) := by decide +kernel
theorem dX5_lay_26 : decode cX5_lay 26 = .ok (.ireturn, 1) := by decide +kernel
theorem dX5_push_0 : decode cX5_push 0 = .ok (.iload_n 1, 1) := by decide +kernel
theorem dX5_push_1 : decode cX5_push 1 = .ok (.invokestatic 100, 3) := by decide +kernel
theorem dX5_push_4 : decode cX5_push 4 = .ok (.ifCond .eq 22, 3) := by decide +kernel
theorem dX5_push_7 : decode cX5_push 7 = .ok (.aload_n 0, 1) := by decide +kernel
theorem dX5_push_8 : decode cX5_push 8 = .ok (.iload_n 2, 1) := by decide +kernel
theorem dX5_push_9 : decode cX5_push 9 = .ok (.ifCond .eq 8, 3) := by decide +kernel
theorem dX5_push_12 : decode cX5_push 12 = .ok (.bipush 6, 2) := by decide +kernel
theorem dX5_push_14 : decode cX5_push 14 = .ok (.goto 5, 3) := by decide +kernel
theorem dX5_push_17 : decode cX5_push 17 = .ok (.bipush 7, 2) := by decide +kernel
theorem dX5_push_19 : decode cX5_push 19 = .ok (.iload_n 1, 1) := by decide +kernel
theorem dX5_push_20 : decode cX5_push 20 = .ok (.invokevirtual 126, 3) := by decide +kernel
theorem dX5_push_23 : decode cX5_push 23 = .ok (.goto 6, 3) := by decide +kernel
theorem dX5_push_26 : decode cX5_push 26 = .ok (.sipush (-10001), 3) := by decide +kernel
theorem dX5_push_29 : decode cX5_push 29 = .ok (.ireturn, 1) := by decide +kernel
theorem dX5_numberOf_0 : decode cX5_numberOf 0 = .ok (.iload_n 0, 1) := by decide +kernel
theorem dX5_numberOf_1 : decode cX5_numberOf 1 = .ok (.bipush 60, 2) := by decide +kernel
theorem dX5_numberOf_3 : decode cX5_numberOf 3 = .ok (.if_icmp .ge 12, 3) := by decide +kernel
theorem dX5_numberOf_6 : decode cX5_numberOf 6 = .ok (.iload_n 0, 1) := by decide +kernel
theorem dX5_numberOf_7 : decode cX5_numberOf 7 = .ok (.bipush 12, 2) := by decide +kernel
theorem dX5_numberOf_9 : decode cX5_numberOf 9 = .ok (.idiv, 1) := by decide +kernel
theorem dX5_numberOf_10 : decode cX5_numberOf 10 = .ok (.iconst 1, 1) := by decide +kernel
theorem dX5_numberOf_11 : decode cX5_numberOf 11 = .ok (.iadd, 1) := by decide +kernel
theorem dX5_numberOf_12 : decode cX5_numberOf 12 = .ok (.goto 9, 3) := by decide +kernel
theorem dX5_numberOf_15 : decode cX5_numberOf 15 = .ok (.bipush 6, 2) := by decide +kernel
theorem dX5_numberOf_17 : decode cX5_numberOf 17 = .ok (.iload_n 0, 1) := by decide +kernel
theorem dX5_numberOf_18 : decode cX5_numberOf 18 = .ok (.iconst 2, 1) := by decide +kernel
theorem dX5_numberOf_19 : decode cX5_numberOf 19 = .ok (.irem, 1) := by decide +kernel
theorem dX5_numberOf_20 : decode cX5_numberOf 20 = .ok (.iadd, 1) := by decide +kernel
theorem dX5_numberOf_21 : decode cX5_numberOf 21 = .ok (.ireturn, 1) := by decide +kernel
theorem dX5_placeOf_0 : decode cX5_placeOf 0 = .ok (.iload_n 0, 1) := by decide +kernel
theorem dX5_placeOf_1 : decode cX5_placeOf 1 = .ok (.bipush 60, 2) := by decide +kernel
theorem dX5_placeOf_3 : decode cX5_placeOf 3 = .ok (.if_icmp .ge 10, 3) := by decide +kernel
theorem dX5_placeOf_6 : decode cX5_placeOf 6 = .ok (.iload_n 0, 1) := by decide +kernel
theorem dX5_placeOf_7 : decode cX5_placeOf 7 = .ok (.bipush 12, 2) := by decide +kernel
theorem dX5_placeOf_9 : decode cX5_placeOf 9 = .ok (.irem, 1) := by decide +kernel
theorem dX5_placeOf_10 : decode cX5_placeOf 10 = .ok (.goto 9, 3) := by decide +kernel
theorem dX5_placeOf_13 : decode cX5_placeOf 13 = .ok (.iload_n 0, 1) := by decide +kernel
theorem dX5_placeOf_14 : decode cX5_placeOf 14 = .ok (.bipush 60, 2) := by decide +kernel
theorem dX5_placeOf_16 : decode cX5_placeOf 16 = .ok (.isub, 1) := by decide +kernel
theorem dX5_placeOf_17 : decode cX5_placeOf 17 = .ok (.iconst 2, 1) := by decide +kernel
theorem dX5_placeOf_18 : decode cX5_placeOf 18 = .ok (.idiv, 1) := by decide +kernel
theorem dX5_placeOf_19 : decode cX5_placeOf 19 = .ok (.invokestatic 70, 3) := by decide +kernel
theorem dX5_placeOf_22 : decode cX5_placeOf 22 = .ok (.ireturn, 1) := by decide +kernel
theorem dX5_isPossible_0 : decode cX5_isPossible 0 = .ok (.aload_n 0, 1) := by decide +kernel
theorem dX5_isPossible_1 : decode cX5_isPossible 1 = .ok (.iload_n 1, 1) := by decide +kernel
theorem dX5_isPossible_2 : decode cX5_isPossible 2 = .ok (.invokestatic 129, 3) := by decide +kernel
theorem dX5_isPossible_5 : decode cX5_isPossible 5 = .ok (.iload_n 1, 1) := by decide +kernel
theorem dX5_isPossible_6 : decode cX5_isPossible 6 = .ok (.invokestatic 132, 3) := by decide +kernel
theorem dX5_isPossible_9 : decode cX5_isPossible 9 = .ok (.invokevirtual 117, 3) := by decide +kernel
theorem dX5_isPossible_12 : decode cX5_isPossible 12 = .ok (.ifCond .ne 7, 3) := by decide +kernel
theorem dX5_isPossible_15 : decode cX5_isPossible 15 = .ok (.iconst 1, 1) := by decide +kernel
theorem dX5_isPossible_16 : decode cX5_isPossible 16 = .ok (.goto 4, 3) := by decide +kernel
theorem dX5_isPossible_19 : decode cX5_isPossible 19 = .ok (.iconst 0, 1) := by decide +kernel
theorem dX5_isPossible_20 : decode cX5_isPossible 20 = .ok (.ireturn, 1) := by decide +kernel
theorem dX5_ahead_0 : decode cX5_ahead 0 = .ok (.aload_n 0, 1) := by decide +kernel
theorem dX5_ahead_1 : decode cX5_ahead 1 = .ok (.getfield 33, 3) := by decide +kernel
theorem dX5_ahead_4 : decode cX5_ahead 4 = .ok (.iload_n 1, 1) := by decide +kernel
theorem dX5_ahead_5 : decode cX5_ahead 5 = .ok (.aload_n 0, 1) := by decide +kernel
theorem dX5_ahead_6 : decode cX5_ahead 6 = .ok (.getfield 7, 3) := by decide +kernel
theorem dX5_ahead_9 : decode cX5_ahead 9 = .ok (.iconst 4, 1) := by decide +kernel
theorem dX5_ahead_10 : decode cX5_ahead 10 = .ok (.iaload, 1) := by decide +kernel
theorem dX5_ahead_11 : decode cX5_ahead 11 = .ok (.iastore, 1) := by decide +kernel
theorem dX5_ahead_12 : decode cX5_ahead 12 = .ok (.aload_n 0, 1) := by decide +kernel
theorem dX5_ahead_13 : decode cX5_ahead 13 = .ok (.getfield 36, 3) := by decide +kernel
theorem dX5_ahead_16 : decode cX5_ahead 16 = .ok (.iload_n 1, 1) := by decide +kernel
theorem dX5_ahead_17 : decode cX5_ahead 17 = .ok (.aload_n 0, 1) := by decide +kernel
theorem dX5_ahead_18 : decode cX5_ahead 18 = .ok (.getfield 7, 3) := by decide +kernel
theorem dX5_ahead_21 : decode cX5_ahead 21 = .ok (.bipush 10, 2) := by decide +kernel
theorem dX5_ahead_23 : decode cX5_ahead 23 = .ok (.iaload, 1) := by decide +kernel
theorem dX5_ahead_24 : decode cX5_ahead 24 = .ok (.iastore, 1) := by decide +kernel
theorem dX5_ahead_25 : decode cX5_ahead 25 = .ok (.aload_n 0, 1) := by decide +kernel
theorem dX5_ahead_26 : decode cX5_ahead 26 = .ok (.getfield 39, 3) := by decide +kernel
theorem dX5_ahead_29 : decode cX5_ahead 29 = .ok (.iload_n 1, 1) := by decide +kernel
theorem dX5_ahead_30 : decode cX5_ahead 30 = .ok (.aload_n 0, 1) := by decide +kernel
theorem dX5_ahead_31 : decode cX5_ahead 31 = .ok (.getfield 7, 3) := by decide +kernel
theorem dX5_ahead_34 : decode cX5_ahead 34 = .ok (.bipush 11, 2) := by decide +kernel
theorem dX5_ahead_36 : decode cX5_ahead 36 = .ok (.iaload, 1) := by decide +kernel
theorem dX5_ahead_37 : decode cX5_ahead 37 = .ok (.iastore, 1) := by decide +kernel
theorem dX5_ahead_38 : decode cX5_ahead 38 = .ok (.aload_n 0, 1) := by decide +kernel
theorem dX5_ahead_39 : decode cX5_ahead 39 = .ok (.iload_n 2, 1) := by decide +kernel
theorem dX5_ahead_40 : decode cX5_ahead 40 = .ok (.invokestatic 129, 3) := by decide +kernel
theorem dX5_ahead_43 : decode cX5_ahead 43 = .ok (.iload_n 2, 1) := by decide +kernel
theorem dX5_ahead_44 : decode cX5_ahead 44 = .ok (.invokestatic 132, 3) := by decide +kernel
theorem dX5_ahead_47 : decode cX5_ahead 47 = .ok (.invokevirtual 114, 3) := by decide +kernel
theorem dX5_ahead_50 : decode cX5_ahead 50 = .ok (.return_, 1) := by decide +kernel
theorem dX5_back_0 : decode cX5_back 0 = .ok (.iload_n 2, 1) := by decide +kernel
theorem dX5_back_1 : decode cX5_back 1 = .ok (.invokestatic 129, 3) := by decide +kernel
theorem dX5_back_4 : decode cX5_back 4 = .ok (.istore_n 3, 1) := by decide +kernel
theorem dX5_back_5 : decode cX5_back 5 = .ok (.aload_n 0, 1) := by decide +kernel
theorem dX5_back_6 : decode cX5_back 6 = .ok (.iload_n 3, 1) := by decide +kernel
theorem dX5_back_7 : decode cX5_back 7 = .ok (.iload_n 2, 1) := by decide +kernel
theorem dX5_back_8 : decode cX5_back 8 = .ok (.invokestatic 132, 3) := by decide +kernel
theorem dX5_back_11 : decode cX5_back 11 = .ok (.invokestatic 104, 3) := by decide +kernel
theorem dX5_back_14 : decode cX5_back 14 = .ok (.invokevirtual 111, 3) := by decide +kernel
theorem dX5_back_17 : decode cX5_back 17 = .ok (.istore 4, 2) := by decide +kernel
theorem dX5_back_19 : decode cX5_back 19 = .ok (.aload_n 0, 1) := by decide +kernel
theorem dX5_back_20 : decode cX5_back 20 = .ok (.getfield 7, 3) := by decide +kernel
theorem dX5_back_23 : decode cX5_back 23 = .ok (.iconst 4, 1) := by decide +kernel
theorem dX5_back_24 : decode cX5_back 24 = .ok (.aload_n 0, 1) := by decide +kernel
theorem dX5_back_25 : decode cX5_back 25 = .ok (.getfield 33, 3) := by decide +kernel
theorem dX5_back_28 : decode cX5_back 28 = .ok (.iload_n 1, 1) := by decide +kernel
theorem dX5_back_29 : decode cX5_back 29 = .ok (.iaload, 1) := by decide +kernel
theorem dX5_back_30 : decode cX5_back 30 = .ok (.iastore, 1) := by decide +kernel
theorem dX5_back_31 : decode cX5_back 31 = .ok (.aload_n 0, 1) := by decide +kernel
theorem dX5_back_32 : decode cX5_back 32 = .ok (.getfield 7, 3) := by decide +kernel
theorem dX5_back_35 : decode cX5_back 35 = .ok (.bipush 10, 2) := by decide +kernel
theorem dX5_back_37 : decode cX5_back 37 = .ok (.aload_n 0, 1) := by decide +kernel
theorem dX5_back_38 : decode cX5_back 38 = .ok (.getfield 36, 3) := by decide +kernel
theorem dX5_back_41 : decode cX5_back 41 = .ok (.iload_n 1, 1) := by decide +kernel
theorem dX5_back_42 : decode cX5_back 42 = .ok (.iaload, 1) := by decide +kernel
theorem dX5_back_43 : decode cX5_back 43 = .ok (.iastore, 1) := by decide +kernel
theorem dX5_back_44 : decode cX5_back 44 = .ok (.aload_n 0, 1) := by decide +kernel
theorem dX5_back_45 : decode cX5_back 45 = .ok (.getfield 7, 3) := by decide +kernel
theorem dX5_back_48 : decode cX5_back 48 = .ok (.bipush 11, 2) := by decide +kernel
theorem dX5_back_50 : decode cX5_back 50 = .ok (.aload_n 0, 1) := by decide +kernel
theorem dX5_back_51 : decode cX5_back 51 = .ok (.getfield 39, 3) := by decide +kernel
theorem dX5_back_54 : decode cX5_back 54 = .ok (.iload_n 1, 1) := by decide +kernel
theorem dX5_back_55 : decode cX5_back 55 = .ok (.iaload, 1) := by decide +kernel
theorem dX5_back_56 : decode cX5_back 56 = .ok (.iastore, 1) := by decide +kernel
theorem dX5_back_57 : decode cX5_back 57 = .ok (.iload_n 3, 1) := by decide +kernel
theorem dX5_back_58 : decode cX5_back 58 = .ok (.bipush 6, 2) := by decide +kernel
theorem dX5_back_60 : decode cX5_back 60 = .ok (.if_icmp .ge 19, 3) := by decide +kernel
theorem dX5_back_63 : decode cX5_back 63 = .ok (.aload_n 0, 1) := by decide +kernel
theorem dX5_back_64 : decode cX5_back 64 = .ok (.aload_n 0, 1) := by decide +kernel
theorem dX5_back_65 : decode cX5_back 65 = .ok (.getfield 7, 3) := by decide +kernel
theorem dX5_back_68 : decode cX5_back 68 = .ok (.iconst 4, 1) := by decide +kernel
theorem dX5_back_69 : decode cX5_back 69 = .ok (.iaload, 1) := by decide +kernel
theorem dX5_back_70 : decode cX5_back 70 = .ok (.iload 4, 2) := by decide +kernel
theorem dX5_back_72 : decode cX5_back 72 = .ok (.iconst 1, 1) := by decide +kernel
theorem dX5_back_73 : decode cX5_back 73 = .ok (.invokevirtual 45, 3) := by decide +kernel
theorem dX5_back_76 : decode cX5_back 76 = .ok (.goto 13, 3) := by decide +kernel
theorem dX5_back_79 : decode cX5_back 79 = .ok (.aload_n 0, 1) := by decide +kernel
theorem dX5_back_80 : decode cX5_back 80 = .ok (.iload_n 2, 1) := by decide +kernel
theorem dX5_back_81 : decode cX5_back 81 = .ok (.invokestatic 132, 3) := by decide +kernel
theorem dX5_back_84 : decode cX5_back 84 = .ok (.iload 4, 2) := by decide +kernel
theorem dX5_back_86 : decode cX5_back 86 = .ok (.invokevirtual 107, 3) := by decide +kernel
theorem dX5_back_89 : decode cX5_back 89 = .ok (.return_, 1) := by decide +kernel
theorem dX5_told_0 : decode cX5_told 0 = .ok (.aload_n 0, 1) := by decide +kernel
theorem dX5_told_1 : decode cX5_told 1 = .ok (.invokevirtual 87, 3) := by decide +kernel
theorem dX5_told_4 : decode cX5_told 4 = .ok (.ifCond .ne 7, 3) := by decide +kernel
theorem dX5_told_7 : decode cX5_told 7 = .ok (.iconst 0, 1) := by decide +kernel
theorem dX5_told_8 : decode cX5_told 8 = .ok (.goto 21, 3) := by decide +kernel
theorem dX5_told_11 : decode cX5_told 11 = .ok (.aload_n 0, 1) := by decide +kernel
theorem dX5_told_12 : decode cX5_told 12 = .ok (.invokevirtual 97, 3) := by decide +kernel
theorem dX5_told_15 : decode cX5_told 15 = .ok (.aload_n 0, 1) := by decide +kernel
theorem dX5_told_16 : decode cX5_told 16 = .ok (.getfield 7, 3) := by decide +kernel
theorem dX5_told_19 : decode cX5_told 19 = .ok (.iconst 4, 1) := by decide +kernel
theorem dX5_told_20 : decode cX5_told 20 = .ok (.iaload, 1) := by decide +kernel
theorem dX5_told_21 : decode cX5_told 21 = .ok (.if_icmp .ne 7, 3) := by decide +kernel
theorem dX5_told_24 : decode cX5_told 24 = .ok (.iconst 1, 1) := by decide +kernel
theorem dX5_told_25 : decode cX5_told 25 = .ok (.goto 4, 3) := by decide +kernel
theorem dX5_told_28 : decode cX5_told 28 = .ok (.iconst (-1), 1) := by decide +kernel
theorem dX5_told_29 : decode cX5_told 29 = .ok (.ireturn, 1) := by decide +kernel
theorem dX5_forMover_0 : decode cX5_forMover 0 = .ok (.aload_n 0, 1) := by decide +kernel
theorem dX5_forMover_1 : decode cX5_forMover 1 = .ok (.getfield 7, 3) := by decide +kernel
theorem dX5_forMover_4 : decode cX5_forMover 4 = .ok (.iconst 4, 1) := by decide +kernel
theorem dX5_forMover_5 : decode cX5_forMover 5 = .ok (.iaload, 1) := by decide +kernel
theorem dX5_forMover_6 : decode cX5_forMover 6 = .ok (.aload_n 0, 1) := by decide +kernel
theorem dX5_forMover_7 : decode cX5_forMover 7 = .ok (.getfield 33, 3) := by decide +kernel
theorem dX5_forMover_10 : decode cX5_forMover 10 = .ok (.iload_n 1, 1) := by decide +kernel
theorem dX5_forMover_11 : decode cX5_forMover 11 = .ok (.iaload, 1) := by decide +kernel
theorem dX5_forMover_12 : decode cX5_forMover 12 = .ok (.if_icmp .ne 7, 3) := by decide +kernel
theorem dX5_forMover_15 : decode cX5_forMover 15 = .ok (.iload_n 2, 1) := by decide +kernel
theorem dX5_forMover_16 : decode cX5_forMover 16 = .ok (.goto 5, 3) := by decide +kernel
theorem dX5_forMover_19 : decode cX5_forMover 19 = .ok (.iload_n 2, 1) := by decide +kernel
theorem dX5_forMover_20 : decode cX5_forMover 20 = .ok (.ineg, 1) := by decide +kernel
theorem dX5_forMover_21 : decode cX5_forMover 21 = .ok (.ireturn, 1) := by decide +kernel
theorem dX5_lookOne_0 : decode cX5_lookOne 0 = .ok (.aload_n 0, 1) := by decide +kernel
theorem dX5_lookOne_1 : decode cX5_lookOne 1 = .ok (.invokevirtual 94, 3) := by decide +kernel
theorem dX5_lookOne_4 : decode cX5_lookOne 4 = .ok (.ifCond .eq 8, 3) := by decide +kernel
theorem dX5_lookOne_7 : decode cX5_lookOne 7 = .ok (.aload_n 0, 1) := by decide +kernel
theorem dX5_lookOne_8 : decode cX5_lookOne 8 = .ok (.invokevirtual 135, 3) := by decide +kernel
theorem dX5_lookOne_11 : decode cX5_lookOne 11 = .ok (.ireturn, 1) := by decide +kernel
theorem dX5_lookOne_12 : decode cX5_lookOne 12 = .ok (.sipush (-10005), 3) := by decide +kernel
theorem dX5_lookOne_15 : decode cX5_lookOne 15 = .ok (.istore_n 1, 1) := by decide +kernel
theorem dX5_lookOne_16 : decode cX5_lookOne 16 = .ok (.iconst 0, 1) := by decide +kernel
theorem dX5_lookOne_17 : decode cX5_lookOne 17 = .ok (.istore_n 2, 1) := by decide +kernel
theorem dX5_lookOne_18 : decode cX5_lookOne 18 = .ok (.iload_n 2, 1) := by decide +kernel
theorem dX5_lookOne_19 : decode cX5_lookOne 19 = .ok (.bipush 84, 2) := by decide +kernel
theorem dX5_lookOne_21 : decode cX5_lookOne 21 = .ok (.if_icmp .ge 55, 3) := by decide +kernel
theorem dX5_lookOne_24 : decode cX5_lookOne 24 = .ok (.iload_n 1, 1) := by decide +kernel
theorem dX5_lookOne_25 : decode cX5_lookOne 25 = .ok (.iconst 1, 1) := by decide +kernel
theorem dX5_lookOne_26 : decode cX5_lookOne 26 = .ok (.if_icmp .ge 50, 3) := by decide +kernel
theorem dX5_lookOne_29 : decode cX5_lookOne 29 = .ok (.aload_n 0, 1) := by decide +kernel
theorem dX5_lookOne_30 : decode cX5_lookOne 30 = .ok (.iload_n 2, 1) := by decide +kernel
theorem dX5_lookOne_31 : decode cX5_lookOne 31 = .ok (.invokevirtual 138, 3) := by decide +kernel
theorem dX5_lookOne_34 : decode cX5_lookOne 34 = .ok (.ifCond .eq 36, 3) := by decide +kernel
theorem dX5_lookOne_37 : decode cX5_lookOne 37 = .ok (.aload_n 0, 1) := by decide +kernel
theorem dX5_lookOne_38 : decode cX5_lookOne 38 = .ok (.iconst 1, 1) := by decide +kernel
theorem dX5_lookOne_39 : decode cX5_lookOne 39 = .ok (.iload_n 2, 1) := by decide +kernel
theorem dX5_lookOne_40 : decode cX5_lookOne 40 = .ok (.invokevirtual 141, 3) := by decide +kernel
theorem dX5_lookOne_43 : decode cX5_lookOne 43 = .ok (.aload_n 0, 1) := by decide +kernel
theorem dX5_lookOne_44 : decode cX5_lookOne 44 = .ok (.iconst 1, 1) := by decide +kernel
theorem dX5_lookOne_45 : decode cX5_lookOne 45 = .ok (.aload_n 0, 1) := by decide +kernel
theorem dX5_lookOne_46 : decode cX5_lookOne 46 = .ok (.invokevirtual 135, 3) := by decide +kernel
theorem dX5_lookOne_49 : decode cX5_lookOne 49 = .ok (.invokevirtual 144, 3) := by decide +kernel
theorem dX5_lookOne_52 : decode cX5_lookOne 52 = .ok (.istore_n 3, 1) := by decide +kernel
theorem dX5_lookOne_53 : decode cX5_lookOne 53 = .ok (.aload_n 0, 1) := by decide +kernel
theorem dX5_lookOne_54 : decode cX5_lookOne 54 = .ok (.iconst 1, 1) := by decide +kernel
theorem dX5_lookOne_55 : decode cX5_lookOne 55 = .ok (.iload_n 2, 1) := by decide +kernel
theorem dX5_lookOne_56 : decode cX5_lookOne 56 = .ok (.invokevirtual 147, 3) := by decide +kernel
theorem dX5_lookOne_59 : decode cX5_lookOne 59 = .ok (.iload_n 3, 1) := by decide +kernel
theorem dX5_lookOne_60 : decode cX5_lookOne 60 = .ok (.iload_n 1, 1) := by decide +kernel
theorem dX5_lookOne_61 : decode cX5_lookOne 61 = .ok (.if_icmp .le 7, 3) := by decide +kernel
theorem dX5_lookOne_64 : decode cX5_lookOne 64 = .ok (.iload_n 3, 1) := by decide +kernel
theorem dX5_lookOne_65 : decode cX5_lookOne 65 = .ok (.goto 4, 3) := by decide +kernel
theorem dX5_lookOne_68 : decode cX5_lookOne 68 = .ok (.iload_n 1, 1) := by decide +kernel
theorem dX5_lookOne_69 : decode cX5_lookOne 69 = .ok (.istore_n 1, 1) := by decide +kernel
theorem dX5_lookOne_70 : decode cX5_lookOne 70 = .ok (.iinc 2 1, 3) := by decide +kernel
theorem dX5_lookOne_73 : decode cX5_lookOne 73 = .ok (.goto (-55), 3) := by decide +kernel
theorem dX5_lookOne_76 : decode cX5_lookOne 76 = .ok (.iload_n 1, 1) := by decide +kernel
theorem dX5_lookOne_77 : decode cX5_lookOne 77 = .ok (.sipush (-10005), 3) := by decide +kernel
theorem dX5_lookOne_80 : decode cX5_lookOne 80 = .ok (.if_icmp .ne 7, 3) := by decide +kernel
theorem dX5_lookOne_83 : decode cX5_lookOne 83 = .ok (.iconst 0, 1) := by decide +kernel
theorem dX5_lookOne_84 : decode cX5_lookOne 84 = .ok (.goto 4, 3) := by decide +kernel
theorem dX5_lookOne_87 : decode cX5_lookOne 87 = .ok (.iload_n 1, 1) := by decide +kernel
theorem dX5_lookOne_88 : decode cX5_lookOne 88 = .ok (.ireturn, 1) := by decide +kernel
theorem dX5_lookTwo_0 : decode cX5_lookTwo 0 = .ok (.aload_n 0, 1) := by decide +kernel
theorem dX5_lookTwo_1 : decode cX5_lookTwo 1 = .ok (.invokevirtual 94, 3) := by decide +kernel
theorem dX5_lookTwo_4 : decode cX5_lookTwo 4 = .ok (.ifCond .eq 8, 3) := by decide +kernel
theorem dX5_lookTwo_7 : decode cX5_lookTwo 7 = .ok (.aload_n 0, 1) := by decide +kernel
theorem dX5_lookTwo_8 : decode cX5_lookTwo 8 = .ok (.invokevirtual 135, 3) := by decide +kernel
theorem dX5_lookTwo_11 : decode cX5_lookTwo 11 = .ok (.ireturn, 1) := by decide +kernel
theorem dX5_lookTwo_12 : decode cX5_lookTwo 12 = .ok (.sipush (-10005), 3) := by decide +kernel
theorem dX5_lookTwo_15 : decode cX5_lookTwo 15 = .ok (.istore_n 1, 1) := by decide +kernel
theorem dX5_lookTwo_16 : decode cX5_lookTwo 16 = .ok (.iconst 0, 1) := by decide +kernel
theorem dX5_lookTwo_17 : decode cX5_lookTwo 17 = .ok (.istore_n 2, 1) := by decide +kernel
theorem dX5_lookTwo_18 : decode cX5_lookTwo 18 = .ok (.iload_n 2, 1) := by decide +kernel
theorem dX5_lookTwo_19 : decode cX5_lookTwo 19 = .ok (.bipush 84, 2) := by decide +kernel
theorem dX5_lookTwo_21 : decode cX5_lookTwo 21 = .ok (.if_icmp .ge 55, 3) := by decide +kernel
theorem dX5_lookTwo_24 : decode cX5_lookTwo 24 = .ok (.iload_n 1, 1) := by decide +kernel
theorem dX5_lookTwo_25 : decode cX5_lookTwo 25 = .ok (.iconst 1, 1) := by decide +kernel
theorem dX5_lookTwo_26 : decode cX5_lookTwo 26 = .ok (.if_icmp .ge 50, 3) := by decide +kernel
theorem dX5_lookTwo_29 : decode cX5_lookTwo 29 = .ok (.aload_n 0, 1) := by decide +kernel
theorem dX5_lookTwo_30 : decode cX5_lookTwo 30 = .ok (.iload_n 2, 1) := by decide +kernel
theorem dX5_lookTwo_31 : decode cX5_lookTwo 31 = .ok (.invokevirtual 138, 3) := by decide +kernel
theorem dX5_lookTwo_34 : decode cX5_lookTwo 34 = .ok (.ifCond .eq 36, 3) := by decide +kernel
theorem dX5_lookTwo_37 : decode cX5_lookTwo 37 = .ok (.aload_n 0, 1) := by decide +kernel
theorem dX5_lookTwo_38 : decode cX5_lookTwo 38 = .ok (.iconst 2, 1) := by decide +kernel
theorem dX5_lookTwo_39 : decode cX5_lookTwo 39 = .ok (.iload_n 2, 1) := by decide +kernel
theorem dX5_lookTwo_40 : decode cX5_lookTwo 40 = .ok (.invokevirtual 141, 3) := by decide +kernel
theorem dX5_lookTwo_43 : decode cX5_lookTwo 43 = .ok (.aload_n 0, 1) := by decide +kernel
theorem dX5_lookTwo_44 : decode cX5_lookTwo 44 = .ok (.iconst 2, 1) := by decide +kernel
theorem dX5_lookTwo_45 : decode cX5_lookTwo 45 = .ok (.aload_n 0, 1) := by decide +kernel
theorem dX5_lookTwo_46 : decode cX5_lookTwo 46 = .ok (.invokevirtual 150, 3) := by decide +kernel
theorem dX5_lookTwo_49 : decode cX5_lookTwo 49 = .ok (.invokevirtual 144, 3) := by decide +kernel
theorem dX5_lookTwo_52 : decode cX5_lookTwo 52 = .ok (.istore_n 3, 1) := by decide +kernel
theorem dX5_lookTwo_53 : decode cX5_lookTwo 53 = .ok (.aload_n 0, 1) := by decide +kernel
theorem dX5_lookTwo_54 : decode cX5_lookTwo 54 = .ok (.iconst 2, 1) := by decide +kernel
theorem dX5_lookTwo_55 : decode cX5_lookTwo 55 = .ok (.iload_n 2, 1) := by decide +kernel
theorem dX5_lookTwo_56 : decode cX5_lookTwo 56 = .ok (.invokevirtual 147, 3) := by decide +kernel
theorem dX5_lookTwo_59 : decode cX5_lookTwo 59 = .ok (.iload_n 3, 1) := by decide +kernel
theorem dX5_lookTwo_60 : decode cX5_lookTwo 60 = .ok (.iload_n 1, 1) := by decide +kernel
theorem dX5_lookTwo_61 : decode cX5_lookTwo 61 = .ok (.if_icmp .le 7, 3) := by decide +kernel
theorem dX5_lookTwo_64 : decode cX5_lookTwo 64 = .ok (.iload_n 3, 1) := by decide +kernel
theorem dX5_lookTwo_65 : decode cX5_lookTwo 65 = .ok (.goto 4, 3) := by decide +kernel
theorem dX5_lookTwo_68 : decode cX5_lookTwo 68 = .ok (.iload_n 1, 1) := by decide +kernel
theorem dX5_lookTwo_69 : decode cX5_lookTwo 69 = .ok (.istore_n 1, 1) := by decide +kernel
theorem dX5_lookTwo_70 : decode cX5_lookTwo 70 = .ok (.iinc 2 1, 3) := by decide +kernel
theorem dX5_lookTwo_73 : decode cX5_lookTwo 73 = .ok (.goto (-55), 3) := by decide +kernel
theorem dX5_lookTwo_76 : decode cX5_lookTwo 76 = .ok (.iload_n 1, 1) := by decide +kernel
theorem dX5_lookTwo_77 : decode cX5_lookTwo 77 = .ok (.sipush (-10005), 3) := by decide +kernel
theorem dX5_lookTwo_80 : decode cX5_lookTwo 80 = .ok (.if_icmp .ne 7, 3) := by decide +kernel
theorem dX5_lookTwo_83 : decode cX5_lookTwo 83 = .ok (.iconst 0, 1) := by decide +kernel
theorem dX5_lookTwo_84 : decode cX5_lookTwo 84 = .ok (.goto 4, 3) := by decide +kernel
theorem dX5_lookTwo_87 : decode cX5_lookTwo 87 = .ok (.iload_n 1, 1) := by decide +kernel
theorem dX5_lookTwo_88 : decode cX5_lookTwo 88 = .ok (.ireturn, 1) := by decide +kernel
theorem dX5_lookThree_0 : decode cX5_lookThree 0 = .ok (.aload_n 0, 1) := by decide +kernel
theorem dX5_lookThree_1 : decode cX5_lookThree 1 = .ok (.invokevirtual 94, 3) := by decide +kernel
theorem dX5_lookThree_4 : decode cX5_lookThree 4 = .ok (.ifCond .eq 8, 3) := by decide +kernel
theorem dX5_lookThree_7 : decode cX5_lookThree 7 = .ok (.aload_n 0, 1) := by decide +kernel
theorem dX5_lookThree_8 : decode cX5_lookThree 8 = .ok (.invokevirtual 135, 3) := by decide +kernel
theorem dX5_lookThree_11 : decode cX5_lookThree 11 = .ok (.ireturn, 1) := by decide +kernel
theorem dX5_lookThree_12 : decode cX5_lookThree 12 = .ok (.sipush (-10005), 3) := by decide +kernel
theorem dX5_lookThree_15 : decode cX5_lookThree 15 = .ok (.istore_n 1, 1) := by decide +kernel
theorem dX5_lookThree_16 : decode cX5_lookThree 16 = .ok (.iconst 0, 1) := by decide +kernel
theorem dX5_lookThree_17 : decode cX5_lookThree 17 = .ok (.istore_n 2, 1) := by decide +kernel
theorem dX5_lookThree_18 : decode cX5_lookThree 18 = .ok (.iload_n 2, 1) := by decide +kernel
theorem dX5_lookThree_19 : decode cX5_lookThree 19 = .ok (.bipush 84, 2) := by decide +kernel
theorem dX5_lookThree_21 : decode cX5_lookThree 21 = .ok (.if_icmp .ge 55, 3) := by decide +kernel
theorem dX5_lookThree_24 : decode cX5_lookThree 24 = .ok (.iload_n 1, 1) := by decide +kernel
theorem dX5_lookThree_25 : decode cX5_lookThree 25 = .ok (.iconst 1, 1) := by decide +kernel
theorem dX5_lookThree_26 : decode cX5_lookThree 26 = .ok (.if_icmp .ge 50, 3) := by decide +kernel
theorem dX5_lookThree_29 : decode cX5_lookThree 29 = .ok (.aload_n 0, 1) := by decide +kernel
theorem dX5_lookThree_30 : decode cX5_lookThree 30 = .ok (.iload_n 2, 1) := by decide +kernel
theorem dX5_lookThree_31 : decode cX5_lookThree 31 = .ok (.invokevirtual 138, 3) := by decide +kernel
theorem dX5_lookThree_34 : decode cX5_lookThree 34 = .ok (.ifCond .eq 36, 3) := by decide +kernel
theorem dX5_lookThree_37 : decode cX5_lookThree 37 = .ok (.aload_n 0, 1) := by decide +kernel
theorem dX5_lookThree_38 : decode cX5_lookThree 38 = .ok (.iconst 3, 1) := by decide +kernel
theorem dX5_lookThree_39 : decode cX5_lookThree 39 = .ok (.iload_n 2, 1) := by decide +kernel
theorem dX5_lookThree_40 : decode cX5_lookThree 40 = .ok (.invokevirtual 141, 3) := by decide +kernel
theorem dX5_lookThree_43 : decode cX5_lookThree 43 = .ok (.aload_n 0, 1) := by decide +kernel
theorem dX5_lookThree_44 : decode cX5_lookThree 44 = .ok (.iconst 3, 1) := by decide +kernel
theorem dX5_lookThree_45 : decode cX5_lookThree 45 = .ok (.aload_n 0, 1) := by decide +kernel
theorem dX5_lookThree_46 : decode cX5_lookThree 46 = .ok (.invokevirtual 153, 3) := by decide +kernel
theorem dX5_lookThree_49 : decode cX5_lookThree 49 = .ok (.invokevirtual 144, 3) := by decide +kernel
theorem dX5_lookThree_52 : decode cX5_lookThree 52 = .ok (.istore_n 3, 1) := by decide +kernel
theorem dX5_lookThree_53 : decode cX5_lookThree 53 = .ok (.aload_n 0, 1) := by decide +kernel
theorem dX5_lookThree_54 : decode cX5_lookThree 54 = .ok (.iconst 3, 1) := by decide +kernel
theorem dX5_lookThree_55 : decode cX5_lookThree 55 = .ok (.iload_n 2, 1) := by decide +kernel
theorem dX5_lookThree_56 : decode cX5_lookThree 56 = .ok (.invokevirtual 147, 3) := by decide +kernel
theorem dX5_lookThree_59 : decode cX5_lookThree 59 = .ok (.iload_n 3, 1) := by decide +kernel
theorem dX5_lookThree_60 : decode cX5_lookThree 60 = .ok (.iload_n 1, 1) := by decide +kernel
theorem dX5_lookThree_61 : decode cX5_lookThree 61 = .ok (.if_icmp .le 7, 3) := by decide +kernel
theorem dX5_lookThree_64 : decode cX5_lookThree 64 = .ok (.iload_n 3, 1) := by decide +kernel
theorem dX5_lookThree_65 : decode cX5_lookThree 65 = .ok (.goto 4, 3) := by decide +kernel
theorem dX5_lookThree_68 : decode cX5_lookThree 68 = .ok (.iload_n 1, 1) := by decide +kernel
theorem dX5_lookThree_69 : decode cX5_lookThree 69 = .ok (.istore_n 1, 1) := by decide +kernel
theorem dX5_lookThree_70 : decode cX5_lookThree 70 = .ok (.iinc 2 1, 3) := by decide +kernel
theorem dX5_lookThree_73 : decode cX5_lookThree 73 = .ok (.goto (-55), 3) := by decide +kernel
theorem dX5_lookThree_76 : decode cX5_lookThree 76 = .ok (.iload_n 1, 1) := by decide +kernel
theorem dX5_lookThree_77 : decode cX5_lookThree 77 = .ok (.sipush (-10005), 3) := by decide +kernel
theorem dX5_lookThree_80 : decode cX5_lookThree 80 = .ok (.if_icmp .ne 7, 3) := by decide +kernel
theorem dX5_lookThree_83 : decode cX5_lookThree 83 = .ok (.iconst 0, 1) := by decide +kernel
theorem dX5_lookThree_84 : decode cX5_lookThree 84 = .ok (.goto 4, 3) := by decide +kernel
theorem dX5_lookThree_87 : decode cX5_lookThree 87 = .ok (.iload_n 1, 1) := by decide +kernel
theorem dX5_lookThree_88 : decode cX5_lookThree 88 = .ok (.ireturn, 1) := by decide +kernel
theorem dX5_looked_0 : decode cX5_looked 0 = .ok (.iload_n 1, 1) := by decide +kernel
theorem dX5_looked_1 : decode cX5_looked 1 = .ok (.ifCond .ne 10, 3) := by decide +kernel
theorem dX5_looked_4 : decode cX5_looked 4 = .ok (.aload_n 0, 1) := by decide +kernel
theorem dX5_looked_5 : decode cX5_looked 5 = .ok (.invokevirtual 135, 3) := by decide +kernel
theorem dX5_looked_8 : decode cX5_looked 8 = .ok (.goto 31, 3) := by decide +kernel
theorem dX5_looked_11 : decode cX5_looked 11 = .ok (.iload_n 1, 1) := by decide +kernel
theorem dX5_looked_12 : decode cX5_looked 12 = .ok (.iconst 1, 1) := by decide +kernel
theorem dX5_looked_13 : decode cX5_looked 13 = .ok (.if_icmp .ne 10, 3) := by decide +kernel
theorem dX5_looked_16 : decode cX5_looked 16 = .ok (.aload_n 0, 1) := by decide +kernel
theorem dX5_looked_17 : decode cX5_looked 17 = .ok (.invokevirtual 150, 3) := by decide +kernel
theorem dX5_looked_20 : decode cX5_looked 20 = .ok (.goto 19, 3) := by decide +kernel
theorem dX5_looked_23 : decode cX5_looked 23 = .ok (.iload_n 1, 1) := by decide +kernel
theorem dX5_looked_24 : decode cX5_looked 24 = .ok (.iconst 2, 1) := by decide +kernel
theorem dX5_looked_25 : decode cX5_looked 25 = .ok (.if_icmp .ne 10, 3) := by decide +kernel
theorem dX5_looked_28 : decode cX5_looked 28 = .ok (.aload_n 0, 1) := by decide +kernel
theorem dX5_looked_29 : decode cX5_looked 29 = .ok (.invokevirtual 153, 3) := by decide +kernel
theorem dX5_looked_32 : decode cX5_looked 32 = .ok (.goto 7, 3) := by decide +kernel
theorem dX5_looked_35 : decode cX5_looked 35 = .ok (.aload_n 0, 1) := by decide +kernel
theorem dX5_looked_36 : decode cX5_looked 36 = .ok (.invokevirtual 156, 3) := by decide +kernel
theorem dX5_looked_39 : decode cX5_looked 39 = .ok (.ireturn, 1) := by decide +kernel
theorem dX5_look_0 : decode cX5_look 0 = .ok (.iload_n 1, 1) := by decide +kernel
theorem dX5_look_1 : decode cX5_look 1 = .ok (.iconst 0, 1) := by decide +kernel
theorem dX5_look_2 : decode cX5_look 2 = .ok (.iconst 3, 1) := by decide +kernel
theorem dX5_look_3 : decode cX5_look 3 = .ok (.invokestatic 49, 3) := by decide +kernel
theorem dX5_look_6 : decode cX5_look 6 = .ok (.ifCond .eq 11, 3) := by decide +kernel
theorem dX5_look_9 : decode cX5_look 9 = .ok (.aload_n 0, 1) := by decide +kernel
theorem dX5_look_10 : decode cX5_look 10 = .ok (.iload_n 1, 1) := by decide +kernel
theorem dX5_look_11 : decode cX5_look 11 = .ok (.invokevirtual 159, 3) := by decide +kernel
theorem dX5_look_14 : decode cX5_look 14 = .ok (.goto 6, 3) := by decide +kernel
theorem dX5_look_17 : decode cX5_look 17 = .ok (.sipush (-10002), 3) := by decide +kernel
theorem dX5_look_20 : decode cX5_look 20 = .ok (.ireturn, 1) := by decide +kernel
theorem dX5_bestMove_0 : decode cX5_bestMove 0 = .ok (.sipush (-10005), 3) := by decide +kernel
theorem dX5_bestMove_3 : decode cX5_bestMove 3 = .ok (.istore_n 2, 1) := by decide +kernel
theorem dX5_bestMove_4 : decode cX5_bestMove 4 = .ok (.sipush (-10005), 3) := by decide +kernel
theorem dX5_bestMove_7 : decode cX5_bestMove 7 = .ok (.istore_n 3, 1) := by decide +kernel
theorem dX5_bestMove_8 : decode cX5_bestMove 8 = .ok (.iconst 0, 1) := by decide +kernel
theorem dX5_bestMove_9 : decode cX5_bestMove 9 = .ok (.istore 4, 2) := by decide +kernel
theorem dX5_bestMove_11 : decode cX5_bestMove 11 = .ok (.iconst 0, 1) := by decide +kernel
theorem dX5_bestMove_12 : decode cX5_bestMove 12 = .ok (.istore 5, 2) := by decide +kernel
theorem dX5_bestMove_14 : decode cX5_bestMove 14 = .ok (.iload 5, 2) := by decide +kernel
theorem dX5_bestMove_16 : decode cX5_bestMove 16 = .ok (.bipush 84, 2) := by decide +kernel
theorem dX5_bestMove_18 : decode cX5_bestMove 18 = .ok (.if_icmp .ge 121, 3) := by decide +kernel
theorem dX5_bestMove_21 : decode cX5_bestMove 21 = .ok (.aload_n 0, 1) := by decide +kernel
theorem dX5_bestMove_22 : decode cX5_bestMove 22 = .ok (.iload 5, 2) := by decide +kernel
theorem dX5_bestMove_24 : decode cX5_bestMove 24 = .ok (.invokevirtual 138, 3) := by decide +kernel
theorem dX5_bestMove_27 : decode cX5_bestMove 27 = .ok (.ifCond .eq 106, 3) := by decide +kernel
theorem dX5_bestMove_30 : decode cX5_bestMove 30 = .ok (.aload_n 0, 1) := by decide +kernel
theorem dX5_bestMove_31 : decode cX5_bestMove 31 = .ok (.iload_n 1, 1) := by decide +kernel
theorem dX5_bestMove_32 : decode cX5_bestMove 32 = .ok (.iload 5, 2) := by decide +kernel
theorem dX5_bestMove_34 : decode cX5_bestMove 34 = .ok (.invokevirtual 141, 3) := by decide +kernel
theorem dX5_bestMove_37 : decode cX5_bestMove 37 = .ok (.aload_n 0, 1) := by decide +kernel
theorem dX5_bestMove_38 : decode cX5_bestMove 38 = .ok (.iload_n 1, 1) := by decide +kernel
theorem dX5_bestMove_39 : decode cX5_bestMove 39 = .ok (.aload_n 0, 1) := by decide +kernel
theorem dX5_bestMove_40 : decode cX5_bestMove 40 = .ok (.iload_n 1, 1) := by decide +kernel
theorem dX5_bestMove_41 : decode cX5_bestMove 41 = .ok (.iconst 1, 1) := by decide +kernel
theorem dX5_bestMove_42 : decode cX5_bestMove 42 = .ok (.isub, 1) := by decide +kernel
theorem dX5_bestMove_43 : decode cX5_bestMove 43 = .ok (.invokevirtual 159, 3) := by decide +kernel
theorem dX5_bestMove_46 : decode cX5_bestMove 46 = .ok (.invokevirtual 144, 3) := by decide +kernel
theorem dX5_bestMove_49 : decode cX5_bestMove 49 = .ok (.istore 6, 2) := by decide +kernel
theorem dX5_bestMove_51 : decode cX5_bestMove 51 = .ok (.aload_n 0, 1) := by decide +kernel
theorem dX5_bestMove_52 : decode cX5_bestMove 52 = .ok (.getfield 7, 3) := by decide +kernel
theorem dX5_bestMove_55 : decode cX5_bestMove 55 = .ok (.iconst 5, 1) := by decide +kernel
theorem dX5_bestMove_56 : decode cX5_bestMove 56 = .ok (.iaload, 1) := by decide +kernel
theorem dX5_bestMove_57 : decode cX5_bestMove 57 = .ok (.invokestatic 84, 3) := by decide +kernel
theorem dX5_bestMove_60 : decode cX5_bestMove 60 = .ok (.istore 7, 2) := by decide +kernel
theorem dX5_bestMove_62 : decode cX5_bestMove 62 = .ok (.aload_n 0, 1) := by decide +kernel
theorem dX5_bestMove_63 : decode cX5_bestMove 63 = .ok (.iload_n 1, 1) := by decide +kernel
theorem dX5_bestMove_64 : decode cX5_bestMove 64 = .ok (.iload 5, 2) := by decide +kernel
theorem dX5_bestMove_66 : decode cX5_bestMove 66 = .ok (.invokevirtual 147, 3) := by decide +kernel
theorem dX5_bestMove_69 : decode cX5_bestMove 69 = .ok (.iload 6, 2) := by decide +kernel
theorem dX5_bestMove_71 : decode cX5_bestMove 71 = .ok (.iload_n 3, 1) := by decide +kernel
theorem dX5_bestMove_72 : decode cX5_bestMove 72 = .ok (.if_icmp .gt 16, 3) := by decide +kernel
theorem dX5_bestMove_75 : decode cX5_bestMove 75 = .ok (.iload 6, 2) := by decide +kernel
theorem dX5_bestMove_77 : decode cX5_bestMove 77 = .ok (.iload_n 3, 1) := by decide +kernel
theorem dX5_bestMove_78 : decode cX5_bestMove 78 = .ok (.if_icmp .ne 14, 3) := by decide +kernel
theorem dX5_bestMove_81 : decode cX5_bestMove 81 = .ok (.iload 7, 2) := by decide +kernel
theorem dX5_bestMove_83 : decode cX5_bestMove 83 = .ok (.iload 4, 2) := by decide +kernel
theorem dX5_bestMove_85 : decode cX5_bestMove 85 = .ok (.if_icmp .ge 7, 3) := by decide +kernel
theorem dX5_bestMove_88 : decode cX5_bestMove 88 = .ok (.iconst 1, 1) := by decide +kernel
theorem dX5_bestMove_89 : decode cX5_bestMove 89 = .ok (.goto 4, 3) := by decide +kernel
theorem dX5_bestMove_92 : decode cX5_bestMove 92 = .ok (.iconst 0, 1) := by decide +kernel
theorem dX5_bestMove_93 : decode cX5_bestMove 93 = .ok (.istore 8, 2) := by decide +kernel
theorem dX5_bestMove_95 : decode cX5_bestMove 95 = .ok (.iload 8, 2) := by decide +kernel
theorem dX5_bestMove_97 : decode cX5_bestMove 97 = .ok (.ifCond .eq 8, 3) := by decide +kernel
theorem dX5_bestMove_100 : decode cX5_bestMove 100 = .ok (.iload 5, 2) := by decide +kernel
theorem dX5_bestMove_102 : decode cX5_bestMove 102 = .ok (.goto 4, 3) := by decide +kernel
theorem dX5_bestMove_105 : decode cX5_bestMove 105 = .ok (.iload_n 2, 1) := by decide +kernel
theorem dX5_bestMove_106 : decode cX5_bestMove 106 = .ok (.istore_n 2, 1) := by decide +kernel
theorem dX5_bestMove_107 : decode cX5_bestMove 107 = .ok (.iload 8, 2) := by decide +kernel
theorem dX5_bestMove_109 : decode cX5_bestMove 109 = .ok (.ifCond .eq 8, 3) := by decide +kernel
theorem dX5_bestMove_112 : decode cX5_bestMove 112 = .ok (.iload 6, 2) := by decide +kernel
theorem dX5_bestMove_114 : decode cX5_bestMove 114 = .ok (.goto 4, 3) := by decide +kernel
theorem dX5_bestMove_117 : decode cX5_bestMove 117 = .ok (.iload_n 3, 1) := by decide +kernel
theorem dX5_bestMove_118 : decode cX5_bestMove 118 = .ok (.istore_n 3, 1) := by decide +kernel
theorem dX5_bestMove_119 : decode cX5_bestMove 119 = .ok (.iload 8, 2) := by decide +kernel
theorem dX5_bestMove_121 : decode cX5_bestMove 121 = .ok (.ifCond .eq 8, 3) := by decide +kernel
theorem dX5_bestMove_124 : decode cX5_bestMove 124 = .ok (.iload 7, 2) := by decide +kernel
theorem dX5_bestMove_126 : decode cX5_bestMove 126 = .ok (.goto 5, 3) := by decide +kernel
theorem dX5_bestMove_129 : decode cX5_bestMove 129 = .ok (.iload 4, 2) := by decide +kernel
theorem dX5_bestMove_131 : decode cX5_bestMove 131 = .ok (.istore 4, 2) := by decide +kernel
theorem dX5_bestMove_133 : decode cX5_bestMove 133 = .ok (.iinc 5 1, 3) := by decide +kernel
theorem dX5_bestMove_136 : decode cX5_bestMove 136 = .ok (.goto (-122), 3) := by decide +kernel
theorem dX5_bestMove_139 : decode cX5_bestMove 139 = .ok (.iload_n 2, 1) := by decide +kernel
theorem dX5_bestMove_140 : decode cX5_bestMove 140 = .ok (.ireturn, 1) := by decide +kernel
theorem dX5_toldMove_0 : decode cX5_toldMove 0 = .ok (.bipush 100, 2) := by decide +kernel
theorem dX5_toldMove_2 : decode cX5_toldMove 2 = .ok (.iload_n 0, 1) := by decide +kernel
theorem dX5_toldMove_3 : decode cX5_toldMove 3 = .ok (.invokestatic 129, 3) := by decide +kernel
theorem dX5_toldMove_6 : decode cX5_toldMove 6 = .ok (.imul, 1) := by decide +kernel
theorem dX5_toldMove_7 : decode cX5_toldMove 7 = .ok (.iload_n 0, 1) := by decide +kernel
theorem dX5_toldMove_8 : decode cX5_toldMove 8 = .ok (.invokestatic 132, 3) := by decide +kernel
theorem dX5_toldMove_11 : decode cX5_toldMove 11 = .ok (.iadd, 1) := by decide +kernel
theorem dX5_toldMove_12 : decode cX5_toldMove 12 = .ok (.bipush 50, 2) := by decide +kernel
theorem dX5_toldMove_14 : decode cX5_toldMove 14 = .ok (.iadd, 1) := by decide +kernel
theorem dX5_toldMove_15 : decode cX5_toldMove 15 = .ok (.ireturn, 1) := by decide +kernel
theorem dX5_best_0 : decode cX5_best 0 = .ok (.iload_n 1, 1) := by decide +kernel
theorem dX5_best_1 : decode cX5_best 1 = .ok (.iconst 1, 1) := by decide +kernel
theorem dX5_best_2 : decode cX5_best 2 = .ok (.iconst 3, 1) := by decide +kernel
theorem dX5_best_3 : decode cX5_best 3 = .ok (.invokestatic 49, 3) := by decide +kernel
theorem dX5_best_6 : decode cX5_best 6 = .ok (.ifCond .ne 7, 3) := by decide +kernel
theorem dX5_best_9 : decode cX5_best 9 = .ok (.sipush (-10002), 3) := by decide +kernel
theorem dX5_best_12 : decode cX5_best 12 = .ok (.ireturn, 1) := by decide +kernel
theorem dX5_best_13 : decode cX5_best 13 = .ok (.aload_n 0, 1) := by decide +kernel
theorem dX5_best_14 : decode cX5_best 14 = .ok (.iload_n 1, 1) := by decide +kernel
theorem dX5_best_15 : decode cX5_best 15 = .ok (.invokevirtual 162, 3) := by decide +kernel
theorem dX5_best_18 : decode cX5_best 18 = .ok (.istore_n 2, 1) := by decide +kernel
theorem dX5_best_19 : decode cX5_best 19 = .ok (.iload_n 2, 1) := by decide +kernel
theorem dX5_best_20 : decode cX5_best 20 = .ok (.sipush (-10005), 3) := by decide +kernel
theorem dX5_best_23 : decode cX5_best 23 = .ok (.if_icmp .ne 9, 3) := by decide +kernel
theorem dX5_best_26 : decode cX5_best 26 = .ok (.sipush (-10005), 3) := by decide +kernel
theorem dX5_best_29 : decode cX5_best 29 = .ok (.goto 7, 3) := by decide +kernel
theorem dX5_best_32 : decode cX5_best 32 = .ok (.iload_n 2, 1) := by decide +kernel
theorem dX5_best_33 : decode cX5_best 33 = .ok (.invokestatic 165, 3) := by decide +kernel
theorem dX5_best_36 : decode cX5_best 36 = .ok (.ireturn, 1) := by decide +kernel
theorem dX5_play_0 : decode cX5_play 0 = .ok (.iload_n 1, 1) := by decide +kernel
theorem dX5_play_1 : decode cX5_play 1 = .ok (.iconst 1, 1) := by decide +kernel
theorem dX5_play_2 : decode cX5_play 2 = .ok (.iconst 3, 1) := by decide +kernel
theorem dX5_play_3 : decode cX5_play 3 = .ok (.invokestatic 49, 3) := by decide +kernel
theorem dX5_play_6 : decode cX5_play 6 = .ok (.ifCond .ne 7, 3) := by decide +kernel
theorem dX5_play_9 : decode cX5_play 9 = .ok (.sipush (-10002), 3) := by decide +kernel
theorem dX5_play_12 : decode cX5_play 12 = .ok (.ireturn, 1) := by decide +kernel
theorem dX5_play_13 : decode cX5_play 13 = .ok (.aload_n 0, 1) := by decide +kernel
theorem dX5_play_14 : decode cX5_play 14 = .ok (.iload_n 1, 1) := by decide +kernel
theorem dX5_play_15 : decode cX5_play 15 = .ok (.invokevirtual 162, 3) := by decide +kernel
theorem dX5_play_18 : decode cX5_play 18 = .ok (.istore_n 2, 1) := by decide +kernel
theorem dX5_play_19 : decode cX5_play 19 = .ok (.iload_n 2, 1) := by decide +kernel
theorem dX5_play_20 : decode cX5_play 20 = .ok (.sipush (-10005), 3) := by decide +kernel
theorem dX5_play_23 : decode cX5_play 23 = .ok (.if_icmp .ne 7, 3) := by decide +kernel
theorem dX5_play_26 : decode cX5_play 26 = .ok (.sipush (-10004), 3) := by decide +kernel
theorem dX5_play_29 : decode cX5_play 29 = .ok (.ireturn, 1) := by decide +kernel
theorem dX5_play_30 : decode cX5_play 30 = .ok (.aload_n 0, 1) := by decide +kernel
theorem dX5_play_31 : decode cX5_play 31 = .ok (.invokevirtual 81, 3) := by decide +kernel
theorem dX5_play_34 : decode cX5_play 34 = .ok (.aload_n 0, 1) := by decide +kernel
theorem dX5_play_35 : decode cX5_play 35 = .ok (.iload_n 2, 1) := by decide +kernel
theorem dX5_play_36 : decode cX5_play 36 = .ok (.invokestatic 129, 3) := by decide +kernel
theorem dX5_play_39 : decode cX5_play 39 = .ok (.iload_n 2, 1) := by decide +kernel
theorem dX5_play_40 : decode cX5_play 40 = .ok (.invokestatic 132, 3) := by decide +kernel
theorem dX5_play_43 : decode cX5_play 43 = .ok (.invokevirtual 120, 3) := by decide +kernel
theorem dX5_play_46 : decode cX5_play 46 = .ok (.ireturn, 1) := by decide +kernel
theorem dX5_setBag_0 : decode cX5_setBag 0 = .ok (.iload_n 1, 1) := by decide +kernel
theorem dX5_setBag_1 : decode cX5_setBag 1 = .ok (.invokestatic 168, 3) := by decide +kernel
theorem dX5_setBag_4 : decode cX5_setBag 4 = .ok (.ifCond .eq 10, 3) := by decide +kernel
theorem dX5_setBag_7 : decode cX5_setBag 7 = .ok (.iload_n 2, 1) := by decide +kernel
theorem dX5_setBag_8 : decode cX5_setBag 8 = .ok (.invokestatic 123, 3) := by decide +kernel
theorem dX5_setBag_11 : decode cX5_setBag 11 = .ok (.ifCond .ne 7, 3) := by decide +kernel
theorem dX5_setBag_14 : decode cX5_setBag 14 = .ok (.sipush (-10001), 3) := by decide +kernel
theorem dX5_setBag_17 : decode cX5_setBag 17 = .ok (.ireturn, 1) := by decide +kernel
theorem dX5_setBag_18 : decode cX5_setBag 18 = .ok (.iload_n 3, 1) := by decide +kernel
theorem dX5_setBag_19 : decode cX5_setBag 19 = .ok (.iconst 0, 1) := by decide +kernel
theorem dX5_setBag_20 : decode cX5_setBag 20 = .ok (.bipush 6, 2) := by decide +kernel
theorem dX5_setBag_22 : decode cX5_setBag 22 = .ok (.invokestatic 49, 3) := by decide +kernel
theorem dX5_setBag_25 : decode cX5_setBag 25 = .ok (.ifCond .ne 7, 3) := by decide +kernel
theorem dX5_setBag_28 : decode cX5_setBag 28 = .ok (.sipush (-10002), 3) := by decide +kernel
theorem dX5_setBag_31 : decode cX5_setBag 31 = .ok (.ireturn, 1) := by decide +kernel
theorem dX5_setBag_32 : decode cX5_setBag 32 = .ok (.aload_n 0, 1) := by decide +kernel
theorem dX5_setBag_33 : decode cX5_setBag 33 = .ok (.iload_n 1, 1) := by decide +kernel
theorem dX5_setBag_34 : decode cX5_setBag 34 = .ok (.iload_n 2, 1) := by decide +kernel
theorem dX5_setBag_35 : decode cX5_setBag 35 = .ok (.invokevirtual 57, 3) := by decide +kernel
theorem dX5_setBag_38 : decode cX5_setBag 38 = .ok (.istore 4, 2) := by decide +kernel
theorem dX5_setBag_40 : decode cX5_setBag 40 = .ok (.iload 4, 2) := by decide +kernel
theorem dX5_setBag_42 : decode cX5_setBag 42 = .ok (.iload_n 3, 1) := by decide +kernel
theorem dX5_setBag_43 : decode cX5_setBag 43 = .ok (.if_icmp .ne 7, 3) := by decide +kernel
theorem dX5_setBag_46 : decode cX5_setBag 46 = .ok (.sipush (-10005), 3) := by decide +kernel
theorem dX5_setBag_49 : decode cX5_setBag 49 = .ok (.ireturn, 1) := by decide +kernel
theorem dX5_setBag_50 : decode cX5_setBag 50 = .ok (.aload_n 0, 1) := by decide +kernel
theorem dX5_setBag_51 : decode cX5_setBag 51 = .ok (.invokevirtual 81, 3) := by decide +kernel
theorem dX5_setBag_54 : decode cX5_setBag 54 = .ok (.aload_n 0, 1) := by decide +kernel
theorem dX5_setBag_55 : decode cX5_setBag 55 = .ok (.getfield 7, 3) := by decide +kernel
theorem dX5_setBag_58 : decode cX5_setBag 58 = .ok (.aload_n 0, 1) := by decide +kernel
theorem dX5_setBag_59 : decode cX5_setBag 59 = .ok (.iload_n 1, 1) := by decide +kernel
theorem dX5_setBag_60 : decode cX5_setBag 60 = .ok (.iload_n 2, 1) := by decide +kernel
theorem dX5_setBag_61 : decode cX5_setBag 61 = .ok (.invokevirtual 53, 3) := by decide +kernel
theorem dX5_setBag_64 : decode cX5_setBag 64 = .ok (.iload_n 3, 1) := by decide +kernel
theorem dX5_setBag_65 : decode cX5_setBag 65 = .ok (.iastore, 1) := by decide +kernel
theorem dX5_setBag_66 : decode cX5_setBag 66 = .ok (.iload 4, 2) := by decide +kernel
theorem dX5_setBag_68 : decode cX5_setBag 68 = .ok (.ireturn, 1) := by decide +kernel
theorem dX5_isValue_0 : decode cX5_isValue 0 = .ok (.iload_n 0, 1) := by decide +kernel
theorem dX5_isValue_1 : decode cX5_isValue 1 = .ok (.ifCond .ne 12, 3) := by decide +kernel
theorem dX5_isValue_4 : decode cX5_isValue 4 = .ok (.iload_n 1, 1) := by decide +kernel
theorem dX5_isValue_5 : decode cX5_isValue 5 = .ok (.iconst 1, 1) := by decide +kernel
theorem dX5_isValue_6 : decode cX5_isValue 6 = .ok (.iconst 4, 1) := by decide +kernel
theorem dX5_isValue_7 : decode cX5_isValue 7 = .ok (.invokestatic 49, 3) := by decide +kernel
theorem dX5_isValue_10 : decode cX5_isValue 10 = .ok (.goto 24, 3) := by decide +kernel
theorem dX5_isValue_13 : decode cX5_isValue 13 = .ok (.iload_n 0, 1) := by decide +kernel
theorem dX5_isValue_14 : decode cX5_isValue 14 = .ok (.iconst 1, 1) := by decide +kernel
theorem dX5_isValue_15 : decode cX5_isValue 15 = .ok (.if_icmp .ne 13, 3) := by decide +kernel
theorem dX5_isValue_18 : decode cX5_isValue 18 = .ok (.iload_n 1, 1) := by decide +kernel
theorem dX5_isValue_19 : decode cX5_isValue 19 = .ok (.iconst 0, 1) := by decide +kernel
theorem dX5_isValue_20 : decode cX5_isValue 20 = .ok (.bipush 40, 2) := by decide +kernel
theorem dX5_isValue_22 : decode cX5_isValue 22 = .ok (.invokestatic 49, 3) := by decide +kernel
theorem dX5_isValue_25 : decode cX5_isValue 25 = .ok (.goto 9, 3) := by decide +kernel
theorem dX5_isValue_28 : decode cX5_isValue 28 = .ok (.iload_n 1, 1) := by decide +kernel
theorem dX5_isValue_29 : decode cX5_isValue 29 = .ok (.iconst 0, 1) := by decide +kernel
theorem dX5_isValue_30 : decode cX5_isValue 30 = .ok (.iconst 1, 1) := by decide +kernel
theorem dX5_isValue_31 : decode cX5_isValue 31 = .ok (.invokestatic 49, 3) := by decide +kernel
theorem dX5_isValue_34 : decode cX5_isValue 34 = .ok (.ireturn, 1) := by decide +kernel
theorem dX5_set_0 : decode cX5_set 0 = .ok (.iload_n 1, 1) := by decide +kernel
theorem dX5_set_1 : decode cX5_set 1 = .ok (.iconst 0, 1) := by decide +kernel
theorem dX5_set_2 : decode cX5_set 2 = .ok (.iconst 3, 1) := by decide +kernel
theorem dX5_set_3 : decode cX5_set 3 = .ok (.invokestatic 49, 3) := by decide +kernel
theorem dX5_set_6 : decode cX5_set 6 = .ok (.ifCond .ne 7, 3) := by decide +kernel
theorem dX5_set_9 : decode cX5_set 9 = .ok (.sipush (-10001), 3) := by decide +kernel
theorem dX5_set_12 : decode cX5_set 12 = .ok (.ireturn, 1) := by decide +kernel
theorem dX5_set_13 : decode cX5_set 13 = .ok (.iload_n 1, 1) := by decide +kernel
theorem dX5_set_14 : decode cX5_set 14 = .ok (.iload_n 2, 1) := by decide +kernel
theorem dX5_set_15 : decode cX5_set 15 = .ok (.invokestatic 171, 3) := by decide +kernel
theorem dX5_set_18 : decode cX5_set 18 = .ok (.ifCond .ne 7, 3) := by decide +kernel
theorem dX5_set_21 : decode cX5_set 21 = .ok (.sipush (-10002), 3) := by decide +kernel
theorem dX5_set_24 : decode cX5_set 24 = .ok (.ireturn, 1) := by decide +kernel
theorem dX5_set_25 : decode cX5_set 25 = .ok (.aload_n 0, 1) := by decide +kernel
theorem dX5_set_26 : decode cX5_set 26 = .ok (.getfield 7, 3) := by decide +kernel
theorem dX5_set_29 : decode cX5_set 29 = .ok (.iload_n 1, 1) := by decide +kernel
theorem dX5_set_30 : decode cX5_set 30 = .ok (.iaload, 1) := by decide +kernel
theorem dX5_set_31 : decode cX5_set 31 = .ok (.istore_n 3, 1) := by decide +kernel
theorem dX5_set_32 : decode cX5_set 32 = .ok (.iload_n 3, 1) := by decide +kernel
theorem dX5_set_33 : decode cX5_set 33 = .ok (.iload_n 2, 1) := by decide +kernel
theorem dX5_set_34 : decode cX5_set 34 = .ok (.if_icmp .ne 7, 3) := by decide +kernel
theorem dX5_set_37 : decode cX5_set 37 = .ok (.sipush (-10005), 3) := by decide +kernel
theorem dX5_set_40 : decode cX5_set 40 = .ok (.ireturn, 1) := by decide +kernel
theorem dX5_set_41 : decode cX5_set 41 = .ok (.aload_n 0, 1) := by decide +kernel
theorem dX5_set_42 : decode cX5_set 42 = .ok (.invokevirtual 81, 3) := by decide +kernel
theorem dX5_set_45 : decode cX5_set 45 = .ok (.aload_n 0, 1) := by decide +kernel
theorem dX5_set_46 : decode cX5_set 46 = .ok (.getfield 7, 3) := by decide +kernel
theorem dX5_set_49 : decode cX5_set 49 = .ok (.iload_n 1, 1) := by decide +kernel
theorem dX5_set_50 : decode cX5_set 50 = .ok (.iload_n 2, 1) := by decide +kernel
theorem dX5_set_51 : decode cX5_set 51 = .ok (.iastore, 1) := by decide +kernel
theorem dX5_set_52 : decode cX5_set 52 = .ok (.iload_n 3, 1) := by decide +kernel
theorem dX5_set_53 : decode cX5_set 53 = .ok (.ireturn, 1) := by decide +kernel
theorem dX5_setUp_0 : decode cX5_setUp 0 = .ok (.iload_n 1, 1) := by decide +kernel
theorem dX5_setUp_1 : decode cX5_setUp 1 = .ok (.invokestatic 123, 3) := by decide +kernel
theorem dX5_setUp_4 : decode cX5_setUp 4 = .ok (.ifCond .eq 10, 3) := by decide +kernel
theorem dX5_setUp_7 : decode cX5_setUp 7 = .ok (.iload_n 2, 1) := by decide +kernel
theorem dX5_setUp_8 : decode cX5_setUp 8 = .ok (.invokestatic 100, 3) := by decide +kernel
theorem dX5_setUp_11 : decode cX5_setUp 11 = .ok (.ifCond .ne 7, 3) := by decide +kernel
theorem dX5_setUp_14 : decode cX5_setUp 14 = .ok (.sipush (-10001), 3) := by decide +kernel
theorem dX5_setUp_17 : decode cX5_setUp 17 = .ok (.ireturn, 1) := by decide +kernel
theorem dX5_setUp_18 : decode cX5_setUp 18 = .ok (.aload_n 0, 1) := by decide +kernel
theorem dX5_setUp_19 : decode cX5_setUp 19 = .ok (.iload_n 2, 1) := by decide +kernel
theorem dX5_setUp_20 : decode cX5_setUp 20 = .ok (.invokevirtual 64, 3) := by decide +kernel
theorem dX5_setUp_23 : decode cX5_setUp 23 = .ok (.aload_n 0, 1) := by decide +kernel
theorem dX5_setUp_24 : decode cX5_setUp 24 = .ok (.getfield 7, 3) := by decide +kernel
theorem dX5_setUp_27 : decode cX5_setUp 27 = .ok (.iconst 0, 1) := by decide +kernel
theorem dX5_setUp_28 : decode cX5_setUp 28 = .ok (.iaload, 1) := by decide +kernel
theorem dX5_setUp_29 : decode cX5_setUp 29 = .ok (.if_icmp .lt 7, 3) := by decide +kernel
theorem dX5_setUp_32 : decode cX5_setUp 32 = .ok (.sipush (-10003), 3) := by decide +kernel
theorem dX5_setUp_35 : decode cX5_setUp 35 = .ok (.ireturn, 1) := by decide +kernel
theorem dX5_setUp_36 : decode cX5_setUp 36 = .ok (.aload_n 0, 1) := by decide +kernel
theorem dX5_setUp_37 : decode cX5_setUp 37 = .ok (.invokevirtual 81, 3) := by decide +kernel
theorem dX5_setUp_40 : decode cX5_setUp 40 = .ok (.aload_n 0, 1) := by decide +kernel
theorem dX5_setUp_41 : decode cX5_setUp 41 = .ok (.iload_n 2, 1) := by decide +kernel
theorem dX5_setUp_42 : decode cX5_setUp 42 = .ok (.iload_n 1, 1) := by decide +kernel
theorem dX5_setUp_43 : decode cX5_setUp 43 = .ok (.invokevirtual 107, 3) := by decide +kernel
theorem dX5_setUp_46 : decode cX5_setUp 46 = .ok (.aload_n 0, 1) := by decide +kernel
theorem dX5_setUp_47 : decode cX5_setUp 47 = .ok (.getfield 7, 3) := by decide +kernel
theorem dX5_setUp_50 : decode cX5_setUp 50 = .ok (.bipush 8, 2) := by decide +kernel
theorem dX5_setUp_52 : decode cX5_setUp 52 = .ok (.dup2, 1) := by decide +kernel
theorem dX5_setUp_53 : decode cX5_setUp 53 = .ok (.iaload, 1) := by decide +kernel
theorem dX5_setUp_54 : decode cX5_setUp 54 = .ok (.iload_n 1, 1) := by decide +kernel
theorem dX5_setUp_55 : decode cX5_setUp 55 = .ok (.iload_n 2, 1) := by decide +kernel
theorem dX5_setUp_56 : decode cX5_setUp 56 = .ok (.imul, 1) := by decide +kernel
theorem dX5_setUp_57 : decode cX5_setUp 57 = .ok (.iadd, 1) := by decide +kernel
theorem dX5_setUp_58 : decode cX5_setUp 58 = .ok (.iastore, 1) := by decide +kernel
theorem dX5_setUp_59 : decode cX5_setUp 59 = .ok (.aload_n 0, 1) := by decide +kernel
theorem dX5_setUp_60 : decode cX5_setUp 60 = .ok (.getfield 7, 3) := by decide +kernel
theorem dX5_setUp_63 : decode cX5_setUp 63 = .ok (.iconst 5, 1) := by decide +kernel
theorem dX5_setUp_64 : decode cX5_setUp 64 = .ok (.iaload, 1) := by decide +kernel
theorem dX5_setUp_65 : decode cX5_setUp 65 = .ok (.ireturn, 1) := by decide +kernel
theorem dX5_begin_0 : decode cX5_begin 0 = .ok (.aload_n 0, 1) := by decide +kernel
theorem dX5_begin_1 : decode cX5_begin 1 = .ok (.invokevirtual 81, 3) := by decide +kernel
theorem dX5_begin_4 : decode cX5_begin 4 = .ok (.aload_n 0, 1) := by decide +kernel
theorem dX5_begin_5 : decode cX5_begin 5 = .ok (.invokevirtual 77, 3) := by decide +kernel
theorem dX5_begin_8 : decode cX5_begin 8 = .ok (.istore_n 1, 1) := by decide +kernel
theorem dX5_begin_9 : decode cX5_begin 9 = .ok (.iconst 4, 1) := by decide +kernel
theorem dX5_begin_10 : decode cX5_begin 10 = .ok (.istore_n 2, 1) := by decide +kernel
theorem dX5_begin_11 : decode cX5_begin 11 = .ok (.iload_n 2, 1) := by decide +kernel
theorem dX5_begin_12 : decode cX5_begin 12 = .ok (.bipush 13, 2) := by decide +kernel
theorem dX5_begin_14 : decode cX5_begin 14 = .ok (.if_icmp .ge 16, 3) := by decide +kernel
theorem dX5_begin_17 : decode cX5_begin 17 = .ok (.aload_n 0, 1) := by decide +kernel
theorem dX5_begin_18 : decode cX5_begin 18 = .ok (.getfield 7, 3) := by decide +kernel
theorem dX5_begin_21 : decode cX5_begin 21 = .ok (.iload_n 2, 1) := by decide +kernel
theorem dX5_begin_22 : decode cX5_begin 22 = .ok (.iconst 0, 1) := by decide +kernel
theorem dX5_begin_23 : decode cX5_begin 23 = .ok (.iastore, 1) := by decide +kernel
theorem dX5_begin_24 : decode cX5_begin 24 = .ok (.iinc 2 1, 3) := by decide +kernel
theorem dX5_begin_27 : decode cX5_begin 27 = .ok (.goto (-16), 3) := by decide +kernel
theorem dX5_begin_30 : decode cX5_begin 30 = .ok (.bipush 23, 2) := by decide +kernel
theorem dX5_begin_32 : decode cX5_begin 32 = .ok (.istore_n 2, 1) := by decide +kernel
theorem dX5_begin_33 : decode cX5_begin 33 = .ok (.iload_n 2, 1) := by decide +kernel
theorem dX5_begin_34 : decode cX5_begin 34 = .ok (.sipush 243, 3) := by decide +kernel
theorem dX5_begin_37 : decode cX5_begin 37 = .ok (.if_icmp .ge 16, 3) := by decide +kernel
theorem dX5_begin_40 : decode cX5_begin 40 = .ok (.aload_n 0, 1) := by decide +kernel
theorem dX5_begin_41 : decode cX5_begin 41 = .ok (.getfield 7, 3) := by decide +kernel
theorem dX5_begin_44 : decode cX5_begin 44 = .ok (.iload_n 2, 1) := by decide +kernel
theorem dX5_begin_45 : decode cX5_begin 45 = .ok (.iconst 0, 1) := by decide +kernel
theorem dX5_begin_46 : decode cX5_begin 46 = .ok (.iastore, 1) := by decide +kernel
theorem dX5_begin_47 : decode cX5_begin 47 = .ok (.iinc 2 1, 3) := by decide +kernel
theorem dX5_begin_50 : decode cX5_begin 50 = .ok (.goto (-17), 3) := by decide +kernel
theorem dX5_begin_53 : decode cX5_begin 53 = .ok (.aload_n 0, 1) := by decide +kernel
theorem dX5_begin_54 : decode cX5_begin 54 = .ok (.getfield 7, 3) := by decide +kernel
theorem dX5_begin_57 : decode cX5_begin 57 = .ok (.bipush 10, 2) := by decide +kernel
theorem dX5_begin_59 : decode cX5_begin 59 = .ok (.iconst 1, 1) := by decide +kernel
theorem dX5_begin_60 : decode cX5_begin 60 = .ok (.iastore, 1) := by decide +kernel
theorem dX5_begin_61 : decode cX5_begin 61 = .ok (.iload_n 1, 1) := by decide +kernel
theorem dX5_begin_62 : decode cX5_begin 62 = .ok (.ireturn, 1) := by decide +kernel
theorem dX5_type_0 : decode cX5_type 0 = .ok (.aload_n 0, 1) := by decide +kernel
theorem dX5_type_1 : decode cX5_type 1 = .ok (.getfield 175, 3) := by decide +kernel
theorem dX5_type_4 : decode cX5_type 4 = .ok (.bipush 60, 2) := by decide +kernel
theorem dX5_type_6 : decode cX5_type 6 = .ok (.if_icmp .ne 7, 3) := by decide +kernel
theorem dX5_type_9 : decode cX5_type 9 = .ok (.sipush (-10003), 3) := by decide +kernel
theorem dX5_type_12 : decode cX5_type 12 = .ok (.ireturn, 1) := by decide +kernel
theorem dX5_type_13 : decode cX5_type 13 = .ok (.aload_n 0, 1) := by decide +kernel
theorem dX5_type_14 : decode cX5_type 14 = .ok (.getfield 22, 3) := by decide +kernel
theorem dX5_type_17 : decode cX5_type 17 = .ok (.aload_n 0, 1) := by decide +kernel
theorem dX5_type_18 : decode cX5_type 18 = .ok (.getfield 175, 3) := by decide +kernel
theorem dX5_type_21 : decode cX5_type 21 = .ok (.iload_n 1, 1) := by decide +kernel
theorem dX5_type_22 : decode cX5_type 22 = .ok (.castore, 1) := by decide +kernel
theorem dX5_type_23 : decode cX5_type 23 = .ok (.aload_n 0, 1) := by decide +kernel
theorem dX5_type_24 : decode cX5_type 24 = .ok (.dup, 1) := by decide +kernel
theorem dX5_type_25 : decode cX5_type 25 = .ok (.getfield 175, 3) := by decide +kernel
theorem dX5_type_28 : decode cX5_type 28 = .ok (.iconst 1, 1) := by decide +kernel
theorem dX5_type_29 : decode cX5_type 29 = .ok (.iadd, 1) := by decide +kernel
theorem dX5_type_30 : decode cX5_type 30 = .ok (.putfield 175, 3) := by decide +kernel
theorem dX5_type_33 : decode cX5_type 33 = .ok (.aload_n 0, 1) := by decide +kernel
theorem dX5_type_34 : decode cX5_type 34 = .ok (.getfield 175, 3) := by decide +kernel
theorem dX5_type_37 : decode cX5_type 37 = .ok (.ireturn, 1) := by decide +kernel
theorem dX5_clearText_0 : decode cX5_clearText 0 = .ok (.aload_n 0, 1) := by decide +kernel
theorem dX5_clearText_1 : decode cX5_clearText 1 = .ok (.getfield 175, 3) := by decide +kernel
theorem dX5_clearText_4 : decode cX5_clearText 4 = .ok (.istore_n 1, 1) := by decide +kernel
theorem dX5_clearText_5 : decode cX5_clearText 5 = .ok (.aload_n 0, 1) := by decide +kernel
theorem dX5_clearText_6 : decode cX5_clearText 6 = .ok (.iconst 0, 1) := by decide +kernel
theorem dX5_clearText_7 : decode cX5_clearText 7 = .ok (.putfield 175, 3) := by decide +kernel
theorem dX5_clearText_10 : decode cX5_clearText 10 = .ok (.iload_n 1, 1) := by decide +kernel
theorem dX5_clearText_11 : decode cX5_clearText 11 = .ok (.ireturn, 1) := by decide +kernel
theorem dX5_letter_0 : decode cX5_letter 0 = .ok (.aload_n 0, 1) := by decide +kernel
theorem dX5_letter_1 : decode cX5_letter 1 = .ok (.getfield 178, 3) := by decide +kernel
theorem dX5_letter_4 : decode cX5_letter 4 = .ok (.aload_n 0, 1) := by decide +kernel
theorem dX5_letter_5 : decode cX5_letter 5 = .ok (.getfield 175, 3) := by decide +kernel
theorem dX5_letter_8 : decode cX5_letter 8 = .ok (.if_icmp .ge 15, 3) := by decide +kernel
theorem dX5_letter_11 : decode cX5_letter 11 = .ok (.aload_n 0, 1) := by decide +kernel
theorem dX5_letter_12 : decode cX5_letter 12 = .ok (.getfield 22, 3) := by decide +kernel
theorem dX5_letter_15 : decode cX5_letter 15 = .ok (.aload_n 0, 1) := by decide +kernel
theorem dX5_letter_16 : decode cX5_letter 16 = .ok (.getfield 178, 3) := by decide +kernel
theorem dX5_letter_19 : decode cX5_letter 19 = .ok (.caload, 1) := by decide +kernel
theorem dX5_letter_20 : decode cX5_letter 20 = .ok (.goto 6, 3) := by decide +kernel
theorem dX5_letter_23 : decode cX5_letter 23 = .ok (.sipush (-10005), 3) := by decide +kernel
theorem dX5_letter_26 : decode cX5_letter 26 = .ok (.ireturn, 1) := by decide +kernel
theorem dX5_wants_0 : decode cX5_wants 0 = .ok (.aload_n 0, 1) := by decide +kernel
theorem dX5_wants_1 : decode cX5_wants 1 = .ok (.getfield 181, 3) := by decide +kernel
theorem dX5_wants_4 : decode cX5_wants 4 = .ok (.sipush (-10005), 3) := by decide +kernel
theorem dX5_wants_7 : decode cX5_wants 7 = .ok (.if_icmp .ne 31, 3) := by decide +kernel
theorem dX5_wants_10 : decode cX5_wants 10 = .ok (.aload_n 0, 1) := by decide +kernel
theorem dX5_wants_11 : decode cX5_wants 11 = .ok (.iload_n 1, 1) := by decide +kernel
theorem dX5_wants_12 : decode cX5_wants 12 = .ok (.ifCond .eq 9, 3) := by decide +kernel
theorem dX5_wants_15 : decode cX5_wants 15 = .ok (.sipush (-10005), 3) := by decide +kernel
theorem dX5_wants_18 : decode cX5_wants 18 = .ok (.goto 7, 3) := by decide +kernel
theorem dX5_wants_21 : decode cX5_wants 21 = .ok (.aload_n 0, 1) := by decide +kernel
theorem dX5_wants_22 : decode cX5_wants 22 = .ok (.getfield 178, 3) := by decide +kernel
theorem dX5_wants_25 : decode cX5_wants 25 = .ok (.putfield 181, 3) := by decide +kernel
theorem dX5_wants_28 : decode cX5_wants 28 = .ok (.aload_n 0, 1) := by decide +kernel
theorem dX5_wants_29 : decode cX5_wants 29 = .ok (.dup, 1) := by decide +kernel
theorem dX5_wants_30 : decode cX5_wants 30 = .ok (.getfield 178, 3) := by decide +kernel
theorem dX5_wants_33 : decode cX5_wants 33 = .ok (.iconst 1, 1) := by decide +kernel
theorem dX5_wants_34 : decode cX5_wants 34 = .ok (.iadd, 1) := by decide +kernel
theorem dX5_wants_35 : decode cX5_wants 35 = .ok (.putfield 178, 3) := by decide +kernel
theorem dX5_wants_38 : decode cX5_wants 38 = .ok (.return_, 1) := by decide +kernel
theorem dX5_isMinus_0 : decode cX5_isMinus 0 = .ok (.aload_n 0, 1) := by decide +kernel
theorem dX5_isMinus_1 : decode cX5_isMinus 1 = .ok (.getfield 181, 3) := by decide +kernel
theorem dX5_isMinus_4 : decode cX5_isMinus 4 = .ok (.sipush (-10005), 3) := by decide +kernel
theorem dX5_isMinus_7 : decode cX5_isMinus 7 = .ok (.if_icmp .ne 16, 3) := by decide +kernel
theorem dX5_isMinus_10 : decode cX5_isMinus 10 = .ok (.aload_n 0, 1) := by decide +kernel
theorem dX5_isMinus_11 : decode cX5_isMinus 11 = .ok (.invokevirtual 184, 3) := by decide +kernel
theorem dX5_isMinus_14 : decode cX5_isMinus 14 = .ok (.bipush 45, 2) := by decide +kernel
theorem dX5_isMinus_16 : decode cX5_isMinus 16 = .ok (.if_icmp .ne 7, 3) := by decide +kernel
theorem dX5_isMinus_19 : decode cX5_isMinus 19 = .ok (.iconst 1, 1) := by decide +kernel
theorem dX5_isMinus_20 : decode cX5_isMinus 20 = .ok (.goto 4, 3) := by decide +kernel
theorem dX5_isMinus_23 : decode cX5_isMinus 23 = .ok (.iconst 0, 1) := by decide +kernel
theorem dX5_isMinus_24 : decode cX5_isMinus 24 = .ok (.istore_n 1, 1) := by decide +kernel
theorem dX5_isMinus_25 : decode cX5_isMinus 25 = .ok (.aload_n 0, 1) := by decide +kernel
theorem dX5_isMinus_26 : decode cX5_isMinus 26 = .ok (.dup, 1) := by decide +kernel
theorem dX5_isMinus_27 : decode cX5_isMinus 27 = .ok (.getfield 178, 3) := by decide +kernel
theorem dX5_isMinus_30 : decode cX5_isMinus 30 = .ok (.iload_n 1, 1) := by decide +kernel
theorem dX5_isMinus_31 : decode cX5_isMinus 31 = .ok (.ifCond .eq 7, 3) := by decide +kernel
theorem dX5_isMinus_34 : decode cX5_isMinus 34 = .ok (.iconst 1, 1) := by decide +kernel
theorem dX5_isMinus_35 : decode cX5_isMinus 35 = .ok (.goto 4, 3) := by decide +kernel
theorem dX5_isMinus_38 : decode cX5_isMinus 38 = .ok (.iconst 0, 1) := by decide +kernel
theorem dX5_isMinus_39 : decode cX5_isMinus 39 = .ok (.iadd, 1) := by decide +kernel
theorem dX5_isMinus_40 : decode cX5_isMinus 40 = .ok (.putfield 178, 3) := by decide +kernel
theorem dX5_isMinus_43 : decode cX5_isMinus 43 = .ok (.iload_n 1, 1) := by decide +kernel
theorem dX5_isMinus_44 : decode cX5_isMinus 44 = .ok (.ireturn, 1) := by decide +kernel
theorem dX5_digit_0 : decode cX5_digit 0 = .ok (.aload_n 0, 1) := by decide +kernel
theorem dX5_digit_1 : decode cX5_digit 1 = .ok (.invokevirtual 184, 3) := by decide +kernel
theorem dX5_digit_4 : decode cX5_digit 4 = .ok (.bipush 48, 2) := by decide +kernel
theorem dX5_digit_6 : decode cX5_digit 6 = .ok (.isub, 1) := by decide +kernel
theorem dX5_digit_7 : decode cX5_digit 7 = .ok (.istore_n 1, 1) := by decide +kernel
theorem dX5_digit_8 : decode cX5_digit 8 = .ok (.aload_n 0, 1) := by decide +kernel
theorem dX5_digit_9 : decode cX5_digit 9 = .ok (.iload_n 1, 1) := by decide +kernel
theorem dX5_digit_10 : decode cX5_digit 10 = .ok (.iconst 1, 1) := by decide +kernel
theorem dX5_digit_11 : decode cX5_digit 11 = .ok (.bipush 6, 2) := by decide +kernel
theorem dX5_digit_13 : decode cX5_digit 13 = .ok (.invokestatic 49, 3) := by decide +kernel
theorem dX5_digit_16 : decode cX5_digit 16 = .ok (.invokevirtual 187, 3) := by decide +kernel
theorem dX5_digit_19 : decode cX5_digit 19 = .ok (.iload_n 1, 1) := by decide +kernel
theorem dX5_digit_20 : decode cX5_digit 20 = .ok (.ireturn, 1) := by decide +kernel
theorem dX5_readMove_0 : decode cX5_readMove 0 = .ok (.iconst 2, 1) := by decide +kernel
theorem dX5_readMove_1 : decode cX5_readMove 1 = .ok (.aload_n 0, 1) := by decide +kernel
theorem dX5_readMove_2 : decode cX5_readMove 2 = .ok (.getfield 191, 3) := by decide +kernel
theorem dX5_readMove_5 : decode cX5_readMove 5 = .ok (.imul, 1) := by decide +kernel
theorem dX5_readMove_6 : decode cX5_readMove 6 = .ok (.istore_n 1, 1) := by decide +kernel
theorem dX5_readMove_7 : decode cX5_readMove 7 = .ok (.aload_n 0, 1) := by decide +kernel
theorem dX5_readMove_8 : decode cX5_readMove 8 = .ok (.invokevirtual 194, 3) := by decide +kernel
theorem dX5_readMove_11 : decode cX5_readMove 11 = .ok (.istore_n 2, 1) := by decide +kernel
theorem dX5_readMove_12 : decode cX5_readMove 12 = .ok (.aload_n 0, 1) := by decide +kernel
theorem dX5_readMove_13 : decode cX5_readMove 13 = .ok (.invokevirtual 197, 3) := by decide +kernel
theorem dX5_readMove_16 : decode cX5_readMove 16 = .ok (.istore_n 3, 1) := by decide +kernel
theorem dX5_readMove_17 : decode cX5_readMove 17 = .ok (.aload_n 0, 1) := by decide +kernel
theorem dX5_readMove_18 : decode cX5_readMove 18 = .ok (.invokevirtual 184, 3) := by decide +kernel
theorem dX5_readMove_21 : decode cX5_readMove 21 = .ok (.istore 4, 2) := by decide +kernel
theorem dX5_readMove_23 : decode cX5_readMove 23 = .ok (.iload 4, 2) := by decide +kernel
theorem dX5_readMove_25 : decode cX5_readMove 25 = .ok (.bipush 64, 2) := by decide +kernel
theorem dX5_readMove_27 : decode cX5_readMove 27 = .ok (.if_icmp .ne 16, 3) := by decide +kernel
theorem dX5_readMove_30 : decode cX5_readMove 30 = .ok (.iload_n 2, 1) := by decide +kernel
theorem dX5_readMove_31 : decode cX5_readMove 31 = .ok (.ifCond .ne 12, 3) := by decide +kernel
theorem dX5_readMove_34 : decode cX5_readMove 34 = .ok (.iload_n 3, 1) := by decide +kernel
theorem dX5_readMove_35 : decode cX5_readMove 35 = .ok (.iconst 5, 1) := by decide +kernel
theorem dX5_readMove_36 : decode cX5_readMove 36 = .ok (.if_icmp .gt 7, 3) := by decide +kernel
theorem dX5_readMove_39 : decode cX5_readMove 39 = .ok (.iconst 1, 1) := by decide +kernel
theorem dX5_readMove_40 : decode cX5_readMove 40 = .ok (.goto 4, 3) := by decide +kernel
theorem dX5_readMove_43 : decode cX5_readMove 43 = .ok (.iconst 0, 1) := by decide +kernel
theorem dX5_readMove_44 : decode cX5_readMove 44 = .ok (.istore 5, 2) := by decide +kernel
theorem dX5_readMove_46 : decode cX5_readMove 46 = .ok (.aload_n 0, 1) := by decide +kernel
theorem dX5_readMove_47 : decode cX5_readMove 47 = .ok (.iload 5, 2) := by decide +kernel
theorem dX5_readMove_49 : decode cX5_readMove 49 = .ok (.ifCond .ne 17, 3) := by decide +kernel
theorem dX5_readMove_52 : decode cX5_readMove 52 = .ok (.iload 4, 2) := by decide +kernel
theorem dX5_readMove_54 : decode cX5_readMove 54 = .ok (.bipush 105, 2) := by decide +kernel
theorem dX5_readMove_56 : decode cX5_readMove 56 = .ok (.if_icmp .eq 10, 3) := by decide +kernel
theorem dX5_readMove_59 : decode cX5_readMove 59 = .ok (.iload 4, 2) := by decide +kernel
theorem dX5_readMove_61 : decode cX5_readMove 61 = .ok (.bipush 111, 2) := by decide +kernel
theorem dX5_readMove_63 : decode cX5_readMove 63 = .ok (.if_icmp .ne 7, 3) := by decide +kernel
theorem dX5_readMove_66 : decode cX5_readMove 66 = .ok (.iconst 1, 1) := by decide +kernel
theorem dX5_readMove_67 : decode cX5_readMove 67 = .ok (.goto 4, 3) := by decide +kernel
theorem dX5_readMove_70 : decode cX5_readMove 70 = .ok (.iconst 0, 1) := by decide +kernel
theorem dX5_readMove_71 : decode cX5_readMove 71 = .ok (.invokevirtual 187, 3) := by decide +kernel
theorem dX5_readMove_74 : decode cX5_readMove 74 = .ok (.iload 5, 2) := by decide +kernel
theorem dX5_readMove_76 : decode cX5_readMove 76 = .ok (.ifCond .eq 23, 3) := by decide +kernel
theorem dX5_readMove_79 : decode cX5_readMove 79 = .ok (.aload_n 0, 1) := by decide +kernel
theorem dX5_readMove_80 : decode cX5_readMove 80 = .ok (.invokevirtual 194, 3) := by decide +kernel
theorem dX5_readMove_83 : decode cX5_readMove 83 = .ok (.istore_n 2, 1) := by decide +kernel
theorem dX5_readMove_84 : decode cX5_readMove 84 = .ok (.aload_n 0, 1) := by decide +kernel
theorem dX5_readMove_85 : decode cX5_readMove 85 = .ok (.getfield 42, 3) := by decide +kernel
theorem dX5_readMove_88 : decode cX5_readMove 88 = .ok (.iload_n 1, 1) := by decide +kernel
theorem dX5_readMove_89 : decode cX5_readMove 89 = .ok (.iload_n 3, 1) := by decide +kernel
theorem dX5_readMove_90 : decode cX5_readMove 90 = .ok (.iastore, 1) := by decide +kernel
theorem dX5_readMove_91 : decode cX5_readMove 91 = .ok (.aload_n 0, 1) := by decide +kernel
theorem dX5_readMove_92 : decode cX5_readMove 92 = .ok (.invokevirtual 197, 3) := by decide +kernel
theorem dX5_readMove_95 : decode cX5_readMove 95 = .ok (.istore_n 3, 1) := by decide +kernel
theorem dX5_readMove_96 : decode cX5_readMove 96 = .ok (.goto 23, 3) := by decide +kernel
theorem dX5_readMove_99 : decode cX5_readMove 99 = .ok (.aload_n 0, 1) := by decide +kernel
theorem dX5_readMove_100 : decode cX5_readMove 100 = .ok (.getfield 42, 3) := by decide +kernel
theorem dX5_readMove_103 : decode cX5_readMove 103 = .ok (.iload_n 1, 1) := by decide +kernel
theorem dX5_readMove_104 : decode cX5_readMove 104 = .ok (.iload 4, 2) := by decide +kernel
theorem dX5_readMove_106 : decode cX5_readMove 106 = .ok (.bipush 105, 2) := by decide +kernel
theorem dX5_readMove_108 : decode cX5_readMove 108 = .ok (.if_icmp .ne 8, 3) := by decide +kernel
theorem dX5_readMove_111 : decode cX5_readMove 111 = .ok (.bipush 6, 2) := by decide +kernel
theorem dX5_readMove_113 : decode cX5_readMove 113 = .ok (.goto 5, 3) := by decide +kernel
theorem dX5_readMove_116 : decode cX5_readMove 116 = .ok (.bipush 7, 2) := by decide +kernel
theorem dX5_readMove_118 : decode cX5_readMove 118 = .ok (.iastore, 1) := by decide +kernel
theorem dX5_readMove_119 : decode cX5_readMove 119 = .ok (.aload_n 0, 1) := by decide +kernel
theorem dX5_readMove_120 : decode cX5_readMove 120 = .ok (.getfield 42, 3) := by decide +kernel
theorem dX5_readMove_123 : decode cX5_readMove 123 = .ok (.iload_n 1, 1) := by decide +kernel
theorem dX5_readMove_124 : decode cX5_readMove 124 = .ok (.iconst 1, 1) := by decide +kernel
theorem dX5_readMove_125 : decode cX5_readMove 125 = .ok (.iadd, 1) := by decide +kernel
theorem dX5_readMove_126 : decode cX5_readMove 126 = .ok (.iload_n 2, 1) := by decide +kernel
theorem dX5_readMove_127 : decode cX5_readMove 127 = .ok (.ifCond .eq 8, 3) := by decide +kernel
theorem dX5_readMove_130 : decode cX5_readMove 130 = .ok (.iload_n 3, 1) := by decide +kernel
theorem dX5_readMove_131 : decode cX5_readMove 131 = .ok (.ineg, 1) := by decide +kernel
theorem dX5_readMove_132 : decode cX5_readMove 132 = .ok (.goto 4, 3) := by decide +kernel
theorem dX5_readMove_135 : decode cX5_readMove 135 = .ok (.iload_n 3, 1) := by decide +kernel
theorem dX5_readMove_136 : decode cX5_readMove 136 = .ok (.iastore, 1) := by decide +kernel
theorem dX5_readMove_137 : decode cX5_readMove 137 = .ok (.aload_n 0, 1) := by decide +kernel
theorem dX5_readMove_138 : decode cX5_readMove 138 = .ok (.dup, 1) := by decide +kernel
theorem dX5_readMove_139 : decode cX5_readMove 139 = .ok (.getfield 191, 3) := by decide +kernel
theorem dX5_readMove_142 : decode cX5_readMove 142 = .ok (.iconst 1, 1) := by decide +kernel
theorem dX5_readMove_143 : decode cX5_readMove 143 = .ok (.iadd, 1) := by decide +kernel
theorem dX5_readMove_144 : decode cX5_readMove 144 = .ok (.putfield 191, 3) := by decide +kernel
theorem dX5_readMove_147 : decode cX5_readMove 147 = .ok (.return_, 1) := by decide +kernel
theorem dX5_readText_0 : decode cX5_readText 0 = .ok (.aload_n 0, 1) := by decide +kernel
theorem dX5_readText_1 : decode cX5_readText 1 = .ok (.iconst 0, 1) := by decide +kernel
theorem dX5_readText_2 : decode cX5_readText 2 = .ok (.putfield 191, 3) := by decide +kernel
theorem dX5_readText_5 : decode cX5_readText 5 = .ok (.aload_n 0, 1) := by decide +kernel
theorem dX5_readText_6 : decode cX5_readText 6 = .ok (.iconst 0, 1) := by decide +kernel
theorem dX5_readText_7 : decode cX5_readText 7 = .ok (.putfield 178, 3) := by decide +kernel
theorem dX5_readText_10 : decode cX5_readText 10 = .ok (.aload_n 0, 1) := by decide +kernel
theorem dX5_readText_11 : decode cX5_readText 11 = .ok (.sipush (-10005), 3) := by decide +kernel
theorem dX5_readText_14 : decode cX5_readText 14 = .ok (.putfield 181, 3) := by decide +kernel
theorem dX5_readText_17 : decode cX5_readText 17 = .ok (.iconst 1, 1) := by decide +kernel
theorem dX5_readText_18 : decode cX5_readText 18 = .ok (.istore_n 1, 1) := by decide +kernel
theorem dX5_readText_19 : decode cX5_readText 19 = .ok (.iload_n 1, 1) := by decide +kernel
theorem dX5_readText_20 : decode cX5_readText 20 = .ok (.ifCond .eq 75, 3) := by decide +kernel
theorem dX5_readText_23 : decode cX5_readText 23 = .ok (.aload_n 0, 1) := by decide +kernel
theorem dX5_readText_24 : decode cX5_readText 24 = .ok (.invokevirtual 200, 3) := by decide +kernel
theorem dX5_readText_27 : decode cX5_readText 27 = .ok (.aload_n 0, 1) := by decide +kernel
theorem dX5_readText_28 : decode cX5_readText 28 = .ok (.getfield 181, 3) := by decide +kernel
theorem dX5_readText_31 : decode cX5_readText 31 = .ok (.sipush (-10005), 3) := by decide +kernel
theorem dX5_readText_34 : decode cX5_readText 34 = .ok (.if_icmp .ne 18, 3) := by decide +kernel
theorem dX5_readText_37 : decode cX5_readText 37 = .ok (.aload_n 0, 1) := by decide +kernel
theorem dX5_readText_38 : decode cX5_readText 38 = .ok (.getfield 178, 3) := by decide +kernel
theorem dX5_readText_41 : decode cX5_readText 41 = .ok (.aload_n 0, 1) := by decide +kernel
theorem dX5_readText_42 : decode cX5_readText 42 = .ok (.getfield 175, 3) := by decide +kernel
theorem dX5_readText_45 : decode cX5_readText 45 = .ok (.if_icmp .ge 7, 3) := by decide +kernel
theorem dX5_readText_48 : decode cX5_readText 48 = .ok (.iconst 1, 1) := by decide +kernel
theorem dX5_readText_49 : decode cX5_readText 49 = .ok (.goto 4, 3) := by decide +kernel
theorem dX5_readText_52 : decode cX5_readText 52 = .ok (.iconst 0, 1) := by decide +kernel
theorem dX5_readText_53 : decode cX5_readText 53 = .ok (.istore_n 1, 1) := by decide +kernel
theorem dX5_readText_54 : decode cX5_readText 54 = .ok (.iload_n 1, 1) := by decide +kernel
theorem dX5_readText_55 : decode cX5_readText 55 = .ok (.ifCond .eq (-36), 3) := by decide +kernel
theorem dX5_readText_58 : decode cX5_readText 58 = .ok (.aload_n 0, 1) := by decide +kernel
theorem dX5_readText_59 : decode cX5_readText 59 = .ok (.aload_n 0, 1) := by decide +kernel
theorem dX5_readText_60 : decode cX5_readText 60 = .ok (.invokevirtual 184, 3) := by decide +kernel
theorem dX5_readText_63 : decode cX5_readText 63 = .ok (.bipush 59, 2) := by decide +kernel
theorem dX5_readText_65 : decode cX5_readText 65 = .ok (.if_icmp .ne 7, 3) := by decide +kernel
theorem dX5_readText_68 : decode cX5_readText 68 = .ok (.iconst 1, 1) := by decide +kernel
theorem dX5_readText_69 : decode cX5_readText 69 = .ok (.goto 4, 3) := by decide +kernel
theorem dX5_readText_72 : decode cX5_readText 72 = .ok (.iconst 0, 1) := by decide +kernel
theorem dX5_readText_73 : decode cX5_readText 73 = .ok (.invokevirtual 187, 3) := by decide +kernel
theorem dX5_readText_76 : decode cX5_readText 76 = .ok (.aload_n 0, 1) := by decide +kernel
theorem dX5_readText_77 : decode cX5_readText 77 = .ok (.getfield 181, 3) := by decide +kernel
theorem dX5_readText_80 : decode cX5_readText 80 = .ok (.sipush (-10005), 3) := by decide +kernel
theorem dX5_readText_83 : decode cX5_readText 83 = .ok (.if_icmp .ne 7, 3) := by decide +kernel
theorem dX5_readText_86 : decode cX5_readText 86 = .ok (.iconst 1, 1) := by decide +kernel
theorem dX5_readText_87 : decode cX5_readText 87 = .ok (.goto 4, 3) := by decide +kernel
theorem dX5_readText_90 : decode cX5_readText 90 = .ok (.iconst 0, 1) := by decide +kernel
theorem dX5_readText_91 : decode cX5_readText 91 = .ok (.istore_n 1, 1) := by decide +kernel
theorem dX5_readText_92 : decode cX5_readText 92 = .ok (.goto (-73), 3) := by decide +kernel
theorem dX5_readText_95 : decode cX5_readText 95 = .ok (.aload_n 0, 1) := by decide +kernel
theorem dX5_readText_96 : decode cX5_readText 96 = .ok (.getfield 181, 3) := by decide +kernel
theorem dX5_readText_99 : decode cX5_readText 99 = .ok (.ireturn, 1) := by decide +kernel
theorem dX5_perform_0 : decode cX5_perform 0 = .ok (.aload_n 0, 1) := by decide +kernel
theorem dX5_perform_1 : decode cX5_perform 1 = .ok (.invokevirtual 203, 3) := by decide +kernel
theorem dX5_perform_4 : decode cX5_perform 4 = .ok (.istore_n 1, 1) := by decide +kernel
theorem dX5_perform_5 : decode cX5_perform 5 = .ok (.iload_n 1, 1) := by decide +kernel
theorem dX5_perform_6 : decode cX5_perform 6 = .ok (.sipush (-10005), 3) := by decide +kernel
theorem dX5_perform_9 : decode cX5_perform 9 = .ok (.if_icmp .eq 9, 3) := by decide +kernel
theorem dX5_perform_12 : decode cX5_perform 12 = .ok (.sipush (-10100), 3) := by decide +kernel
theorem dX5_perform_15 : decode cX5_perform 15 = .ok (.iload_n 1, 1) := by decide +kernel
theorem dX5_perform_16 : decode cX5_perform 16 = .ok (.isub, 1) := by decide +kernel
theorem dX5_perform_17 : decode cX5_perform 17 = .ok (.ireturn, 1) := by decide +kernel
theorem dX5_perform_18 : decode cX5_perform 18 = .ok (.iconst 0, 1) := by decide +kernel
theorem dX5_perform_19 : decode cX5_perform 19 = .ok (.istore_n 2, 1) := by decide +kernel
theorem dX5_perform_20 : decode cX5_perform 20 = .ok (.iload_n 2, 1) := by decide +kernel
theorem dX5_perform_21 : decode cX5_perform 21 = .ok (.sipush 243, 3) := by decide +kernel
theorem dX5_perform_24 : decode cX5_perform 24 = .ok (.if_icmp .ge 21, 3) := by decide +kernel
theorem dX5_perform_27 : decode cX5_perform 27 = .ok (.aload_n 0, 1) := by decide +kernel
theorem dX5_perform_28 : decode cX5_perform 28 = .ok (.getfield 19, 3) := by decide +kernel
theorem dX5_perform_31 : decode cX5_perform 31 = .ok (.iload_n 2, 1) := by decide +kernel
theorem dX5_perform_32 : decode cX5_perform 32 = .ok (.aload_n 0, 1) := by decide +kernel
theorem dX5_perform_33 : decode cX5_perform 33 = .ok (.getfield 7, 3) := by decide +kernel
theorem dX5_perform_36 : decode cX5_perform 36 = .ok (.iload_n 2, 1) := by decide +kernel
theorem dX5_perform_37 : decode cX5_perform 37 = .ok (.iaload, 1) := by decide +kernel
theorem dX5_perform_38 : decode cX5_perform 38 = .ok (.iastore, 1) := by decide +kernel
theorem dX5_perform_39 : decode cX5_perform 39 = .ok (.iinc 2 1, 3) := by decide +kernel
theorem dX5_perform_42 : decode cX5_perform 42 = .ok (.goto (-22), 3) := by decide +kernel
theorem dX5_perform_45 : decode cX5_perform 45 = .ok (.iconst 0, 1) := by decide +kernel
theorem dX5_perform_46 : decode cX5_perform 46 = .ok (.istore_n 2, 1) := by decide +kernel
theorem dX5_perform_47 : decode cX5_perform 47 = .ok (.iload_n 2, 1) := by decide +kernel
theorem dX5_perform_48 : decode cX5_perform 48 = .ok (.aload_n 0, 1) := by decide +kernel
theorem dX5_perform_49 : decode cX5_perform 49 = .ok (.getfield 191, 3) := by decide +kernel
theorem dX5_perform_52 : decode cX5_perform 52 = .ok (.if_icmp .ge 104, 3) := by decide +kernel
theorem dX5_perform_55 : decode cX5_perform 55 = .ok (.aload_n 0, 1) := by decide +kernel
theorem dX5_perform_56 : decode cX5_perform 56 = .ok (.aload_n 0, 1) := by decide +kernel
theorem dX5_perform_57 : decode cX5_perform 57 = .ok (.getfield 42, 3) := by decide +kernel
theorem dX5_perform_60 : decode cX5_perform 60 = .ok (.iconst 2, 1) := by decide +kernel
theorem dX5_perform_61 : decode cX5_perform 61 = .ok (.iload_n 2, 1) := by decide +kernel
theorem dX5_perform_62 : decode cX5_perform 62 = .ok (.imul, 1) := by decide +kernel
theorem dX5_perform_63 : decode cX5_perform 63 = .ok (.iaload, 1) := by decide +kernel
theorem dX5_perform_64 : decode cX5_perform 64 = .ok (.aload_n 0, 1) := by decide +kernel
theorem dX5_perform_65 : decode cX5_perform 65 = .ok (.getfield 42, 3) := by decide +kernel
theorem dX5_perform_68 : decode cX5_perform 68 = .ok (.iconst 2, 1) := by decide +kernel
theorem dX5_perform_69 : decode cX5_perform 69 = .ok (.iload_n 2, 1) := by decide +kernel
theorem dX5_perform_70 : decode cX5_perform 70 = .ok (.imul, 1) := by decide +kernel
theorem dX5_perform_71 : decode cX5_perform 71 = .ok (.iconst 1, 1) := by decide +kernel
theorem dX5_perform_72 : decode cX5_perform 72 = .ok (.iadd, 1) := by decide +kernel
theorem dX5_perform_73 : decode cX5_perform 73 = .ok (.iaload, 1) := by decide +kernel
theorem dX5_perform_74 : decode cX5_perform 74 = .ok (.invokevirtual 117, 3) := by decide +kernel
theorem dX5_perform_77 : decode cX5_perform 77 = .ok (.istore_n 3, 1) := by decide +kernel
theorem dX5_perform_78 : decode cX5_perform 78 = .ok (.iload_n 3, 1) := by decide +kernel
theorem dX5_perform_79 : decode cX5_perform 79 = .ok (.ifCond .le 48, 3) := by decide +kernel
theorem dX5_perform_82 : decode cX5_perform 82 = .ok (.aload_n 0, 1) := by decide +kernel
theorem dX5_perform_83 : decode cX5_perform 83 = .ok (.iload_n 2, 1) := by decide +kernel
theorem dX5_perform_84 : decode cX5_perform 84 = .ok (.putfield 26, 3) := by decide +kernel
theorem dX5_perform_87 : decode cX5_perform 87 = .ok (.aload_n 0, 1) := by decide +kernel
theorem dX5_perform_88 : decode cX5_perform 88 = .ok (.iload_n 3, 1) := by decide +kernel
theorem dX5_perform_89 : decode cX5_perform 89 = .ok (.putfield 30, 3) := by decide +kernel
theorem dX5_perform_92 : decode cX5_perform 92 = .ok (.iconst 0, 1) := by decide +kernel
theorem dX5_perform_93 : decode cX5_perform 93 = .ok (.istore 4, 2) := by decide +kernel
theorem dX5_perform_95 : decode cX5_perform 95 = .ok (.iload 4, 2) := by decide +kernel
theorem dX5_perform_97 : decode cX5_perform 97 = .ok (.sipush 243, 3) := by decide +kernel
theorem dX5_perform_100 : decode cX5_perform 100 = .ok (.if_icmp .ge 23, 3) := by decide +kernel
theorem dX5_perform_103 : decode cX5_perform 103 = .ok (.aload_n 0, 1) := by decide +kernel
theorem dX5_perform_104 : decode cX5_perform 104 = .ok (.getfield 7, 3) := by decide +kernel
theorem dX5_perform_107 : decode cX5_perform 107 = .ok (.iload 4, 2) := by decide +kernel
theorem dX5_perform_109 : decode cX5_perform 109 = .ok (.aload_n 0, 1) := by decide +kernel
theorem dX5_perform_110 : decode cX5_perform 110 = .ok (.getfield 19, 3) := by decide +kernel
theorem dX5_perform_113 : decode cX5_perform 113 = .ok (.iload 4, 2) := by decide +kernel
theorem dX5_perform_115 : decode cX5_perform 115 = .ok (.iaload, 1) := by decide +kernel
theorem dX5_perform_116 : decode cX5_perform 116 = .ok (.iastore, 1) := by decide +kernel
theorem dX5_perform_117 : decode cX5_perform 117 = .ok (.iinc 4 1, 3) := by decide +kernel
theorem dX5_perform_120 : decode cX5_perform 120 = .ok (.goto (-25), 3) := by decide +kernel
theorem dX5_perform_123 : decode cX5_perform 123 = .ok (.sipush (-10004), 3) := by decide +kernel
theorem dX5_perform_126 : decode cX5_perform 126 = .ok (.ireturn, 1) := by decide +kernel
theorem dX5_perform_127 : decode cX5_perform 127 = .ok (.aload_n 0, 1) := by decide +kernel
theorem dX5_perform_128 : decode cX5_perform 128 = .ok (.aload_n 0, 1) := by decide +kernel
theorem dX5_perform_129 : decode cX5_perform 129 = .ok (.getfield 42, 3) := by decide +kernel
theorem dX5_perform_132 : decode cX5_perform 132 = .ok (.iconst 2, 1) := by decide +kernel
theorem dX5_perform_133 : decode cX5_perform 133 = .ok (.iload_n 2, 1) := by decide +kernel
theorem dX5_perform_134 : decode cX5_perform 134 = .ok (.imul, 1) := by decide +kernel
theorem dX5_perform_135 : decode cX5_perform 135 = .ok (.iaload, 1) := by decide +kernel
theorem dX5_perform_136 : decode cX5_perform 136 = .ok (.aload_n 0, 1) := by decide +kernel
theorem dX5_perform_137 : decode cX5_perform 137 = .ok (.getfield 42, 3) := by decide +kernel
theorem dX5_perform_140 : decode cX5_perform 140 = .ok (.iconst 2, 1) := by decide +kernel
theorem dX5_perform_141 : decode cX5_perform 141 = .ok (.iload_n 2, 1) := by decide +kernel
theorem dX5_perform_142 : decode cX5_perform 142 = .ok (.imul, 1) := by decide +kernel
theorem dX5_perform_143 : decode cX5_perform 143 = .ok (.iconst 1, 1) := by decide +kernel
theorem dX5_perform_144 : decode cX5_perform 144 = .ok (.iadd, 1) := by decide +kernel
theorem dX5_perform_145 : decode cX5_perform 145 = .ok (.iaload, 1) := by decide +kernel
theorem dX5_perform_146 : decode cX5_perform 146 = .ok (.invokevirtual 120, 3) := by decide +kernel
theorem dX5_perform_149 : decode cX5_perform 149 = .ok (.pop, 1) := by decide +kernel
theorem dX5_perform_150 : decode cX5_perform 150 = .ok (.iinc 2 1, 3) := by decide +kernel
theorem dX5_perform_153 : decode cX5_perform 153 = .ok (.goto (-106), 3) := by decide +kernel
theorem dX5_perform_156 : decode cX5_perform 156 = .ok (.aload_n 0, 1) := by decide +kernel
theorem dX5_perform_157 : decode cX5_perform 157 = .ok (.invokevirtual 81, 3) := by decide +kernel
theorem dX5_perform_160 : decode cX5_perform 160 = .ok (.iconst 0, 1) := by decide +kernel
theorem dX5_perform_161 : decode cX5_perform 161 = .ok (.istore_n 2, 1) := by decide +kernel
theorem dX5_perform_162 : decode cX5_perform 162 = .ok (.iload_n 2, 1) := by decide +kernel
theorem dX5_perform_163 : decode cX5_perform 163 = .ok (.sipush 243, 3) := by decide +kernel
theorem dX5_perform_166 : decode cX5_perform 166 = .ok (.if_icmp .ge 32, 3) := by decide +kernel
theorem dX5_perform_169 : decode cX5_perform 169 = .ok (.aload_n 0, 1) := by decide +kernel
theorem dX5_perform_170 : decode cX5_perform 170 = .ok (.getfield 13, 3) := by decide +kernel
theorem dX5_perform_173 : decode cX5_perform 173 = .ok (.aload_n 0, 1) := by decide +kernel
theorem dX5_perform_174 : decode cX5_perform 174 = .ok (.getfield 67, 3) := by decide +kernel
theorem dX5_perform_177 : decode cX5_perform 177 = .ok (.iconst 1, 1) := by decide +kernel
theorem dX5_perform_178 : decode cX5_perform 178 = .ok (.isub, 1) := by decide +kernel
theorem dX5_perform_179 : decode cX5_perform 179 = .ok (.sipush 243, 3) := by decide +kernel
theorem dX5_perform_182 : decode cX5_perform 182 = .ok (.imul, 1) := by decide +kernel
theorem dX5_perform_183 : decode cX5_perform 183 = .ok (.iload_n 2, 1) := by decide +kernel
theorem dX5_perform_184 : decode cX5_perform 184 = .ok (.iadd, 1) := by decide +kernel
theorem dX5_perform_185 : decode cX5_perform 185 = .ok (.aload_n 0, 1) := by decide +kernel
theorem dX5_perform_186 : decode cX5_perform 186 = .ok (.getfield 19, 3) := by decide +kernel
theorem dX5_perform_189 : decode cX5_perform 189 = .ok (.iload_n 2, 1) := by decide +kernel
theorem dX5_perform_190 : decode cX5_perform 190 = .ok (.iaload, 1) := by decide +kernel
theorem dX5_perform_191 : decode cX5_perform 191 = .ok (.iastore, 1) := by decide +kernel
theorem dX5_perform_192 : decode cX5_perform 192 = .ok (.iinc 2 1, 3) := by decide +kernel
theorem dX5_perform_195 : decode cX5_perform 195 = .ok (.goto (-33), 3) := by decide +kernel
theorem dX5_perform_198 : decode cX5_perform 198 = .ok (.aload_n 0, 1) := by decide +kernel
theorem dX5_perform_199 : decode cX5_perform 199 = .ok (.getfield 191, 3) := by decide +kernel
theorem dX5_perform_202 : decode cX5_perform 202 = .ok (.ireturn, 1) := by decide +kernel
theorem dX5_stopped_0 : decode cX5_stopped 0 = .ok (.iload_n 1, 1) := by decide +kernel
theorem dX5_stopped_1 : decode cX5_stopped 1 = .ok (.ifCond .ne 10, 3) := by decide +kernel
theorem dX5_stopped_4 : decode cX5_stopped 4 = .ok (.aload_n 0, 1) := by decide +kernel
theorem dX5_stopped_5 : decode cX5_stopped 5 = .ok (.getfield 26, 3) := by decide +kernel
theorem dX5_stopped_8 : decode cX5_stopped 8 = .ok (.goto 18, 3) := by decide +kernel
theorem dX5_stopped_11 : decode cX5_stopped 11 = .ok (.iload_n 1, 1) := by decide +kernel
theorem dX5_stopped_12 : decode cX5_stopped 12 = .ok (.iconst 1, 1) := by decide +kernel
theorem dX5_stopped_13 : decode cX5_stopped 13 = .ok (.if_icmp .ne 10, 3) := by decide +kernel
theorem dX5_stopped_16 : decode cX5_stopped 16 = .ok (.aload_n 0, 1) := by decide +kernel
theorem dX5_stopped_17 : decode cX5_stopped 17 = .ok (.getfield 30, 3) := by decide +kernel
theorem dX5_stopped_20 : decode cX5_stopped 20 = .ok (.goto 6, 3) := by decide +kernel
theorem dX5_stopped_23 : decode cX5_stopped 23 = .ok (.sipush (-10002), 3) := by decide +kernel
theorem dX5_stopped_26 : decode cX5_stopped 26 = .ok (.ireturn, 1) := by decide +kernel
theorem dX5_weights_0 : decode cX5_weights 0 = .ok (.iconst 0, 1) := by decide +kernel
theorem dX5_weights_1 : decode cX5_weights 1 = .ok (.istore_n 2, 1) := by decide +kernel
theorem dX5_weights_2 : decode cX5_weights 2 = .ok (.iconst 1, 1) := by decide +kernel
theorem dX5_weights_3 : decode cX5_weights 3 = .ok (.istore_n 3, 1) := by decide +kernel
theorem dX5_weights_4 : decode cX5_weights 4 = .ok (.iload_n 3, 1) := by decide +kernel
theorem dX5_weights_5 : decode cX5_weights 5 = .ok (.aload_n 0, 1) := by decide +kernel
theorem dX5_weights_6 : decode cX5_weights 6 = .ok (.iload_n 1, 1) := by decide +kernel
theorem dX5_weights_7 : decode cX5_weights 7 = .ok (.invokevirtual 64, 3) := by decide +kernel
theorem dX5_weights_10 : decode cX5_weights 10 = .ok (.if_icmp .gt 23, 3) := by decide +kernel
theorem dX5_weights_13 : decode cX5_weights 13 = .ok (.iload_n 2, 1) := by decide +kernel
theorem dX5_weights_14 : decode cX5_weights 14 = .ok (.aload_n 0, 1) := by decide +kernel
theorem dX5_weights_15 : decode cX5_weights 15 = .ok (.getfield 7, 3) := by decide +kernel
theorem dX5_weights_18 : decode cX5_weights 18 = .ok (.iload_n 1, 1) := by decide +kernel
theorem dX5_weights_19 : decode cX5_weights 19 = .ok (.invokestatic 60, 3) := by decide +kernel
theorem dX5_weights_22 : decode cX5_weights 22 = .ok (.iload_n 3, 1) := by decide +kernel
theorem dX5_weights_23 : decode cX5_weights 23 = .ok (.iadd, 1) := by decide +kernel
theorem dX5_weights_24 : decode cX5_weights 24 = .ok (.iaload, 1) := by decide +kernel
theorem dX5_weights_25 : decode cX5_weights 25 = .ok (.iadd, 1) := by decide +kernel
theorem dX5_weights_26 : decode cX5_weights 26 = .ok (.istore_n 2, 1) := by decide +kernel
theorem dX5_weights_27 : decode cX5_weights 27 = .ok (.iinc 3 1, 3) := by decide +kernel
theorem dX5_weights_30 : decode cX5_weights 30 = .ok (.goto (-26), 3) := by decide +kernel
theorem dX5_weights_33 : decode cX5_weights 33 = .ok (.iload_n 2, 1) := by decide +kernel
theorem dX5_weights_34 : decode cX5_weights 34 = .ok (.ireturn, 1) := by decide +kernel
theorem dX5_at_0 : decode cX5_at 0 = .ok (.iload_n 1, 1) := by decide +kernel
theorem dX5_at_1 : decode cX5_at 1 = .ok (.invokestatic 100, 3) := by decide +kernel
theorem dX5_at_4 : decode cX5_at 4 = .ok (.ifCond .ne 7, 3) := by decide +kernel
theorem dX5_at_7 : decode cX5_at 7 = .ok (.sipush (-10001), 3) := by decide +kernel
theorem dX5_at_10 : decode cX5_at 10 = .ok (.ireturn, 1) := by decide +kernel
theorem dX5_at_11 : decode cX5_at 11 = .ok (.iload_n 2, 1) := by decide +kernel
theorem dX5_at_12 : decode cX5_at 12 = .ok (.tableswitch 72 0 3 #[32, 38, 44, 64], 32) := by decide +kernel
theorem dX5_at_44 : decode cX5_at 44 = .ok (.aload_n 0, 1) := by decide +kernel
theorem dX5_at_45 : decode cX5_at 45 = .ok (.iload_n 1, 1) := by decide +kernel
theorem dX5_at_46 : decode cX5_at 46 = .ok (.invokevirtual 64, 3) := by decide +kernel
theorem dX5_at_49 : decode cX5_at 49 = .ok (.ireturn, 1) := by decide +kernel
theorem dX5_at_50 : decode cX5_at 50 = .ok (.aload_n 0, 1) := by decide +kernel
theorem dX5_at_51 : decode cX5_at 51 = .ok (.iload_n 1, 1) := by decide +kernel
theorem dX5_at_52 : decode cX5_at 52 = .ok (.invokevirtual 206, 3) := by decide +kernel
theorem dX5_at_55 : decode cX5_at 55 = .ok (.ireturn, 1) := by decide +kernel
theorem dX5_at_56 : decode cX5_at 56 = .ok (.aload_n 0, 1) := by decide +kernel
theorem dX5_at_57 : decode cX5_at 57 = .ok (.iload_n 1, 1) := by decide +kernel
theorem dX5_at_58 : decode cX5_at 58 = .ok (.invokevirtual 64, 3) := by decide +kernel
theorem dX5_at_61 : decode cX5_at 61 = .ok (.ifCond .ne 9, 3) := by decide +kernel
theorem dX5_at_64 : decode cX5_at 64 = .ok (.sipush (-10005), 3) := by decide +kernel
theorem dX5_at_67 : decode cX5_at 67 = .ok (.goto 8, 3) := by decide +kernel
theorem dX5_at_70 : decode cX5_at 70 = .ok (.aload_n 0, 1) := by decide +kernel
theorem dX5_at_71 : decode cX5_at 71 = .ok (.iload_n 1, 1) := by decide +kernel
theorem dX5_at_72 : decode cX5_at 72 = .ok (.invokevirtual 209, 3) := by decide +kernel
theorem dX5_at_75 : decode cX5_at 75 = .ok (.ireturn, 1) := by decide +kernel
theorem dX5_at_76 : decode cX5_at 76 = .ok (.aload_n 0, 1) := by decide +kernel
theorem dX5_at_77 : decode cX5_at 77 = .ok (.iload_n 1, 1) := by decide +kernel
theorem dX5_at_78 : decode cX5_at 78 = .ok (.invokevirtual 206, 3) := by decide +kernel
theorem dX5_at_81 : decode cX5_at 81 = .ok (.iload_n 1, 1) := by decide +kernel
theorem dX5_at_82 : decode cX5_at 82 = .ok (.imul, 1) := by decide +kernel
theorem dX5_at_83 : decode cX5_at 83 = .ok (.ireturn, 1) := by decide +kernel
theorem dX5_at_84 : decode cX5_at 84 = .ok (.sipush (-10002), 3) := by decide +kernel
theorem dX5_at_87 : decode cX5_at 87 = .ok (.ireturn, 1) := by decide +kernel
theorem dX5_bag_0 : decode cX5_bag 0 = .ok (.iload_n 1, 1) := by decide +kernel
theorem dX5_bag_1 : decode cX5_bag 1 = .ok (.invokestatic 168, 3) := by decide +kernel
theorem dX5_bag_4 : decode cX5_bag 4 = .ok (.ifCond .eq 12, 3) := by decide +kernel
theorem dX5_bag_7 : decode cX5_bag 7 = .ok (.iload_n 2, 1) := by decide +kernel
theorem dX5_bag_8 : decode cX5_bag 8 = .ok (.iconst 0, 1) := by decide +kernel
theorem dX5_bag_9 : decode cX5_bag 9 = .ok (.iconst 5, 1) := by decide +kernel
theorem dX5_bag_10 : decode cX5_bag 10 = .ok (.invokestatic 49, 3) := by decide +kernel
theorem dX5_bag_13 : decode cX5_bag 13 = .ok (.ifCond .ne 9, 3) := by decide +kernel
theorem dX5_bag_16 : decode cX5_bag 16 = .ok (.sipush (-10001), 3) := by decide +kernel
theorem dX5_bag_19 : decode cX5_bag 19 = .ok (.goto 21, 3) := by decide +kernel
theorem dX5_bag_22 : decode cX5_bag 22 = .ok (.iload_n 2, 1) := by decide +kernel
theorem dX5_bag_23 : decode cX5_bag 23 = .ok (.ifCond .ne 11, 3) := by decide +kernel
theorem dX5_bag_26 : decode cX5_bag 26 = .ok (.aload_n 0, 1) := by decide +kernel
theorem dX5_bag_27 : decode cX5_bag 27 = .ok (.iload_n 1, 1) := by decide +kernel
theorem dX5_bag_28 : decode cX5_bag 28 = .ok (.invokevirtual 91, 3) := by decide +kernel
theorem dX5_bag_31 : decode cX5_bag 31 = .ok (.goto 9, 3) := by decide +kernel
theorem dX5_bag_34 : decode cX5_bag 34 = .ok (.aload_n 0, 1) := by decide +kernel
theorem dX5_bag_35 : decode cX5_bag 35 = .ok (.iload_n 1, 1) := by decide +kernel
theorem dX5_bag_36 : decode cX5_bag 36 = .ok (.iload_n 2, 1) := by decide +kernel
theorem dX5_bag_37 : decode cX5_bag 37 = .ok (.invokevirtual 57, 3) := by decide +kernel
theorem dX5_bag_40 : decode cX5_bag 40 = .ok (.ireturn, 1) := by decide +kernel
theorem dX5_reason_0 : decode cX5_reason 0 = .ok (.iload_n 1, 1) := by decide +kernel
theorem dX5_reason_1 : decode cX5_reason 1 = .ok (.iconst 1, 1) := by decide +kernel
theorem dX5_reason_2 : decode cX5_reason 2 = .ok (.bipush 7, 2) := by decide +kernel
theorem dX5_reason_4 : decode cX5_reason 4 = .ok (.invokestatic 49, 3) := by decide +kernel
theorem dX5_reason_7 : decode cX5_reason 7 = .ok (.ifCond .ne 9, 3) := by decide +kernel
theorem dX5_reason_10 : decode cX5_reason 10 = .ok (.sipush (-10002), 3) := by decide +kernel
theorem dX5_reason_13 : decode cX5_reason 13 = .ok (.goto 22, 3) := by decide +kernel
theorem dX5_reason_16 : decode cX5_reason 16 = .ok (.iload_n 2, 1) := by decide +kernel
theorem dX5_reason_17 : decode cX5_reason 17 = .ok (.invokestatic 100, 3) := by decide +kernel
theorem dX5_reason_20 : decode cX5_reason 20 = .ok (.ifCond .eq 12, 3) := by decide +kernel
theorem dX5_reason_23 : decode cX5_reason 23 = .ok (.aload_n 0, 1) := by decide +kernel
theorem dX5_reason_24 : decode cX5_reason 24 = .ok (.iload_n 1, 1) := by decide +kernel
theorem dX5_reason_25 : decode cX5_reason 25 = .ok (.iload_n 2, 1) := by decide +kernel
theorem dX5_reason_26 : decode cX5_reason 26 = .ok (.invokevirtual 117, 3) := by decide +kernel
theorem dX5_reason_29 : decode cX5_reason 29 = .ok (.goto 6, 3) := by decide +kernel
theorem dX5_reason_32 : decode cX5_reason 32 = .ok (.sipush (-10001), 3) := by decide +kernel
theorem dX5_reason_35 : decode cX5_reason 35 = .ok (.ireturn, 1) := by decide +kernel
theorem dX5_possible_0 : decode cX5_possible 0 = .ok (.iload_n 1, 1) := by decide +kernel
theorem dX5_possible_1 : decode cX5_possible 1 = .ok (.ifCond .ge 7, 3) := by decide +kernel
theorem dX5_possible_4 : decode cX5_possible 4 = .ok (.sipush (-10002), 3) := by decide +kernel
theorem dX5_possible_7 : decode cX5_possible 7 = .ok (.ireturn, 1) := by decide +kernel
theorem dX5_possible_8 : decode cX5_possible 8 = .ok (.iload_n 1, 1) := by decide +kernel
theorem dX5_possible_9 : decode cX5_possible 9 = .ok (.istore_n 2, 1) := by decide +kernel
theorem dX5_possible_10 : decode cX5_possible 10 = .ok (.iconst 0, 1) := by decide +kernel
theorem dX5_possible_11 : decode cX5_possible 11 = .ok (.istore_n 3, 1) := by decide +kernel
theorem dX5_possible_12 : decode cX5_possible 12 = .ok (.iload_n 3, 1) := by decide +kernel
theorem dX5_possible_13 : decode cX5_possible 13 = .ok (.bipush 84, 2) := by decide +kernel
theorem dX5_possible_15 : decode cX5_possible 15 = .ok (.if_icmp .ge 29, 3) := by decide +kernel
theorem dX5_possible_18 : decode cX5_possible 18 = .ok (.aload_n 0, 1) := by decide +kernel
theorem dX5_possible_19 : decode cX5_possible 19 = .ok (.iload_n 3, 1) := by decide +kernel
theorem dX5_possible_20 : decode cX5_possible 20 = .ok (.invokevirtual 138, 3) := by decide +kernel
theorem dX5_possible_23 : decode cX5_possible 23 = .ok (.ifCond .eq 15, 3) := by decide +kernel
theorem dX5_possible_26 : decode cX5_possible 26 = .ok (.iload_n 2, 1) := by decide +kernel
theorem dX5_possible_27 : decode cX5_possible 27 = .ok (.ifCond .ne 8, 3) := by decide +kernel
theorem dX5_possible_30 : decode cX5_possible 30 = .ok (.iload_n 3, 1) := by decide +kernel
theorem dX5_possible_31 : decode cX5_possible 31 = .ok (.invokestatic 165, 3) := by decide +kernel
theorem dX5_possible_34 : decode cX5_possible 34 = .ok (.ireturn, 1) := by decide +kernel
theorem dX5_possible_35 : decode cX5_possible 35 = .ok (.iinc 2 (-1), 3) := by decide +kernel
theorem dX5_possible_38 : decode cX5_possible 38 = .ok (.iinc 3 1, 3) := by decide +kernel
theorem dX5_possible_41 : decode cX5_possible 41 = .ok (.goto (-29), 3) := by decide +kernel
theorem dX5_possible_44 : decode cX5_possible 44 = .ok (.sipush (-10005), 3) := by decide +kernel
theorem dX5_possible_47 : decode cX5_possible 47 = .ok (.ireturn, 1) := by decide +kernel
theorem dX5_levels_0 : decode cX5_levels 0 = .ok (.iload_n 1, 1) := by decide +kernel
theorem dX5_levels_1 : decode cX5_levels 1 = .ok (.invokestatic 123, 3) := by decide +kernel
theorem dX5_levels_4 : decode cX5_levels 4 = .ok (.ifCond .ne 7, 3) := by decide +kernel
theorem dX5_levels_7 : decode cX5_levels 7 = .ok (.sipush (-10001), 3) := by decide +kernel
theorem dX5_levels_10 : decode cX5_levels 10 = .ok (.ireturn, 1) := by decide +kernel
theorem dX5_levels_11 : decode cX5_levels 11 = .ok (.iconst 0, 1) := by decide +kernel
theorem dX5_levels_12 : decode cX5_levels 12 = .ok (.istore_n 2, 1) := by decide +kernel
theorem dX5_levels_13 : decode cX5_levels 13 = .ok (.iload_n 2, 1) := by decide +kernel
theorem dX5_levels_14 : decode cX5_levels 14 = .ok (.bipush 12, 2) := by decide +kernel
theorem dX5_levels_16 : decode cX5_levels 16 = .ok (.if_icmp .ge 43, 3) := by decide +kernel
theorem dX5_levels_19 : decode cX5_levels 19 = .ok (.iload_n 2, 1) := by decide +kernel
theorem dX5_levels_20 : decode cX5_levels 20 = .ok (.invokestatic 70, 3) := by decide +kernel
theorem dX5_levels_23 : decode cX5_levels 23 = .ok (.istore_n 3, 1) := by decide +kernel
theorem dX5_levels_24 : decode cX5_levels 24 = .ok (.iload_n 1, 1) := by decide +kernel
theorem dX5_levels_25 : decode cX5_levels 25 = .ok (.iload_n 3, 1) := by decide +kernel
theorem dX5_levels_26 : decode cX5_levels 26 = .ok (.imul, 1) := by decide +kernel
theorem dX5_levels_27 : decode cX5_levels 27 = .ok (.aload_n 0, 1) := by decide +kernel
theorem dX5_levels_28 : decode cX5_levels 28 = .ok (.getfield 7, 3) := by decide +kernel
theorem dX5_levels_31 : decode cX5_levels 31 = .ok (.iconst 5, 1) := by decide +kernel
theorem dX5_levels_32 : decode cX5_levels 32 = .ok (.iaload, 1) := by decide +kernel
theorem dX5_levels_33 : decode cX5_levels 33 = .ok (.iadd, 1) := by decide +kernel
theorem dX5_levels_34 : decode cX5_levels 34 = .ok (.ifCond .ne 19, 3) := by decide +kernel
theorem dX5_levels_37 : decode cX5_levels 37 = .ok (.aload_n 0, 1) := by decide +kernel
theorem dX5_levels_38 : decode cX5_levels 38 = .ok (.iload_n 3, 1) := by decide +kernel
theorem dX5_levels_39 : decode cX5_levels 39 = .ok (.invokevirtual 64, 3) := by decide +kernel
theorem dX5_levels_42 : decode cX5_levels 42 = .ok (.aload_n 0, 1) := by decide +kernel
theorem dX5_levels_43 : decode cX5_levels 43 = .ok (.getfield 7, 3) := by decide +kernel
theorem dX5_levels_46 : decode cX5_levels 46 = .ok (.iconst 0, 1) := by decide +kernel
theorem dX5_levels_47 : decode cX5_levels 47 = .ok (.iaload, 1) := by decide +kernel
theorem dX5_levels_48 : decode cX5_levels 48 = .ok (.if_icmp .ge 5, 3) := by decide +kernel
theorem dX5_levels_51 : decode cX5_levels 51 = .ok (.iload_n 3, 1) := by decide +kernel
theorem dX5_levels_52 : decode cX5_levels 52 = .ok (.ireturn, 1) := by decide +kernel
theorem dX5_levels_53 : decode cX5_levels 53 = .ok (.iinc 2 1, 3) := by decide +kernel
theorem dX5_levels_56 : decode cX5_levels 56 = .ok (.goto (-43), 3) := by decide +kernel
theorem dX5_levels_59 : decode cX5_levels 59 = .ok (.sipush (-10005), 3) := by decide +kernel
theorem dX5_levels_62 : decode cX5_levels 62 = .ok (.ireturn, 1) := by decide +kernel
theorem dX5_made_0 : decode cX5_made 0 = .ok (.iload_n 1, 1) := by decide +kernel
theorem dX5_made_1 : decode cX5_made 1 = .ok (.ifCond .lt 12, 3) := by decide +kernel
theorem dX5_made_4 : decode cX5_made 4 = .ok (.iload_n 2, 1) := by decide +kernel
theorem dX5_made_5 : decode cX5_made 5 = .ok (.iconst 0, 1) := by decide +kernel
theorem dX5_made_6 : decode cX5_made 6 = .ok (.iconst 3, 1) := by decide +kernel
theorem dX5_made_7 : decode cX5_made 7 = .ok (.invokestatic 49, 3) := by decide +kernel
theorem dX5_made_10 : decode cX5_made 10 = .ok (.ifCond .ne 7, 3) := by decide +kernel
theorem dX5_made_13 : decode cX5_made 13 = .ok (.sipush (-10002), 3) := by decide +kernel
theorem dX5_made_16 : decode cX5_made 16 = .ok (.ireturn, 1) := by decide +kernel
theorem dX5_made_17 : decode cX5_made 17 = .ok (.iload_n 1, 1) := by decide +kernel
theorem dX5_made_18 : decode cX5_made 18 = .ok (.aload_n 0, 1) := by decide +kernel
theorem dX5_made_19 : decode cX5_made 19 = .ok (.getfield 7, 3) := by decide +kernel
theorem dX5_made_22 : decode cX5_made 22 = .ok (.bipush 12, 2) := by decide +kernel
theorem dX5_made_24 : decode cX5_made 24 = .ok (.iaload, 1) := by decide +kernel
theorem dX5_made_25 : decode cX5_made 25 = .ok (.if_icmp .ge 29, 3) := by decide +kernel
theorem dX5_made_28 : decode cX5_made 28 = .ok (.aload_n 0, 1) := by decide +kernel
theorem dX5_made_29 : decode cX5_made 29 = .ok (.getfield 7, 3) := by decide +kernel
theorem dX5_made_32 : decode cX5_made 32 = .ok (.bipush 83, 2) := by decide +kernel
theorem dX5_made_34 : decode cX5_made 34 = .ok (.iconst 4, 1) := by decide +kernel
theorem dX5_made_35 : decode cX5_made 35 = .ok (.aload_n 0, 1) := by decide +kernel
theorem dX5_made_36 : decode cX5_made 36 = .ok (.getfield 7, 3) := by decide +kernel
theorem dX5_made_39 : decode cX5_made 39 = .ok (.bipush 12, 2) := by decide +kernel
theorem dX5_made_41 : decode cX5_made 41 = .ok (.iaload, 1) := by decide +kernel
theorem dX5_made_42 : decode cX5_made 42 = .ok (.iconst 1, 1) := by decide +kernel
theorem dX5_made_43 : decode cX5_made 43 = .ok (.isub, 1) := by decide +kernel
theorem dX5_made_44 : decode cX5_made 44 = .ok (.iload_n 1, 1) := by decide +kernel
theorem dX5_made_45 : decode cX5_made 45 = .ok (.isub, 1) := by decide +kernel
theorem dX5_made_46 : decode cX5_made 46 = .ok (.imul, 1) := by decide +kernel
theorem dX5_made_47 : decode cX5_made 47 = .ok (.iadd, 1) := by decide +kernel
theorem dX5_made_48 : decode cX5_made 48 = .ok (.iload_n 2, 1) := by decide +kernel
theorem dX5_made_49 : decode cX5_made 49 = .ok (.iadd, 1) := by decide +kernel
theorem dX5_made_50 : decode cX5_made 50 = .ok (.iaload, 1) := by decide +kernel
theorem dX5_made_51 : decode cX5_made 51 = .ok (.goto 6, 3) := by decide +kernel
theorem dX5_made_54 : decode cX5_made 54 = .ok (.sipush (-10005), 3) := by decide +kernel
theorem dX5_made_57 : decode cX5_made 57 = .ok (.ireturn, 1) := by decide +kernel
theorem dX5_moves_0 : decode cX5_moves 0 = .ok (.iconst 0, 1) := by decide +kernel
theorem dX5_moves_1 : decode cX5_moves 1 = .ok (.istore_n 2, 1) := by decide +kernel
theorem dX5_moves_2 : decode cX5_moves 2 = .ok (.iconst 0, 1) := by decide +kernel
theorem dX5_moves_3 : decode cX5_moves 3 = .ok (.istore_n 3, 1) := by decide +kernel
theorem dX5_moves_4 : decode cX5_moves 4 = .ok (.iload_n 3, 1) := by decide +kernel
theorem dX5_moves_5 : decode cX5_moves 5 = .ok (.bipush 84, 2) := by decide +kernel
theorem dX5_moves_7 : decode cX5_moves 7 = .ok (.if_icmp .ge 48, 3) := by decide +kernel
theorem dX5_moves_10 : decode cX5_moves 10 = .ok (.aload_n 0, 1) := by decide +kernel
theorem dX5_moves_11 : decode cX5_moves 11 = .ok (.iload_n 3, 1) := by decide +kernel
theorem dX5_moves_12 : decode cX5_moves 12 = .ok (.invokevirtual 138, 3) := by decide +kernel
theorem dX5_moves_15 : decode cX5_moves 15 = .ok (.ifCond .eq 34, 3) := by decide +kernel
theorem dX5_moves_18 : decode cX5_moves 18 = .ok (.aload_n 0, 1) := by decide +kernel
theorem dX5_moves_19 : decode cX5_moves 19 = .ok (.iconst 1, 1) := by decide +kernel
theorem dX5_moves_20 : decode cX5_moves 20 = .ok (.iload_n 3, 1) := by decide +kernel
theorem dX5_moves_21 : decode cX5_moves 21 = .ok (.invokevirtual 141, 3) := by decide +kernel
theorem dX5_moves_24 : decode cX5_moves 24 = .ok (.iload_n 2, 1) := by decide +kernel
theorem dX5_moves_25 : decode cX5_moves 25 = .ok (.iload_n 1, 1) := by decide +kernel
theorem dX5_moves_26 : decode cX5_moves 26 = .ok (.ifCond .eq 14, 3) := by decide +kernel
theorem dX5_moves_29 : decode cX5_moves 29 = .ok (.aload_n 0, 1) := by decide +kernel
theorem dX5_moves_30 : decode cX5_moves 30 = .ok (.invokevirtual 87, 3) := by decide +kernel
theorem dX5_moves_33 : decode cX5_moves 33 = .ok (.ifCond .eq 7, 3) := by decide +kernel
theorem dX5_moves_36 : decode cX5_moves 36 = .ok (.iconst 0, 1) := by decide +kernel
theorem dX5_moves_37 : decode cX5_moves 37 = .ok (.goto 4, 3) := by decide +kernel
theorem dX5_moves_40 : decode cX5_moves 40 = .ok (.iconst 1, 1) := by decide +kernel
theorem dX5_moves_41 : decode cX5_moves 41 = .ok (.iadd, 1) := by decide +kernel
theorem dX5_moves_42 : decode cX5_moves 42 = .ok (.istore_n 2, 1) := by decide +kernel
theorem dX5_moves_43 : decode cX5_moves 43 = .ok (.aload_n 0, 1) := by decide +kernel
theorem dX5_moves_44 : decode cX5_moves 44 = .ok (.iconst 1, 1) := by decide +kernel
theorem dX5_moves_45 : decode cX5_moves 45 = .ok (.iload_n 3, 1) := by decide +kernel
theorem dX5_moves_46 : decode cX5_moves 46 = .ok (.invokevirtual 147, 3) := by decide +kernel
theorem dX5_moves_49 : decode cX5_moves 49 = .ok (.iinc 3 1, 3) := by decide +kernel
theorem dX5_moves_52 : decode cX5_moves 52 = .ok (.goto (-48), 3) := by decide +kernel
theorem dX5_moves_55 : decode cX5_moves 55 = .ok (.iload_n 2, 1) := by decide +kernel
theorem dX5_moves_56 : decode cX5_moves 56 = .ok (.ireturn, 1) := by decide +kernel
theorem dX5_allWeights_0 : decode cX5_allWeights 0 = .ok (.iconst 0, 1) := by decide +kernel
theorem dX5_allWeights_1 : decode cX5_allWeights 1 = .ok (.istore_n 1, 1) := by decide +kernel
theorem dX5_allWeights_2 : decode cX5_allWeights 2 = .ok (.iconst 0, 1) := by decide +kernel
theorem dX5_allWeights_3 : decode cX5_allWeights 3 = .ok (.istore_n 2, 1) := by decide +kernel
theorem dX5_allWeights_4 : decode cX5_allWeights 4 = .ok (.iload_n 2, 1) := by decide +kernel
theorem dX5_allWeights_5 : decode cX5_allWeights 5 = .ok (.bipush 12, 2) := by decide +kernel
theorem dX5_allWeights_7 : decode cX5_allWeights 7 = .ok (.if_icmp .ge 20, 3) := by decide +kernel
theorem dX5_allWeights_10 : decode cX5_allWeights 10 = .ok (.iload_n 1, 1) := by decide +kernel
theorem dX5_allWeights_11 : decode cX5_allWeights 11 = .ok (.aload_n 0, 1) := by decide +kernel
theorem dX5_allWeights_12 : decode cX5_allWeights 12 = .ok (.iload_n 2, 1) := by decide +kernel
theorem dX5_allWeights_13 : decode cX5_allWeights 13 = .ok (.invokestatic 70, 3) := by decide +kernel
theorem dX5_allWeights_16 : decode cX5_allWeights 16 = .ok (.invokevirtual 206, 3) := by decide +kernel
theorem dX5_allWeights_19 : decode cX5_allWeights 19 = .ok (.iadd, 1) := by decide +kernel
theorem dX5_allWeights_20 : decode cX5_allWeights 20 = .ok (.istore_n 1, 1) := by decide +kernel
theorem dX5_allWeights_21 : decode cX5_allWeights 21 = .ok (.iinc 2 1, 3) := by decide +kernel
theorem dX5_allWeights_24 : decode cX5_allWeights 24 = .ok (.goto (-20), 3) := by decide +kernel
theorem dX5_allWeights_27 : decode cX5_allWeights 27 = .ok (.iload_n 1, 1) := by decide +kernel
theorem dX5_allWeights_28 : decode cX5_allWeights 28 = .ok (.ireturn, 1) := by decide +kernel
theorem dX5_count_0 : decode cX5_count 0 = .ok (.iload_n 1, 1) := by decide +kernel
theorem dX5_count_1 : decode cX5_count 1 = .ok (.tableswitch 163 0 16 #[83, 83, 92, 97, 97, 97, 109, 114, 119, 119, 135, 143, 143, 143, 143, 153, 158], 83) := by decide +kernel
theorem dX5_count_84 : decode cX5_count 84 = .ok (.aload_n 0, 1) := by decide +kernel
theorem dX5_count_85 : decode cX5_count 85 = .ok (.getfield 7, 3) := by decide +kernel
theorem dX5_count_88 : decode cX5_count 88 = .ok (.iconst 4, 1) := by decide +kernel
theorem dX5_count_89 : decode cX5_count 89 = .ok (.iload_n 1, 1) := by decide +kernel
theorem dX5_count_90 : decode cX5_count 90 = .ok (.iadd, 1) := by decide +kernel
theorem dX5_count_91 : decode cX5_count 91 = .ok (.iaload, 1) := by decide +kernel
theorem dX5_count_92 : decode cX5_count 92 = .ok (.ireturn, 1) := by decide +kernel
theorem dX5_count_93 : decode cX5_count 93 = .ok (.aload_n 0, 1) := by decide +kernel
theorem dX5_count_94 : decode cX5_count 94 = .ok (.invokevirtual 212, 3) := by decide +kernel
theorem dX5_count_97 : decode cX5_count 97 = .ok (.ireturn, 1) := by decide +kernel
theorem dX5_count_98 : decode cX5_count 98 = .ok (.aload_n 0, 1) := by decide +kernel
theorem dX5_count_99 : decode cX5_count 99 = .ok (.getfield 7, 3) := by decide +kernel
theorem dX5_count_102 : decode cX5_count 102 = .ok (.bipush 6, 2) := by decide +kernel
theorem dX5_count_104 : decode cX5_count 104 = .ok (.iload_n 1, 1) := by decide +kernel
theorem dX5_count_105 : decode cX5_count 105 = .ok (.iadd, 1) := by decide +kernel
theorem dX5_count_106 : decode cX5_count 106 = .ok (.iconst 3, 1) := by decide +kernel
theorem dX5_count_107 : decode cX5_count 107 = .ok (.isub, 1) := by decide +kernel
theorem dX5_count_108 : decode cX5_count 108 = .ok (.iaload, 1) := by decide +kernel
theorem dX5_count_109 : decode cX5_count 109 = .ok (.ireturn, 1) := by decide +kernel
theorem dX5_count_110 : decode cX5_count 110 = .ok (.aload_n 0, 1) := by decide +kernel
theorem dX5_count_111 : decode cX5_count 111 = .ok (.invokevirtual 77, 3) := by decide +kernel
theorem dX5_count_114 : decode cX5_count 114 = .ok (.ireturn, 1) := by decide +kernel
theorem dX5_count_115 : decode cX5_count 115 = .ok (.aload_n 0, 1) := by decide +kernel
theorem dX5_count_116 : decode cX5_count 116 = .ok (.invokevirtual 215, 3) := by decide +kernel
theorem dX5_count_119 : decode cX5_count 119 = .ok (.ireturn, 1) := by decide +kernel
theorem dX5_count_120 : decode cX5_count 120 = .ok (.aload_n 0, 1) := by decide +kernel
theorem dX5_count_121 : decode cX5_count 121 = .ok (.iload_n 1, 1) := by decide +kernel
theorem dX5_count_122 : decode cX5_count 122 = .ok (.bipush 9, 2) := by decide +kernel
theorem dX5_count_124 : decode cX5_count 124 = .ok (.if_icmp .ne 7, 3) := by decide +kernel
theorem dX5_count_127 : decode cX5_count 127 = .ok (.iconst 1, 1) := by decide +kernel
theorem dX5_count_128 : decode cX5_count 128 = .ok (.goto 4, 3) := by decide +kernel
theorem dX5_count_131 : decode cX5_count 131 = .ok (.iconst 0, 1) := by decide +kernel
theorem dX5_count_132 : decode cX5_count 132 = .ok (.invokevirtual 218, 3) := by decide +kernel
theorem dX5_count_135 : decode cX5_count 135 = .ok (.ireturn, 1) := by decide +kernel
theorem dX5_count_136 : decode cX5_count 136 = .ok (.aload_n 0, 1) := by decide +kernel
theorem dX5_count_137 : decode cX5_count 137 = .ok (.getfield 7, 3) := by decide +kernel
theorem dX5_count_140 : decode cX5_count 140 = .ok (.bipush 9, 2) := by decide +kernel
theorem dX5_count_142 : decode cX5_count 142 = .ok (.iaload, 1) := by decide +kernel
theorem dX5_count_143 : decode cX5_count 143 = .ok (.ireturn, 1) := by decide +kernel
theorem dX5_count_144 : decode cX5_count 144 = .ok (.aload_n 0, 1) := by decide +kernel
theorem dX5_count_145 : decode cX5_count 145 = .ok (.getfield 7, 3) := by decide +kernel
theorem dX5_count_148 : decode cX5_count 148 = .ok (.iload_n 1, 1) := by decide +kernel
theorem dX5_count_149 : decode cX5_count 149 = .ok (.bipush 11, 2) := by decide +kernel
theorem dX5_count_151 : decode cX5_count 151 = .ok (.isub, 1) := by decide +kernel
theorem dX5_count_152 : decode cX5_count 152 = .ok (.iaload, 1) := by decide +kernel
theorem dX5_count_153 : decode cX5_count 153 = .ok (.ireturn, 1) := by decide +kernel
theorem dX5_count_154 : decode cX5_count 154 = .ok (.aload_n 0, 1) := by decide +kernel
theorem dX5_count_155 : decode cX5_count 155 = .ok (.getfield 67, 3) := by decide +kernel
theorem dX5_count_158 : decode cX5_count 158 = .ok (.ireturn, 1) := by decide +kernel
theorem dX5_count_159 : decode cX5_count 159 = .ok (.aload_n 0, 1) := by decide +kernel
theorem dX5_count_160 : decode cX5_count 160 = .ok (.getfield 175, 3) := by decide +kernel
theorem dX5_count_163 : decode cX5_count 163 = .ok (.ireturn, 1) := by decide +kernel
theorem dX5_count_164 : decode cX5_count 164 = .ok (.sipush (-10002), 3) := by decide +kernel
theorem dX5_count_167 : decode cX5_count 167 = .ok (.ireturn, 1) := by decide +kernel
theorem dJ9_floorMod_7cf53_0 : decode cJ9_floorMod_7cf53 0 = .ok (.iload_n 0, 1) := by decide +kernel
theorem dJ9_floorMod_7cf53_1 : decode cJ9_floorMod_7cf53 1 = .ok (.iload_n 1, 1) := by decide +kernel
theorem dJ9_floorMod_7cf53_2 : decode cJ9_floorMod_7cf53 2 = .ok (.irem, 1) := by decide +kernel
theorem dJ9_floorMod_7cf53_3 : decode cJ9_floorMod_7cf53 3 = .ok (.istore_n 2, 1) := by decide +kernel
theorem dJ9_floorMod_7cf53_4 : decode cJ9_floorMod_7cf53 4 = .ok (.iload_n 0, 1) := by decide +kernel
theorem dJ9_floorMod_7cf53_5 : decode cJ9_floorMod_7cf53 5 = .ok (.iload_n 1, 1) := by decide +kernel
theorem dJ9_floorMod_7cf53_6 : decode cJ9_floorMod_7cf53 6 = .ok (.ixor, 1) := by decide +kernel
theorem dJ9_floorMod_7cf53_7 : decode cJ9_floorMod_7cf53 7 = .ok (.ifCond .ge 11, 3) := by decide +kernel
theorem dJ9_floorMod_7cf53_10 : decode cJ9_floorMod_7cf53 10 = .ok (.iload_n 2, 1) := by decide +kernel
theorem dJ9_floorMod_7cf53_11 : decode cJ9_floorMod_7cf53 11 = .ok (.ifCond .eq 7, 3) := by decide +kernel
theorem dJ9_floorMod_7cf53_14 : decode cJ9_floorMod_7cf53 14 = .ok (.iload_n 2, 1) := by decide +kernel
theorem dJ9_floorMod_7cf53_15 : decode cJ9_floorMod_7cf53 15 = .ok (.iload_n 1, 1) := by decide +kernel
theorem dJ9_floorMod_7cf53_16 : decode cJ9_floorMod_7cf53 16 = .ok (.iadd, 1) := by decide +kernel
theorem dJ9_floorMod_7cf53_17 : decode cJ9_floorMod_7cf53 17 = .ok (.ireturn, 1) := by decide +kernel
theorem dJ9_floorMod_7cf53_18 : decode cJ9_floorMod_7cf53 18 = .ok (.iload_n 2, 1) := by decide +kernel
theorem dJ9_floorMod_7cf53_19 : decode cJ9_floorMod_7cf53 19 = .ok (.ireturn, 1) := by decide +kernel
theorem dJ9_abs_0f7a4_0 : decode cJ9_abs_0f7a4 0 = .ok (.iload_n 0, 1) := by decide +kernel
theorem dJ9_abs_0f7a4_1 : decode cJ9_abs_0f7a4 1 = .ok (.ifCond .ge 8, 3) := by decide +kernel
theorem dJ9_abs_0f7a4_4 : decode cJ9_abs_0f7a4 4 = .ok (.iload_n 0, 1) := by decide +kernel
theorem dJ9_abs_0f7a4_5 : decode cJ9_abs_0f7a4 5 = .ok (.ineg, 1) := by decide +kernel
theorem dJ9_abs_0f7a4_6 : decode cJ9_abs_0f7a4 6 = .ok (.goto 4, 3) := by decide +kernel
theorem dJ9_abs_0f7a4_9 : decode cJ9_abs_0f7a4 9 = .ok (.iload_n 0, 1) := by decide +kernel
theorem dJ9_abs_0f7a4_10 : decode cJ9_abs_0f7a4 10 = .ok (.ireturn, 1) := by decide +kernel
theorem dJ9_max_7cf53_0 : decode cJ9_max_7cf53 0 = .ok (.iload_n 0, 1) := by decide +kernel
theorem dJ9_max_7cf53_1 : decode cJ9_max_7cf53 1 = .ok (.iload_n 1, 1) := by decide +kernel
theorem dJ9_max_7cf53_2 : decode cJ9_max_7cf53 2 = .ok (.if_icmp .lt 7, 3) := by decide +kernel
theorem dJ9_max_7cf53_5 : decode cJ9_max_7cf53 5 = .ok (.iload_n 0, 1) := by decide +kernel
theorem dJ9_max_7cf53_6 : decode cJ9_max_7cf53 6 = .ok (.goto 4, 3) := by decide +kernel
theorem dJ9_max_7cf53_9 : decode cJ9_max_7cf53 9 = .ok (.iload_n 1, 1) := by decide +kernel
theorem dJ9_max_7cf53_10 : decode cJ9_max_7cf53 10 = .ok (.ireturn, 1) := by decide +kernel
theorem dL_law_0 : decode cL_law 0 = .ok (.new 7, 3) := by decide +kernel
theorem dL_law_3 : decode cL_law 3 = .ok (.dup, 1) := by decide +kernel
theorem dL_law_4 : decode cL_law 4 = .ok (.invokespecial 9, 3) := by decide +kernel
theorem dL_law_7 : decode cL_law 7 = .ok (.astore_n 1, 1) := by decide +kernel
theorem dL_law_8 : decode cL_law 8 = .ok (.new 10, 3) := by decide +kernel
theorem dL_law_11 : decode cL_law 11 = .ok (.dup, 1) := by decide +kernel
theorem dL_law_12 : decode cL_law 12 = .ok (.invokespecial 12, 3) := by decide +kernel
theorem dL_law_15 : decode cL_law 15 = .ok (.astore_n 2, 1) := by decide +kernel
theorem dL_law_16 : decode cL_law 16 = .ok (.iconst 0, 1) := by decide +kernel
theorem dL_law_17 : decode cL_law 17 = .ok (.istore_n 3, 1) := by decide +kernel
theorem dL_law_18 : decode cL_law 18 = .ok (.iload_n 3, 1) := by decide +kernel
theorem dL_law_19 : decode cL_law 19 = .ok (.aload_n 0, 1) := by decide +kernel
theorem dL_law_20 : decode cL_law 20 = .ok (.arraylength, 1) := by decide +kernel
theorem dL_law_21 : decode cL_law 21 = .ok (.iconst 4, 1) := by decide +kernel
theorem dL_law_22 : decode cL_law 22 = .ok (.isub, 1) := by decide +kernel
theorem dL_law_23 : decode cL_law 23 = .ok (.if_icmp .gt 710, 3) := by decide +kernel
theorem dL_law_26 : decode cL_law 26 = .ok (.aload_n 0, 1) := by decide +kernel
theorem dL_law_27 : decode cL_law 27 = .ok (.iload_n 3, 1) := by decide +kernel
theorem dL_law_28 : decode cL_law 28 = .ok (.iaload, 1) := by decide +kernel
theorem dL_law_29 : decode cL_law 29 = .ok (.bipush 31, 2) := by decide +kernel
theorem dL_law_31 : decode cL_law 31 = .ok (.iand, 1) := by decide +kernel
theorem dL_law_32 : decode cL_law 32 = .ok (.tableswitch 695 0 22 #[108, 141, 190, 213, 256, 289, 322, 335, 360, 373, 386, 409, 422, 435, 448, 481, 514, 547, 570, 593, 616, 639, 672], 108) := by decide +kernel
theorem dL_law_140 : decode cL_law 140 = .ok (.aload_n 1, 1) := by decide +kernel
theorem dL_law_141 : decode cL_law 141 = .ok (.aload_n 0, 1) := by decide +kernel
theorem dL_law_142 : decode cL_law 142 = .ok (.iload_n 3, 1) := by decide +kernel
theorem dL_law_143 : decode cL_law 143 = .ok (.iconst 1, 1) := by decide +kernel
theorem dL_law_144 : decode cL_law 144 = .ok (.iadd, 1) := by decide +kernel
theorem dL_law_145 : decode cL_law 145 = .ok (.iaload, 1) := by decide +kernel
theorem dL_law_146 : decode cL_law 146 = .ok (.aload_n 0, 1) := by decide +kernel
theorem dL_law_147 : decode cL_law 147 = .ok (.iload_n 3, 1) := by decide +kernel
theorem dL_law_148 : decode cL_law 148 = .ok (.iconst 2, 1) := by decide +kernel
theorem dL_law_149 : decode cL_law 149 = .ok (.iadd, 1) := by decide +kernel
theorem dL_law_150 : decode cL_law 150 = .ok (.iaload, 1) := by decide +kernel
theorem dL_law_151 : decode cL_law 151 = .ok (.invokevirtual 13, 3) := by decide +kernel
theorem dL_law_154 : decode cL_law 154 = .ok (.aload_n 2, 1) := by decide +kernel
theorem dL_law_155 : decode cL_law 155 = .ok (.aload_n 0, 1) := by decide +kernel
theorem dL_law_156 : decode cL_law 156 = .ok (.iload_n 3, 1) := by decide +kernel
theorem dL_law_157 : decode cL_law 157 = .ok (.iconst 1, 1) := by decide +kernel
theorem dL_law_158 : decode cL_law 158 = .ok (.iadd, 1) := by decide +kernel
theorem dL_law_159 : decode cL_law 159 = .ok (.iaload, 1) := by decide +kernel
theorem dL_law_160 : decode cL_law 160 = .ok (.aload_n 0, 1) := by decide +kernel
theorem dL_law_161 : decode cL_law 161 = .ok (.iload_n 3, 1) := by decide +kernel
theorem dL_law_162 : decode cL_law 162 = .ok (.iconst 2, 1) := by decide +kernel
theorem dL_law_163 : decode cL_law 163 = .ok (.iadd, 1) := by decide +kernel
theorem dL_law_164 : decode cL_law 164 = .ok (.iaload, 1) := by decide +kernel
theorem dL_law_165 : decode cL_law 165 = .ok (.invokevirtual 17, 3) := by decide +kernel
theorem dL_law_168 : decode cL_law 168 = .ok (.if_icmp .eq 559, 3) := by decide +kernel
theorem dL_law_171 : decode cL_law 171 = .ok (.iconst 0, 1) := by decide +kernel
theorem dL_law_172 : decode cL_law 172 = .ok (.ireturn, 1) := by decide +kernel
theorem dL_law_173 : decode cL_law 173 = .ok (.aload_n 1, 1) := by decide +kernel
theorem dL_law_174 : decode cL_law 174 = .ok (.aload_n 0, 1) := by decide +kernel
theorem dL_law_175 : decode cL_law 175 = .ok (.iload_n 3, 1) := by decide +kernel
theorem dL_law_176 : decode cL_law 176 = .ok (.iconst 1, 1) := by decide +kernel
theorem dL_law_177 : decode cL_law 177 = .ok (.iadd, 1) := by decide +kernel
theorem dL_law_178 : decode cL_law 178 = .ok (.iaload, 1) := by decide +kernel
theorem dL_law_179 : decode cL_law 179 = .ok (.aload_n 0, 1) := by decide +kernel
theorem dL_law_180 : decode cL_law 180 = .ok (.iload_n 3, 1) := by decide +kernel
theorem dL_law_181 : decode cL_law 181 = .ok (.iconst 2, 1) := by decide +kernel
theorem dL_law_182 : decode cL_law 182 = .ok (.iadd, 1) := by decide +kernel
theorem dL_law_183 : decode cL_law 183 = .ok (.iaload, 1) := by decide +kernel
theorem dL_law_184 : decode cL_law 184 = .ok (.ifCond .eq 7, 3) := by decide +kernel
theorem dL_law_187 : decode cL_law 187 = .ok (.iconst 1, 1) := by decide +kernel
theorem dL_law_188 : decode cL_law 188 = .ok (.goto 4, 3) := by decide +kernel
theorem dL_law_191 : decode cL_law 191 = .ok (.iconst 0, 1) := by decide +kernel
theorem dL_law_192 : decode cL_law 192 = .ok (.invokevirtual 18, 3) := by decide +kernel
theorem dL_law_195 : decode cL_law 195 = .ok (.aload_n 2, 1) := by decide +kernel
theorem dL_law_196 : decode cL_law 196 = .ok (.aload_n 0, 1) := by decide +kernel
theorem dL_law_197 : decode cL_law 197 = .ok (.iload_n 3, 1) := by decide +kernel
theorem dL_law_198 : decode cL_law 198 = .ok (.iconst 1, 1) := by decide +kernel
theorem dL_law_199 : decode cL_law 199 = .ok (.iadd, 1) := by decide +kernel
theorem dL_law_200 : decode cL_law 200 = .ok (.iaload, 1) := by decide +kernel
theorem dL_law_201 : decode cL_law 201 = .ok (.aload_n 0, 1) := by decide +kernel
theorem dL_law_202 : decode cL_law 202 = .ok (.iload_n 3, 1) := by decide +kernel
theorem dL_law_203 : decode cL_law 203 = .ok (.iconst 2, 1) := by decide +kernel
theorem dL_law_204 : decode cL_law 204 = .ok (.iadd, 1) := by decide +kernel
theorem dL_law_205 : decode cL_law 205 = .ok (.iaload, 1) := by decide +kernel
theorem dL_law_206 : decode cL_law 206 = .ok (.ifCond .eq 7, 3) := by decide +kernel
theorem dL_law_209 : decode cL_law 209 = .ok (.iconst 1, 1) := by decide +kernel
theorem dL_law_210 : decode cL_law 210 = .ok (.goto 4, 3) := by decide +kernel
theorem dL_law_213 : decode cL_law 213 = .ok (.iconst 0, 1) := by decide +kernel
theorem dL_law_214 : decode cL_law 214 = .ok (.invokevirtual 22, 3) := by decide +kernel
theorem dL_law_217 : decode cL_law 217 = .ok (.if_icmp .eq 510, 3) := by decide +kernel
theorem dL_law_220 : decode cL_law 220 = .ok (.iconst 0, 1) := by decide +kernel
theorem dL_law_221 : decode cL_law 221 = .ok (.ireturn, 1) := by decide +kernel
theorem dL_law_222 : decode cL_law 222 = .ok (.aload_n 1, 1) := by decide +kernel
theorem dL_law_223 : decode cL_law 223 = .ok (.aload_n 0, 1) := by decide +kernel
theorem dL_law_224 : decode cL_law 224 = .ok (.iload_n 3, 1) := by decide +kernel
theorem dL_law_225 : decode cL_law 225 = .ok (.iconst 1, 1) := by decide +kernel
theorem dL_law_226 : decode cL_law 226 = .ok (.iadd, 1) := by decide +kernel
theorem dL_law_227 : decode cL_law 227 = .ok (.iaload, 1) := by decide +kernel
theorem dL_law_228 : decode cL_law 228 = .ok (.invokevirtual 23, 3) := by decide +kernel
theorem dL_law_231 : decode cL_law 231 = .ok (.aload_n 2, 1) := by decide +kernel
theorem dL_law_232 : decode cL_law 232 = .ok (.aload_n 0, 1) := by decide +kernel
theorem dL_law_233 : decode cL_law 233 = .ok (.iload_n 3, 1) := by decide +kernel
theorem dL_law_234 : decode cL_law 234 = .ok (.iconst 1, 1) := by decide +kernel
theorem dL_law_235 : decode cL_law 235 = .ok (.iadd, 1) := by decide +kernel
theorem dL_law_236 : decode cL_law 236 = .ok (.iaload, 1) := by decide +kernel
theorem dL_law_237 : decode cL_law 237 = .ok (.invokevirtual 27, 3) := by decide +kernel
theorem dL_law_240 : decode cL_law 240 = .ok (.if_icmp .eq 487, 3) := by decide +kernel
theorem dL_law_243 : decode cL_law 243 = .ok (.iconst 0, 1) := by decide +kernel
theorem dL_law_244 : decode cL_law 244 = .ok (.ireturn, 1) := by decide +kernel
theorem dL_law_245 : decode cL_law 245 = .ok (.aload_n 1, 1) := by decide +kernel
theorem dL_law_246 : decode cL_law 246 = .ok (.aload_n 0, 1) := by decide +kernel
theorem dL_law_247 : decode cL_law 247 = .ok (.iload_n 3, 1) := by decide +kernel
theorem dL_law_248 : decode cL_law 248 = .ok (.iconst 1, 1) := by decide +kernel
theorem dL_law_249 : decode cL_law 249 = .ok (.iadd, 1) := by decide +kernel
theorem dL_law_250 : decode cL_law 250 = .ok (.iaload, 1) := by decide +kernel
theorem dL_law_251 : decode cL_law 251 = .ok (.aload_n 0, 1) := by decide +kernel
theorem dL_law_252 : decode cL_law 252 = .ok (.iload_n 3, 1) := by decide +kernel
theorem dL_law_253 : decode cL_law 253 = .ok (.iconst 2, 1) := by decide +kernel
theorem dL_law_254 : decode cL_law 254 = .ok (.iadd, 1) := by decide +kernel
theorem dL_law_255 : decode cL_law 255 = .ok (.iaload, 1) := by decide +kernel
theorem dL_law_256 : decode cL_law 256 = .ok (.aload_n 0, 1) := by decide +kernel
theorem dL_law_257 : decode cL_law 257 = .ok (.iload_n 3, 1) := by decide +kernel
theorem dL_law_258 : decode cL_law 258 = .ok (.iconst 3, 1) := by decide +kernel
theorem dL_law_259 : decode cL_law 259 = .ok (.iadd, 1) := by decide +kernel
theorem dL_law_260 : decode cL_law 260 = .ok (.iaload, 1) := by decide +kernel
theorem dL_law_261 : decode cL_law 261 = .ok (.invokevirtual 28, 3) := by decide +kernel
theorem dL_law_264 : decode cL_law 264 = .ok (.aload_n 2, 1) := by decide +kernel
theorem dL_law_265 : decode cL_law 265 = .ok (.aload_n 0, 1) := by decide +kernel
theorem dL_law_266 : decode cL_law 266 = .ok (.iload_n 3, 1) := by decide +kernel
theorem dL_law_267 : decode cL_law 267 = .ok (.iconst 1, 1) := by decide +kernel
theorem dL_law_268 : decode cL_law 268 = .ok (.iadd, 1) := by decide +kernel
theorem dL_law_269 : decode cL_law 269 = .ok (.iaload, 1) := by decide +kernel
theorem dL_law_270 : decode cL_law 270 = .ok (.aload_n 0, 1) := by decide +kernel
theorem dL_law_271 : decode cL_law 271 = .ok (.iload_n 3, 1) := by decide +kernel
theorem dL_law_272 : decode cL_law 272 = .ok (.iconst 2, 1) := by decide +kernel
theorem dL_law_273 : decode cL_law 273 = .ok (.iadd, 1) := by decide +kernel
theorem dL_law_274 : decode cL_law 274 = .ok (.iaload, 1) := by decide +kernel
theorem dL_law_275 : decode cL_law 275 = .ok (.aload_n 0, 1) := by decide +kernel
theorem dL_law_276 : decode cL_law 276 = .ok (.iload_n 3, 1) := by decide +kernel
theorem dL_law_277 : decode cL_law 277 = .ok (.iconst 3, 1) := by decide +kernel
theorem dL_law_278 : decode cL_law 278 = .ok (.iadd, 1) := by decide +kernel
theorem dL_law_279 : decode cL_law 279 = .ok (.iaload, 1) := by decide +kernel
theorem dL_law_280 : decode cL_law 280 = .ok (.invokevirtual 32, 3) := by decide +kernel
theorem dL_law_283 : decode cL_law 283 = .ok (.if_icmp .eq 444, 3) := by decide +kernel
theorem dL_law_286 : decode cL_law 286 = .ok (.iconst 0, 1) := by decide +kernel
theorem dL_law_287 : decode cL_law 287 = .ok (.ireturn, 1) := by decide +kernel
theorem dL_law_288 : decode cL_law 288 = .ok (.aload_n 1, 1) := by decide +kernel
theorem dL_law_289 : decode cL_law 289 = .ok (.aload_n 0, 1) := by decide +kernel
theorem dL_law_290 : decode cL_law 290 = .ok (.iload_n 3, 1) := by decide +kernel
theorem dL_law_291 : decode cL_law 291 = .ok (.iconst 1, 1) := by decide +kernel
theorem dL_law_292 : decode cL_law 292 = .ok (.iadd, 1) := by decide +kernel
theorem dL_law_293 : decode cL_law 293 = .ok (.iaload, 1) := by decide +kernel
theorem dL_law_294 : decode cL_law 294 = .ok (.aload_n 0, 1) := by decide +kernel
theorem dL_law_295 : decode cL_law 295 = .ok (.iload_n 3, 1) := by decide +kernel
theorem dL_law_296 : decode cL_law 296 = .ok (.iconst 2, 1) := by decide +kernel
theorem dL_law_297 : decode cL_law 297 = .ok (.iadd, 1) := by decide +kernel
theorem dL_law_298 : decode cL_law 298 = .ok (.iaload, 1) := by decide +kernel
theorem dL_law_299 : decode cL_law 299 = .ok (.invokevirtual 33, 3) := by decide +kernel
theorem dL_law_302 : decode cL_law 302 = .ok (.aload_n 2, 1) := by decide +kernel
theorem dL_law_303 : decode cL_law 303 = .ok (.aload_n 0, 1) := by decide +kernel
theorem dL_law_304 : decode cL_law 304 = .ok (.iload_n 3, 1) := by decide +kernel
theorem dL_law_305 : decode cL_law 305 = .ok (.iconst 1, 1) := by decide +kernel
theorem dL_law_306 : decode cL_law 306 = .ok (.iadd, 1) := by decide +kernel
theorem dL_law_307 : decode cL_law 307 = .ok (.iaload, 1) := by decide +kernel
theorem dL_law_308 : decode cL_law 308 = .ok (.aload_n 0, 1) := by decide +kernel
theorem dL_law_309 : decode cL_law 309 = .ok (.iload_n 3, 1) := by decide +kernel
theorem dL_law_310 : decode cL_law 310 = .ok (.iconst 2, 1) := by decide +kernel
theorem dL_law_311 : decode cL_law 311 = .ok (.iadd, 1) := by decide +kernel
theorem dL_law_312 : decode cL_law 312 = .ok (.iaload, 1) := by decide +kernel
theorem dL_law_313 : decode cL_law 313 = .ok (.invokevirtual 36, 3) := by decide +kernel
theorem dL_law_316 : decode cL_law 316 = .ok (.if_icmp .eq 411, 3) := by decide +kernel
theorem dL_law_319 : decode cL_law 319 = .ok (.iconst 0, 1) := by decide +kernel
theorem dL_law_320 : decode cL_law 320 = .ok (.ireturn, 1) := by decide +kernel
theorem dL_law_321 : decode cL_law 321 = .ok (.aload_n 1, 1) := by decide +kernel
theorem dL_law_322 : decode cL_law 322 = .ok (.aload_n 0, 1) := by decide +kernel
theorem dL_law_323 : decode cL_law 323 = .ok (.iload_n 3, 1) := by decide +kernel
theorem dL_law_324 : decode cL_law 324 = .ok (.iconst 1, 1) := by decide +kernel
theorem dL_law_325 : decode cL_law 325 = .ok (.iadd, 1) := by decide +kernel
theorem dL_law_326 : decode cL_law 326 = .ok (.iaload, 1) := by decide +kernel
theorem dL_law_327 : decode cL_law 327 = .ok (.aload_n 0, 1) := by decide +kernel
theorem dL_law_328 : decode cL_law 328 = .ok (.iload_n 3, 1) := by decide +kernel
theorem dL_law_329 : decode cL_law 329 = .ok (.iconst 2, 1) := by decide +kernel
theorem dL_law_330 : decode cL_law 330 = .ok (.iadd, 1) := by decide +kernel
theorem dL_law_331 : decode cL_law 331 = .ok (.iaload, 1) := by decide +kernel
theorem dL_law_332 : decode cL_law 332 = .ok (.invokevirtual 37, 3) := by decide +kernel
theorem dL_law_335 : decode cL_law 335 = .ok (.aload_n 2, 1) := by decide +kernel
theorem dL_law_336 : decode cL_law 336 = .ok (.aload_n 0, 1) := by decide +kernel
theorem dL_law_337 : decode cL_law 337 = .ok (.iload_n 3, 1) := by decide +kernel
theorem dL_law_338 : decode cL_law 338 = .ok (.iconst 1, 1) := by decide +kernel
theorem dL_law_339 : decode cL_law 339 = .ok (.iadd, 1) := by decide +kernel
theorem dL_law_340 : decode cL_law 340 = .ok (.iaload, 1) := by decide +kernel
theorem dL_law_341 : decode cL_law 341 = .ok (.aload_n 0, 1) := by decide +kernel
theorem dL_law_342 : decode cL_law 342 = .ok (.iload_n 3, 1) := by decide +kernel
theorem dL_law_343 : decode cL_law 343 = .ok (.iconst 2, 1) := by decide +kernel
theorem dL_law_344 : decode cL_law 344 = .ok (.iadd, 1) := by decide +kernel
theorem dL_law_345 : decode cL_law 345 = .ok (.iaload, 1) := by decide +kernel
theorem dL_law_346 : decode cL_law 346 = .ok (.invokevirtual 40, 3) := by decide +kernel
theorem dL_law_349 : decode cL_law 349 = .ok (.if_icmp .eq 378, 3) := by decide +kernel
theorem dL_law_352 : decode cL_law 352 = .ok (.iconst 0, 1) := by decide +kernel
theorem dL_law_353 : decode cL_law 353 = .ok (.ireturn, 1) := by decide +kernel
theorem dL_law_354 : decode cL_law 354 = .ok (.aload_n 1, 1) := by decide +kernel
theorem dL_law_355 : decode cL_law 355 = .ok (.invokevirtual 41, 3) := by decide +kernel
theorem dL_law_358 : decode cL_law 358 = .ok (.aload_n 2, 1) := by decide +kernel
theorem dL_law_359 : decode cL_law 359 = .ok (.invokevirtual 45, 3) := by decide +kernel
theorem dL_law_362 : decode cL_law 362 = .ok (.if_icmp .eq 365, 3) := by decide +kernel
theorem dL_law_365 : decode cL_law 365 = .ok (.iconst 0, 1) := by decide +kernel
theorem dL_law_366 : decode cL_law 366 = .ok (.ireturn, 1) := by decide +kernel
theorem dL_law_367 : decode cL_law 367 = .ok (.aload_n 1, 1) := by decide +kernel
theorem dL_law_368 : decode cL_law 368 = .ok (.aload_n 0, 1) := by decide +kernel
theorem dL_law_369 : decode cL_law 369 = .ok (.iload_n 3, 1) := by decide +kernel
theorem dL_law_370 : decode cL_law 370 = .ok (.iconst 1, 1) := by decide +kernel
theorem dL_law_371 : decode cL_law 371 = .ok (.iadd, 1) := by decide +kernel
theorem dL_law_372 : decode cL_law 372 = .ok (.iaload, 1) := by decide +kernel
theorem dL_law_373 : decode cL_law 373 = .ok (.i2c, 1) := by decide +kernel
theorem dL_law_374 : decode cL_law 374 = .ok (.invokevirtual 46, 3) := by decide +kernel
theorem dL_law_377 : decode cL_law 377 = .ok (.aload_n 2, 1) := by decide +kernel
theorem dL_law_378 : decode cL_law 378 = .ok (.aload_n 0, 1) := by decide +kernel
theorem dL_law_379 : decode cL_law 379 = .ok (.iload_n 3, 1) := by decide +kernel
theorem dL_law_380 : decode cL_law 380 = .ok (.iconst 1, 1) := by decide +kernel
theorem dL_law_381 : decode cL_law 381 = .ok (.iadd, 1) := by decide +kernel
theorem dL_law_382 : decode cL_law 382 = .ok (.iaload, 1) := by decide +kernel
theorem dL_law_383 : decode cL_law 383 = .ok (.i2c, 1) := by decide +kernel
theorem dL_law_384 : decode cL_law 384 = .ok (.invokevirtual 50, 3) := by decide +kernel
theorem dL_law_387 : decode cL_law 387 = .ok (.if_icmp .eq 340, 3) := by decide +kernel
theorem dL_law_390 : decode cL_law 390 = .ok (.iconst 0, 1) := by decide +kernel
theorem dL_law_391 : decode cL_law 391 = .ok (.ireturn, 1) := by decide +kernel
theorem dL_law_392 : decode cL_law 392 = .ok (.aload_n 1, 1) := by decide +kernel
theorem dL_law_393 : decode cL_law 393 = .ok (.invokevirtual 51, 3) := by decide +kernel
theorem dL_law_396 : decode cL_law 396 = .ok (.aload_n 2, 1) := by decide +kernel
theorem dL_law_397 : decode cL_law 397 = .ok (.invokevirtual 54, 3) := by decide +kernel
theorem dL_law_400 : decode cL_law 400 = .ok (.if_icmp .eq 327, 3) := by decide +kernel
theorem dL_law_403 : decode cL_law 403 = .ok (.iconst 0, 1) := by decide +kernel
theorem dL_law_404 : decode cL_law 404 = .ok (.ireturn, 1) := by decide +kernel
theorem dL_law_405 : decode cL_law 405 = .ok (.aload_n 1, 1) := by decide +kernel
theorem dL_law_406 : decode cL_law 406 = .ok (.invokevirtual 55, 3) := by decide +kernel
theorem dL_law_409 : decode cL_law 409 = .ok (.aload_n 2, 1) := by decide +kernel
theorem dL_law_410 : decode cL_law 410 = .ok (.invokevirtual 58, 3) := by decide +kernel
theorem dL_law_413 : decode cL_law 413 = .ok (.if_icmp .eq 314, 3) := by decide +kernel
theorem dL_law_416 : decode cL_law 416 = .ok (.iconst 0, 1) := by decide +kernel
theorem dL_law_417 : decode cL_law 417 = .ok (.ireturn, 1) := by decide +kernel
theorem dL_law_418 : decode cL_law 418 = .ok (.aload_n 1, 1) := by decide +kernel
theorem dL_law_419 : decode cL_law 419 = .ok (.aload_n 0, 1) := by decide +kernel
theorem dL_law_420 : decode cL_law 420 = .ok (.iload_n 3, 1) := by decide +kernel
theorem dL_law_421 : decode cL_law 421 = .ok (.iconst 1, 1) := by decide +kernel
theorem dL_law_422 : decode cL_law 422 = .ok (.iadd, 1) := by decide +kernel
theorem dL_law_423 : decode cL_law 423 = .ok (.iaload, 1) := by decide +kernel
theorem dL_law_424 : decode cL_law 424 = .ok (.invokevirtual 59, 3) := by decide +kernel
theorem dL_law_427 : decode cL_law 427 = .ok (.aload_n 2, 1) := by decide +kernel
theorem dL_law_428 : decode cL_law 428 = .ok (.aload_n 0, 1) := by decide +kernel
theorem dL_law_429 : decode cL_law 429 = .ok (.iload_n 3, 1) := by decide +kernel
theorem dL_law_430 : decode cL_law 430 = .ok (.iconst 1, 1) := by decide +kernel
theorem dL_law_431 : decode cL_law 431 = .ok (.iadd, 1) := by decide +kernel
theorem dL_law_432 : decode cL_law 432 = .ok (.iaload, 1) := by decide +kernel
theorem dL_law_433 : decode cL_law 433 = .ok (.invokevirtual 62, 3) := by decide +kernel
theorem dL_law_436 : decode cL_law 436 = .ok (.if_icmp .eq 291, 3) := by decide +kernel
theorem dL_law_439 : decode cL_law 439 = .ok (.iconst 0, 1) := by decide +kernel
theorem dL_law_440 : decode cL_law 440 = .ok (.ireturn, 1) := by decide +kernel
theorem dL_law_441 : decode cL_law 441 = .ok (.aload_n 1, 1) := by decide +kernel
theorem dL_law_442 : decode cL_law 442 = .ok (.invokevirtual 63, 3) := by decide +kernel
theorem dL_law_445 : decode cL_law 445 = .ok (.aload_n 2, 1) := by decide +kernel
theorem dL_law_446 : decode cL_law 446 = .ok (.invokevirtual 66, 3) := by decide +kernel
theorem dL_law_449 : decode cL_law 449 = .ok (.if_icmp .eq 278, 3) := by decide +kernel
theorem dL_law_452 : decode cL_law 452 = .ok (.iconst 0, 1) := by decide +kernel
theorem dL_law_453 : decode cL_law 453 = .ok (.ireturn, 1) := by decide +kernel
theorem dL_law_454 : decode cL_law 454 = .ok (.aload_n 1, 1) := by decide +kernel
theorem dL_law_455 : decode cL_law 455 = .ok (.invokevirtual 67, 3) := by decide +kernel
theorem dL_law_458 : decode cL_law 458 = .ok (.aload_n 2, 1) := by decide +kernel
theorem dL_law_459 : decode cL_law 459 = .ok (.invokevirtual 70, 3) := by decide +kernel
theorem dL_law_462 : decode cL_law 462 = .ok (.if_icmp .eq 265, 3) := by decide +kernel
theorem dL_law_465 : decode cL_law 465 = .ok (.iconst 0, 1) := by decide +kernel
theorem dL_law_466 : decode cL_law 466 = .ok (.ireturn, 1) := by decide +kernel
theorem dL_law_467 : decode cL_law 467 = .ok (.aload_n 1, 1) := by decide +kernel
theorem dL_law_468 : decode cL_law 468 = .ok (.invokevirtual 71, 3) := by decide +kernel
theorem dL_law_471 : decode cL_law 471 = .ok (.aload_n 2, 1) := by decide +kernel
theorem dL_law_472 : decode cL_law 472 = .ok (.invokevirtual 74, 3) := by decide +kernel
theorem dL_law_475 : decode cL_law 475 = .ok (.if_icmp .eq 252, 3) := by decide +kernel
theorem dL_law_478 : decode cL_law 478 = .ok (.iconst 0, 1) := by decide +kernel
theorem dL_law_479 : decode cL_law 479 = .ok (.ireturn, 1) := by decide +kernel
theorem dL_law_480 : decode cL_law 480 = .ok (.aload_n 1, 1) := by decide +kernel
theorem dL_law_481 : decode cL_law 481 = .ok (.aload_n 0, 1) := by decide +kernel
theorem dL_law_482 : decode cL_law 482 = .ok (.iload_n 3, 1) := by decide +kernel
theorem dL_law_483 : decode cL_law 483 = .ok (.iconst 1, 1) := by decide +kernel
theorem dL_law_484 : decode cL_law 484 = .ok (.iadd, 1) := by decide +kernel
theorem dL_law_485 : decode cL_law 485 = .ok (.iaload, 1) := by decide +kernel
theorem dL_law_486 : decode cL_law 486 = .ok (.aload_n 0, 1) := by decide +kernel
theorem dL_law_487 : decode cL_law 487 = .ok (.iload_n 3, 1) := by decide +kernel
theorem dL_law_488 : decode cL_law 488 = .ok (.iconst 2, 1) := by decide +kernel
theorem dL_law_489 : decode cL_law 489 = .ok (.iadd, 1) := by decide +kernel
theorem dL_law_490 : decode cL_law 490 = .ok (.iaload, 1) := by decide +kernel
theorem dL_law_491 : decode cL_law 491 = .ok (.invokevirtual 75, 3) := by decide +kernel
theorem dL_law_494 : decode cL_law 494 = .ok (.aload_n 2, 1) := by decide +kernel
theorem dL_law_495 : decode cL_law 495 = .ok (.aload_n 0, 1) := by decide +kernel
theorem dL_law_496 : decode cL_law 496 = .ok (.iload_n 3, 1) := by decide +kernel
theorem dL_law_497 : decode cL_law 497 = .ok (.iconst 1, 1) := by decide +kernel
theorem dL_law_498 : decode cL_law 498 = .ok (.iadd, 1) := by decide +kernel
theorem dL_law_499 : decode cL_law 499 = .ok (.iaload, 1) := by decide +kernel
theorem dL_law_500 : decode cL_law 500 = .ok (.aload_n 0, 1) := by decide +kernel
theorem dL_law_501 : decode cL_law 501 = .ok (.iload_n 3, 1) := by decide +kernel
theorem dL_law_502 : decode cL_law 502 = .ok (.iconst 2, 1) := by decide +kernel
theorem dL_law_503 : decode cL_law 503 = .ok (.iadd, 1) := by decide +kernel
theorem dL_law_504 : decode cL_law 504 = .ok (.iaload, 1) := by decide +kernel
theorem dL_law_505 : decode cL_law 505 = .ok (.invokevirtual 78, 3) := by decide +kernel
theorem dL_law_508 : decode cL_law 508 = .ok (.if_icmp .eq 219, 3) := by decide +kernel
theorem dL_law_511 : decode cL_law 511 = .ok (.iconst 0, 1) := by decide +kernel
theorem dL_law_512 : decode cL_law 512 = .ok (.ireturn, 1) := by decide +kernel
theorem dL_law_513 : decode cL_law 513 = .ok (.aload_n 1, 1) := by decide +kernel
theorem dL_law_514 : decode cL_law 514 = .ok (.aload_n 0, 1) := by decide +kernel
theorem dL_law_515 : decode cL_law 515 = .ok (.iload_n 3, 1) := by decide +kernel
theorem dL_law_516 : decode cL_law 516 = .ok (.iconst 1, 1) := by decide +kernel
theorem dL_law_517 : decode cL_law 517 = .ok (.iadd, 1) := by decide +kernel
theorem dL_law_518 : decode cL_law 518 = .ok (.iaload, 1) := by decide +kernel
theorem dL_law_519 : decode cL_law 519 = .ok (.aload_n 0, 1) := by decide +kernel
theorem dL_law_520 : decode cL_law 520 = .ok (.iload_n 3, 1) := by decide +kernel
theorem dL_law_521 : decode cL_law 521 = .ok (.iconst 2, 1) := by decide +kernel
theorem dL_law_522 : decode cL_law 522 = .ok (.iadd, 1) := by decide +kernel
theorem dL_law_523 : decode cL_law 523 = .ok (.iaload, 1) := by decide +kernel
theorem dL_law_524 : decode cL_law 524 = .ok (.invokevirtual 79, 3) := by decide +kernel
theorem dL_law_527 : decode cL_law 527 = .ok (.aload_n 2, 1) := by decide +kernel
theorem dL_law_528 : decode cL_law 528 = .ok (.aload_n 0, 1) := by decide +kernel
theorem dL_law_529 : decode cL_law 529 = .ok (.iload_n 3, 1) := by decide +kernel
theorem dL_law_530 : decode cL_law 530 = .ok (.iconst 1, 1) := by decide +kernel
theorem dL_law_531 : decode cL_law 531 = .ok (.iadd, 1) := by decide +kernel
theorem dL_law_532 : decode cL_law 532 = .ok (.iaload, 1) := by decide +kernel
theorem dL_law_533 : decode cL_law 533 = .ok (.aload_n 0, 1) := by decide +kernel
theorem dL_law_534 : decode cL_law 534 = .ok (.iload_n 3, 1) := by decide +kernel
theorem dL_law_535 : decode cL_law 535 = .ok (.iconst 2, 1) := by decide +kernel
theorem dL_law_536 : decode cL_law 536 = .ok (.iadd, 1) := by decide +kernel
theorem dL_law_537 : decode cL_law 537 = .ok (.iaload, 1) := by decide +kernel
theorem dL_law_538 : decode cL_law 538 = .ok (.invokevirtual 82, 3) := by decide +kernel
theorem dL_law_541 : decode cL_law 541 = .ok (.if_icmp .eq 186, 3) := by decide +kernel
theorem dL_law_544 : decode cL_law 544 = .ok (.iconst 0, 1) := by decide +kernel
theorem dL_law_545 : decode cL_law 545 = .ok (.ireturn, 1) := by decide +kernel
theorem dL_law_546 : decode cL_law 546 = .ok (.aload_n 1, 1) := by decide +kernel
theorem dL_law_547 : decode cL_law 547 = .ok (.aload_n 0, 1) := by decide +kernel
theorem dL_law_548 : decode cL_law 548 = .ok (.iload_n 3, 1) := by decide +kernel
theorem dL_law_549 : decode cL_law 549 = .ok (.iconst 1, 1) := by decide +kernel
theorem dL_law_550 : decode cL_law 550 = .ok (.iadd, 1) := by decide +kernel
theorem dL_law_551 : decode cL_law 551 = .ok (.iaload, 1) := by decide +kernel
theorem dL_law_552 : decode cL_law 552 = .ok (.aload_n 0, 1) := by decide +kernel
theorem dL_law_553 : decode cL_law 553 = .ok (.iload_n 3, 1) := by decide +kernel
theorem dL_law_554 : decode cL_law 554 = .ok (.iconst 2, 1) := by decide +kernel
theorem dL_law_555 : decode cL_law 555 = .ok (.iadd, 1) := by decide +kernel
theorem dL_law_556 : decode cL_law 556 = .ok (.iaload, 1) := by decide +kernel
theorem dL_law_557 : decode cL_law 557 = .ok (.invokevirtual 83, 3) := by decide +kernel
theorem dL_law_560 : decode cL_law 560 = .ok (.aload_n 2, 1) := by decide +kernel
theorem dL_law_561 : decode cL_law 561 = .ok (.aload_n 0, 1) := by decide +kernel
theorem dL_law_562 : decode cL_law 562 = .ok (.iload_n 3, 1) := by decide +kernel
theorem dL_law_563 : decode cL_law 563 = .ok (.iconst 1, 1) := by decide +kernel
theorem dL_law_564 : decode cL_law 564 = .ok (.iadd, 1) := by decide +kernel
theorem dL_law_565 : decode cL_law 565 = .ok (.iaload, 1) := by decide +kernel
theorem dL_law_566 : decode cL_law 566 = .ok (.aload_n 0, 1) := by decide +kernel
theorem dL_law_567 : decode cL_law 567 = .ok (.iload_n 3, 1) := by decide +kernel
theorem dL_law_568 : decode cL_law 568 = .ok (.iconst 2, 1) := by decide +kernel
theorem dL_law_569 : decode cL_law 569 = .ok (.iadd, 1) := by decide +kernel
theorem dL_law_570 : decode cL_law 570 = .ok (.iaload, 1) := by decide +kernel
theorem dL_law_571 : decode cL_law 571 = .ok (.invokevirtual 86, 3) := by decide +kernel
theorem dL_law_574 : decode cL_law 574 = .ok (.if_icmp .eq 153, 3) := by decide +kernel
theorem dL_law_577 : decode cL_law 577 = .ok (.iconst 0, 1) := by decide +kernel
theorem dL_law_578 : decode cL_law 578 = .ok (.ireturn, 1) := by decide +kernel
theorem dL_law_579 : decode cL_law 579 = .ok (.aload_n 1, 1) := by decide +kernel
theorem dL_law_580 : decode cL_law 580 = .ok (.aload_n 0, 1) := by decide +kernel
theorem dL_law_581 : decode cL_law 581 = .ok (.iload_n 3, 1) := by decide +kernel
theorem dL_law_582 : decode cL_law 582 = .ok (.iconst 1, 1) := by decide +kernel
theorem dL_law_583 : decode cL_law 583 = .ok (.iadd, 1) := by decide +kernel
theorem dL_law_584 : decode cL_law 584 = .ok (.iaload, 1) := by decide +kernel
theorem dL_law_585 : decode cL_law 585 = .ok (.invokevirtual 87, 3) := by decide +kernel
theorem dL_law_588 : decode cL_law 588 = .ok (.aload_n 2, 1) := by decide +kernel
theorem dL_law_589 : decode cL_law 589 = .ok (.aload_n 0, 1) := by decide +kernel
theorem dL_law_590 : decode cL_law 590 = .ok (.iload_n 3, 1) := by decide +kernel
theorem dL_law_591 : decode cL_law 591 = .ok (.iconst 1, 1) := by decide +kernel
theorem dL_law_592 : decode cL_law 592 = .ok (.iadd, 1) := by decide +kernel
theorem dL_law_593 : decode cL_law 593 = .ok (.iaload, 1) := by decide +kernel
theorem dL_law_594 : decode cL_law 594 = .ok (.invokevirtual 90, 3) := by decide +kernel
theorem dL_law_597 : decode cL_law 597 = .ok (.if_icmp .eq 130, 3) := by decide +kernel
theorem dL_law_600 : decode cL_law 600 = .ok (.iconst 0, 1) := by decide +kernel
theorem dL_law_601 : decode cL_law 601 = .ok (.ireturn, 1) := by decide +kernel
theorem dL_law_602 : decode cL_law 602 = .ok (.aload_n 1, 1) := by decide +kernel
theorem dL_law_603 : decode cL_law 603 = .ok (.aload_n 0, 1) := by decide +kernel
theorem dL_law_604 : decode cL_law 604 = .ok (.iload_n 3, 1) := by decide +kernel
theorem dL_law_605 : decode cL_law 605 = .ok (.iconst 1, 1) := by decide +kernel
theorem dL_law_606 : decode cL_law 606 = .ok (.iadd, 1) := by decide +kernel
theorem dL_law_607 : decode cL_law 607 = .ok (.iaload, 1) := by decide +kernel
theorem dL_law_608 : decode cL_law 608 = .ok (.invokevirtual 91, 3) := by decide +kernel
theorem dL_law_611 : decode cL_law 611 = .ok (.aload_n 2, 1) := by decide +kernel
theorem dL_law_612 : decode cL_law 612 = .ok (.aload_n 0, 1) := by decide +kernel
theorem dL_law_613 : decode cL_law 613 = .ok (.iload_n 3, 1) := by decide +kernel
theorem dL_law_614 : decode cL_law 614 = .ok (.iconst 1, 1) := by decide +kernel
theorem dL_law_615 : decode cL_law 615 = .ok (.iadd, 1) := by decide +kernel
theorem dL_law_616 : decode cL_law 616 = .ok (.iaload, 1) := by decide +kernel
theorem dL_law_617 : decode cL_law 617 = .ok (.invokevirtual 94, 3) := by decide +kernel
theorem dL_law_620 : decode cL_law 620 = .ok (.if_icmp .eq 107, 3) := by decide +kernel
theorem dL_law_623 : decode cL_law 623 = .ok (.iconst 0, 1) := by decide +kernel
theorem dL_law_624 : decode cL_law 624 = .ok (.ireturn, 1) := by decide +kernel
theorem dL_law_625 : decode cL_law 625 = .ok (.aload_n 1, 1) := by decide +kernel
theorem dL_law_626 : decode cL_law 626 = .ok (.aload_n 0, 1) := by decide +kernel
theorem dL_law_627 : decode cL_law 627 = .ok (.iload_n 3, 1) := by decide +kernel
theorem dL_law_628 : decode cL_law 628 = .ok (.iconst 1, 1) := by decide +kernel
theorem dL_law_629 : decode cL_law 629 = .ok (.iadd, 1) := by decide +kernel
theorem dL_law_630 : decode cL_law 630 = .ok (.iaload, 1) := by decide +kernel
theorem dL_law_631 : decode cL_law 631 = .ok (.invokevirtual 95, 3) := by decide +kernel
theorem dL_law_634 : decode cL_law 634 = .ok (.aload_n 2, 1) := by decide +kernel
theorem dL_law_635 : decode cL_law 635 = .ok (.aload_n 0, 1) := by decide +kernel
theorem dL_law_636 : decode cL_law 636 = .ok (.iload_n 3, 1) := by decide +kernel
theorem dL_law_637 : decode cL_law 637 = .ok (.iconst 1, 1) := by decide +kernel
theorem dL_law_638 : decode cL_law 638 = .ok (.iadd, 1) := by decide +kernel
theorem dL_law_639 : decode cL_law 639 = .ok (.iaload, 1) := by decide +kernel
theorem dL_law_640 : decode cL_law 640 = .ok (.invokevirtual 98, 3) := by decide +kernel
theorem dL_law_643 : decode cL_law 643 = .ok (.if_icmp .eq 84, 3) := by decide +kernel
theorem dL_law_646 : decode cL_law 646 = .ok (.iconst 0, 1) := by decide +kernel
theorem dL_law_647 : decode cL_law 647 = .ok (.ireturn, 1) := by decide +kernel
theorem dL_law_648 : decode cL_law 648 = .ok (.aload_n 1, 1) := by decide +kernel
theorem dL_law_649 : decode cL_law 649 = .ok (.aload_n 0, 1) := by decide +kernel
theorem dL_law_650 : decode cL_law 650 = .ok (.iload_n 3, 1) := by decide +kernel
theorem dL_law_651 : decode cL_law 651 = .ok (.iconst 1, 1) := by decide +kernel
theorem dL_law_652 : decode cL_law 652 = .ok (.iadd, 1) := by decide +kernel
theorem dL_law_653 : decode cL_law 653 = .ok (.iaload, 1) := by decide +kernel
theorem dL_law_654 : decode cL_law 654 = .ok (.invokevirtual 99, 3) := by decide +kernel
theorem dL_law_657 : decode cL_law 657 = .ok (.aload_n 2, 1) := by decide +kernel
theorem dL_law_658 : decode cL_law 658 = .ok (.aload_n 0, 1) := by decide +kernel
theorem dL_law_659 : decode cL_law 659 = .ok (.iload_n 3, 1) := by decide +kernel
theorem dL_law_660 : decode cL_law 660 = .ok (.iconst 1, 1) := by decide +kernel
theorem dL_law_661 : decode cL_law 661 = .ok (.iadd, 1) := by decide +kernel
theorem dL_law_662 : decode cL_law 662 = .ok (.iaload, 1) := by decide +kernel
theorem dL_law_663 : decode cL_law 663 = .ok (.invokevirtual 102, 3) := by decide +kernel
theorem dL_law_666 : decode cL_law 666 = .ok (.if_icmp .eq 61, 3) := by decide +kernel
theorem dL_law_669 : decode cL_law 669 = .ok (.iconst 0, 1) := by decide +kernel
theorem dL_law_670 : decode cL_law 670 = .ok (.ireturn, 1) := by decide +kernel
theorem dL_law_671 : decode cL_law 671 = .ok (.aload_n 1, 1) := by decide +kernel
theorem dL_law_672 : decode cL_law 672 = .ok (.aload_n 0, 1) := by decide +kernel
theorem dL_law_673 : decode cL_law 673 = .ok (.iload_n 3, 1) := by decide +kernel
theorem dL_law_674 : decode cL_law 674 = .ok (.iconst 1, 1) := by decide +kernel
theorem dL_law_675 : decode cL_law 675 = .ok (.iadd, 1) := by decide +kernel
theorem dL_law_676 : decode cL_law 676 = .ok (.iaload, 1) := by decide +kernel
theorem dL_law_677 : decode cL_law 677 = .ok (.aload_n 0, 1) := by decide +kernel
theorem dL_law_678 : decode cL_law 678 = .ok (.iload_n 3, 1) := by decide +kernel
theorem dL_law_679 : decode cL_law 679 = .ok (.iconst 2, 1) := by decide +kernel
theorem dL_law_680 : decode cL_law 680 = .ok (.iadd, 1) := by decide +kernel
theorem dL_law_681 : decode cL_law 681 = .ok (.iaload, 1) := by decide +kernel
theorem dL_law_682 : decode cL_law 682 = .ok (.invokevirtual 103, 3) := by decide +kernel
theorem dL_law_685 : decode cL_law 685 = .ok (.aload_n 2, 1) := by decide +kernel
theorem dL_law_686 : decode cL_law 686 = .ok (.aload_n 0, 1) := by decide +kernel
theorem dL_law_687 : decode cL_law 687 = .ok (.iload_n 3, 1) := by decide +kernel
theorem dL_law_688 : decode cL_law 688 = .ok (.iconst 1, 1) := by decide +kernel
theorem dL_law_689 : decode cL_law 689 = .ok (.iadd, 1) := by decide +kernel
theorem dL_law_690 : decode cL_law 690 = .ok (.iaload, 1) := by decide +kernel
theorem dL_law_691 : decode cL_law 691 = .ok (.aload_n 0, 1) := by decide +kernel
theorem dL_law_692 : decode cL_law 692 = .ok (.iload_n 3, 1) := by decide +kernel
theorem dL_law_693 : decode cL_law 693 = .ok (.iconst 2, 1) := by decide +kernel
theorem dL_law_694 : decode cL_law 694 = .ok (.iadd, 1) := by decide +kernel
theorem dL_law_695 : decode cL_law 695 = .ok (.iaload, 1) := by decide +kernel
theorem dL_law_696 : decode cL_law 696 = .ok (.invokevirtual 106, 3) := by decide +kernel
theorem dL_law_699 : decode cL_law 699 = .ok (.if_icmp .eq 28, 3) := by decide +kernel
theorem dL_law_702 : decode cL_law 702 = .ok (.iconst 0, 1) := by decide +kernel
theorem dL_law_703 : decode cL_law 703 = .ok (.ireturn, 1) := by decide +kernel
theorem dL_law_704 : decode cL_law 704 = .ok (.aload_n 1, 1) := by decide +kernel
theorem dL_law_705 : decode cL_law 705 = .ok (.aload_n 0, 1) := by decide +kernel
theorem dL_law_706 : decode cL_law 706 = .ok (.iload_n 3, 1) := by decide +kernel
theorem dL_law_707 : decode cL_law 707 = .ok (.iconst 1, 1) := by decide +kernel
theorem dL_law_708 : decode cL_law 708 = .ok (.iadd, 1) := by decide +kernel
theorem dL_law_709 : decode cL_law 709 = .ok (.iaload, 1) := by decide +kernel
theorem dL_law_710 : decode cL_law 710 = .ok (.invokevirtual 107, 3) := by decide +kernel
theorem dL_law_713 : decode cL_law 713 = .ok (.aload_n 2, 1) := by decide +kernel
theorem dL_law_714 : decode cL_law 714 = .ok (.aload_n 0, 1) := by decide +kernel
theorem dL_law_715 : decode cL_law 715 = .ok (.iload_n 3, 1) := by decide +kernel
theorem dL_law_716 : decode cL_law 716 = .ok (.iconst 1, 1) := by decide +kernel
theorem dL_law_717 : decode cL_law 717 = .ok (.iadd, 1) := by decide +kernel
theorem dL_law_718 : decode cL_law 718 = .ok (.iaload, 1) := by decide +kernel
theorem dL_law_719 : decode cL_law 719 = .ok (.invokevirtual 110, 3) := by decide +kernel
theorem dL_law_722 : decode cL_law 722 = .ok (.if_icmp .eq 5, 3) := by decide +kernel
theorem dL_law_725 : decode cL_law 725 = .ok (.iconst 0, 1) := by decide +kernel
theorem dL_law_726 : decode cL_law 726 = .ok (.ireturn, 1) := by decide +kernel
theorem dL_law_727 : decode cL_law 727 = .ok (.iinc 3 4, 3) := by decide +kernel
theorem dL_law_730 : decode cL_law 730 = .ok (.goto (-712), 3) := by decide +kernel
theorem dL_law_733 : decode cL_law 733 = .ok (.iconst 1, 1) := by decide +kernel
theorem dL_law_734 : decode cL_law 734 = .ok (.ireturn, 1) := by decide +kernel
