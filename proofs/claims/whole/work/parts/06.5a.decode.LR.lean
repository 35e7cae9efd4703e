theorem d_LR_word_0 : decode M_LR_word.2.1 0 = .ok (.iload_n 2, 1) := by decide +kernel
theorem d_LR_word_1 : decode M_LR_word.2.1 1 = .ok (.ifCond .ne (17), 3) := by decide +kernel
theorem d_LR_word_4 : decode M_LR_word.2.1 4 = .ok (.aload_n 0, 1) := by decide +kernel
theorem d_LR_word_5 : decode M_LR_word.2.1 5 = .ok (.getfield 21, 3) := by decide +kernel
theorem d_LR_word_8 : decode M_LR_word.2.1 8 = .ok (.iload_n 1, 1) := by decide +kernel
theorem d_LR_word_9 : decode M_LR_word.2.1 9 = .ok (.baload, 1) := by decide +kernel
theorem d_LR_word_10 : decode M_LR_word.2.1 10 = .ok (.ifCond .eq (8), 3) := by decide +kernel
theorem d_LR_word_13 : decode M_LR_word.2.1 13 = .ok (.ldc 53, 2) := by decide +kernel
theorem d_LR_word_15 : decode M_LR_word.2.1 15 = .ok (.goto (14), 3) := by decide +kernel
theorem d_LR_word_18 : decode M_LR_word.2.1 18 = .ok (.aload_n 0, 1) := by decide +kernel
theorem d_LR_word_19 : decode M_LR_word.2.1 19 = .ok (.aload_n 0, 1) := by decide +kernel
theorem d_LR_word_20 : decode M_LR_word.2.1 20 = .ok (.getfield 15, 3) := by decide +kernel
theorem d_LR_word_23 : decode M_LR_word.2.1 23 = .ok (.iload_n 1, 1) := by decide +kernel
theorem d_LR_word_24 : decode M_LR_word.2.1 24 = .ok (.iaload, 1) := by decide +kernel
theorem d_LR_word_25 : decode M_LR_word.2.1 25 = .ok (.iload_n 2, 1) := by decide +kernel
theorem d_LR_word_26 : decode M_LR_word.2.1 26 = .ok (.invokevirtual 54, 3) := by decide +kernel
theorem d_LR_word_29 : decode M_LR_word.2.1 29 = .ok (.ireturn, 1) := by decide +kernel
theorem d_LR_wordAt_0 : decode M_LR_wordAt.2.1 0 = .ok (.aload_n 0, 1) := by decide +kernel
theorem d_LR_wordAt_1 : decode M_LR_wordAt.2.1 1 = .ok (.getfield 9, 3) := by decide +kernel
theorem d_LR_wordAt_4 : decode M_LR_wordAt.2.1 4 = .ok (.iload_n 1, 1) := by decide +kernel
theorem d_LR_wordAt_5 : decode M_LR_wordAt.2.1 5 = .ok (.iconst (4), 1) := by decide +kernel
theorem d_LR_wordAt_6 : decode M_LR_wordAt.2.1 6 = .ok (.imul, 1) := by decide +kernel
theorem d_LR_wordAt_7 : decode M_LR_wordAt.2.1 7 = .ok (.iload_n 2, 1) := by decide +kernel
theorem d_LR_wordAt_8 : decode M_LR_wordAt.2.1 8 = .ok (.iadd, 1) := by decide +kernel
theorem d_LR_wordAt_9 : decode M_LR_wordAt.2.1 9 = .ok (.iaload, 1) := by decide +kernel
theorem d_LR_wordAt_10 : decode M_LR_wordAt.2.1 10 = .ok (.ireturn, 1) := by decide +kernel
theorem d_LR_isToReplay_0 : decode M_LR_isToReplay.2.1 0 = .ok (.aload_n 0, 1) := by decide +kernel
theorem d_LR_isToReplay_1 : decode M_LR_isToReplay.2.1 1 = .ok (.getfield 28, 3) := by decide +kernel
theorem d_LR_isToReplay_4 : decode M_LR_isToReplay.2.1 4 = .ok (.aload_n 0, 1) := by decide +kernel
theorem d_LR_isToReplay_5 : decode M_LR_isToReplay.2.1 5 = .ok (.getfield 18, 3) := by decide +kernel
theorem d_LR_isToReplay_8 : decode M_LR_isToReplay.2.1 8 = .ok (.iload_n 1, 1) := by decide +kernel
theorem d_LR_isToReplay_9 : decode M_LR_isToReplay.2.1 9 = .ok (.iaload, 1) := by decide +kernel
theorem d_LR_isToReplay_10 : decode M_LR_isToReplay.2.1 10 = .ok (.iaload, 1) := by decide +kernel
theorem d_LR_isToReplay_11 : decode M_LR_isToReplay.2.1 11 = .ok (.aload_n 0, 1) := by decide +kernel
theorem d_LR_isToReplay_12 : decode M_LR_isToReplay.2.1 12 = .ok (.getfield 25, 3) := by decide +kernel
theorem d_LR_isToReplay_15 : decode M_LR_isToReplay.2.1 15 = .ok (.iload_n 1, 1) := by decide +kernel
theorem d_LR_isToReplay_16 : decode M_LR_isToReplay.2.1 16 = .ok (.iaload, 1) := by decide +kernel
theorem d_LR_isToReplay_17 : decode M_LR_isToReplay.2.1 17 = .ok (.if_icmp .gt (7), 3) := by decide +kernel
theorem d_LR_isToReplay_20 : decode M_LR_isToReplay.2.1 20 = .ok (.iconst (1), 1) := by decide +kernel
theorem d_LR_isToReplay_21 : decode M_LR_isToReplay.2.1 21 = .ok (.goto (4), 3) := by decide +kernel
theorem d_LR_isToReplay_24 : decode M_LR_isToReplay.2.1 24 = .ok (.iconst (0), 1) := by decide +kernel
theorem d_LR_isToReplay_25 : decode M_LR_isToReplay.2.1 25 = .ok (.ireturn, 1) := by decide +kernel
theorem d_LR_scan_0 : decode M_LR_scan.2.1 0 = .ok (.aload_n 0, 1) := by decide +kernel
theorem d_LR_scan_1 : decode M_LR_scan.2.1 1 = .ok (.aload_n 1, 1) := by decide +kernel
theorem d_LR_scan_2 : decode M_LR_scan.2.1 2 = .ok (.invokevirtual 58, 3) := by decide +kernel
theorem d_LR_scan_5 : decode M_LR_scan.2.1 5 = .ok (.aload_n 0, 1) := by decide +kernel
theorem d_LR_scan_6 : decode M_LR_scan.2.1 6 = .ok (.aload_n 1, 1) := by decide +kernel
theorem d_LR_scan_7 : decode M_LR_scan.2.1 7 = .ok (.invokevirtual 62, 3) := by decide +kernel
theorem d_LR_scan_10 : decode M_LR_scan.2.1 10 = .ok (.aload_n 0, 1) := by decide +kernel
theorem d_LR_scan_11 : decode M_LR_scan.2.1 11 = .ok (.getfield 28, 3) := by decide +kernel
theorem d_LR_scan_14 : decode M_LR_scan.2.1 14 = .ok (.iconst (-1), 1) := by decide +kernel
theorem d_LR_scan_15 : decode M_LR_scan.2.1 15 = .ok (.invokestatic 65, 3) := by decide +kernel
theorem d_LR_scan_18 : decode M_LR_scan.2.1 18 = .ok (.aload_n 0, 1) := by decide +kernel
theorem d_LR_scan_19 : decode M_LR_scan.2.1 19 = .ok (.iconst (0), 1) := by decide +kernel
theorem d_LR_scan_20 : decode M_LR_scan.2.1 20 = .ok (.putfield 38, 3) := by decide +kernel
theorem d_LR_scan_23 : decode M_LR_scan.2.1 23 = .ok (.aload_n 0, 1) := by decide +kernel
theorem d_LR_scan_24 : decode M_LR_scan.2.1 24 = .ok (.iconst (0), 1) := by decide +kernel
theorem d_LR_scan_25 : decode M_LR_scan.2.1 25 = .ok (.putfield 41, 3) := by decide +kernel
theorem d_LR_scan_28 : decode M_LR_scan.2.1 28 = .ok (.iconst (0), 1) := by decide +kernel
theorem d_LR_scan_29 : decode M_LR_scan.2.1 29 = .ok (.istore_n 2, 1) := by decide +kernel
theorem d_LR_scan_30 : decode M_LR_scan.2.1 30 = .ok (.iload_n 2, 1) := by decide +kernel
theorem d_LR_scan_31 : decode M_LR_scan.2.1 31 = .ok (.bipush (24), 2) := by decide +kernel
theorem d_LR_scan_33 : decode M_LR_scan.2.1 33 = .ok (.if_icmp .ge (20), 3) := by decide +kernel
theorem d_LR_scan_36 : decode M_LR_scan.2.1 36 = .ok (.aload_n 0, 1) := by decide +kernel
theorem d_LR_scan_37 : decode M_LR_scan.2.1 37 = .ok (.iload_n 2, 1) := by decide +kernel
theorem d_LR_scan_38 : decode M_LR_scan.2.1 38 = .ok (.invokevirtual 71, 3) := by decide +kernel
theorem d_LR_scan_41 : decode M_LR_scan.2.1 41 = .ok (.ifCond .ne (6), 3) := by decide +kernel
theorem d_LR_scan_44 : decode M_LR_scan.2.1 44 = .ok (.goto (9), 3) := by decide +kernel
theorem d_LR_scan_47 : decode M_LR_scan.2.1 47 = .ok (.iinc 2 (1), 3) := by decide +kernel
theorem d_LR_scan_50 : decode M_LR_scan.2.1 50 = .ok (.goto (-20), 3) := by decide +kernel
theorem d_LR_scan_53 : decode M_LR_scan.2.1 53 = .ok (.return_, 1) := by decide +kernel
theorem d_LR_takeHead_0 : decode M_LR_takeHead.2.1 0 = .ok (.aload_n 0, 1) := by decide +kernel
theorem d_LR_takeHead_1 : decode M_LR_takeHead.2.1 1 = .ok (.aload_n 1, 1) := by decide +kernel
theorem d_LR_takeHead_2 : decode M_LR_takeHead.2.1 2 = .ok (.bipush (16), 2) := by decide +kernel
theorem d_LR_takeHead_4 : decode M_LR_takeHead.2.1 4 = .ok (.iconst (2), 1) := by decide +kernel
theorem d_LR_takeHead_5 : decode M_LR_takeHead.2.1 5 = .ok (.invokevirtual 75, 3) := by decide +kernel
theorem d_LR_takeHead_8 : decode M_LR_takeHead.2.1 8 = .ok (.putfield 31, 3) := by decide +kernel
theorem d_LR_takeHead_11 : decode M_LR_takeHead.2.1 11 = .ok (.aload_n 0, 1) := by decide +kernel
theorem d_LR_takeHead_12 : decode M_LR_takeHead.2.1 12 = .ok (.aload_n 1, 1) := by decide +kernel
theorem d_LR_takeHead_13 : decode M_LR_takeHead.2.1 13 = .ok (.bipush (16), 2) := by decide +kernel
theorem d_LR_takeHead_15 : decode M_LR_takeHead.2.1 15 = .ok (.iconst (1), 1) := by decide +kernel
theorem d_LR_takeHead_16 : decode M_LR_takeHead.2.1 16 = .ok (.invokevirtual 75, 3) := by decide +kernel
theorem d_LR_takeHead_19 : decode M_LR_takeHead.2.1 19 = .ok (.putfield 35, 3) := by decide +kernel
theorem d_LR_takeHead_22 : decode M_LR_takeHead.2.1 22 = .ok (.aload_n 1, 1) := by decide +kernel
theorem d_LR_takeHead_23 : decode M_LR_takeHead.2.1 23 = .ok (.bipush (16), 2) := by decide +kernel
theorem d_LR_takeHead_25 : decode M_LR_takeHead.2.1 25 = .ok (.iconst (0), 1) := by decide +kernel
theorem d_LR_takeHead_26 : decode M_LR_takeHead.2.1 26 = .ok (.invokevirtual 75, 3) := by decide +kernel
theorem d_LR_takeHead_29 : decode M_LR_takeHead.2.1 29 = .ok (.ldc 53, 2) := by decide +kernel
theorem d_LR_takeHead_31 : decode M_LR_takeHead.2.1 31 = .ok (.if_icmp .ne (19), 3) := by decide +kernel
theorem d_LR_takeHead_34 : decode M_LR_takeHead.2.1 34 = .ok (.aload_n 0, 1) := by decide +kernel
theorem d_LR_takeHead_35 : decode M_LR_takeHead.2.1 35 = .ok (.getfield 31, 3) := by decide +kernel
theorem d_LR_takeHead_38 : decode M_LR_takeHead.2.1 38 = .ok (.ifCond .lt (12), 3) := by decide +kernel
theorem d_LR_takeHead_41 : decode M_LR_takeHead.2.1 41 = .ok (.aload_n 0, 1) := by decide +kernel
theorem d_LR_takeHead_42 : decode M_LR_takeHead.2.1 42 = .ok (.getfield 31, 3) := by decide +kernel
theorem d_LR_takeHead_45 : decode M_LR_takeHead.2.1 45 = .ok (.bipush (24), 2) := by decide +kernel
theorem d_LR_takeHead_47 : decode M_LR_takeHead.2.1 47 = .ok (.if_icmp .lt (13), 3) := by decide +kernel
theorem d_LR_takeHead_50 : decode M_LR_takeHead.2.1 50 = .ok (.aload_n 0, 1) := by decide +kernel
theorem d_LR_takeHead_51 : decode M_LR_takeHead.2.1 51 = .ok (.iconst (0), 1) := by decide +kernel
theorem d_LR_takeHead_52 : decode M_LR_takeHead.2.1 52 = .ok (.putfield 31, 3) := by decide +kernel
theorem d_LR_takeHead_55 : decode M_LR_takeHead.2.1 55 = .ok (.aload_n 0, 1) := by decide +kernel
theorem d_LR_takeHead_56 : decode M_LR_takeHead.2.1 56 = .ok (.iconst (1), 1) := by decide +kernel
theorem d_LR_takeHead_57 : decode M_LR_takeHead.2.1 57 = .ok (.putfield 35, 3) := by decide +kernel
theorem d_LR_takeHead_60 : decode M_LR_takeHead.2.1 60 = .ok (.return_, 1) := by decide +kernel
theorem d_LR_takeLog_0 : decode M_LR_takeLog.2.1 0 = .ok (.iconst (0), 1) := by decide +kernel
theorem d_LR_takeLog_1 : decode M_LR_takeLog.2.1 1 = .ok (.istore_n 2, 1) := by decide +kernel
theorem d_LR_takeLog_2 : decode M_LR_takeLog.2.1 2 = .ok (.iload_n 2, 1) := by decide +kernel
theorem d_LR_takeLog_3 : decode M_LR_takeLog.2.1 3 = .ok (.bipush (24), 2) := by decide +kernel
theorem d_LR_takeLog_5 : decode M_LR_takeLog.2.1 5 = .ok (.if_icmp .ge (46), 3) := by decide +kernel
theorem d_LR_takeLog_8 : decode M_LR_takeLog.2.1 8 = .ok (.iconst (0), 1) := by decide +kernel
theorem d_LR_takeLog_9 : decode M_LR_takeLog.2.1 9 = .ok (.istore_n 3, 1) := by decide +kernel
theorem d_LR_takeLog_10 : decode M_LR_takeLog.2.1 10 = .ok (.iload_n 3, 1) := by decide +kernel
theorem d_LR_takeLog_11 : decode M_LR_takeLog.2.1 11 = .ok (.iconst (4), 1) := by decide +kernel
theorem d_LR_takeLog_12 : decode M_LR_takeLog.2.1 12 = .ok (.if_icmp .ge (33), 3) := by decide +kernel
theorem d_LR_takeLog_15 : decode M_LR_takeLog.2.1 15 = .ok (.aload_n 0, 1) := by decide +kernel
theorem d_LR_takeLog_16 : decode M_LR_takeLog.2.1 16 = .ok (.getfield 9, 3) := by decide +kernel
theorem d_LR_takeLog_19 : decode M_LR_takeLog.2.1 19 = .ok (.iload_n 2, 1) := by decide +kernel
theorem d_LR_takeLog_20 : decode M_LR_takeLog.2.1 20 = .ok (.iconst (4), 1) := by decide +kernel
theorem d_LR_takeLog_21 : decode M_LR_takeLog.2.1 21 = .ok (.imul, 1) := by decide +kernel
theorem d_LR_takeLog_22 : decode M_LR_takeLog.2.1 22 = .ok (.iload_n 3, 1) := by decide +kernel
theorem d_LR_takeLog_23 : decode M_LR_takeLog.2.1 23 = .ok (.iadd, 1) := by decide +kernel
theorem d_LR_takeLog_24 : decode M_LR_takeLog.2.1 24 = .ok (.aload_n 1, 1) := by decide +kernel
theorem d_LR_takeLog_25 : decode M_LR_takeLog.2.1 25 = .ok (.aload_n 0, 1) := by decide +kernel
theorem d_LR_takeLog_26 : decode M_LR_takeLog.2.1 26 = .ok (.getfield 31, 3) := by decide +kernel
theorem d_LR_takeLog_29 : decode M_LR_takeLog.2.1 29 = .ok (.iload_n 2, 1) := by decide +kernel
theorem d_LR_takeLog_30 : decode M_LR_takeLog.2.1 30 = .ok (.iadd, 1) := by decide +kernel
theorem d_LR_takeLog_31 : decode M_LR_takeLog.2.1 31 = .ok (.invokestatic 80, 3) := by decide +kernel
theorem d_LR_takeLog_34 : decode M_LR_takeLog.2.1 34 = .ok (.iload_n 3, 1) := by decide +kernel
theorem d_LR_takeLog_35 : decode M_LR_takeLog.2.1 35 = .ok (.invokevirtual 75, 3) := by decide +kernel
theorem d_LR_takeLog_38 : decode M_LR_takeLog.2.1 38 = .ok (.iastore, 1) := by decide +kernel
theorem d_LR_takeLog_39 : decode M_LR_takeLog.2.1 39 = .ok (.iinc 3 (1), 3) := by decide +kernel
theorem d_LR_takeLog_42 : decode M_LR_takeLog.2.1 42 = .ok (.goto (-32), 3) := by decide +kernel
theorem d_LR_takeLog_45 : decode M_LR_takeLog.2.1 45 = .ok (.iinc 2 (1), 3) := by decide +kernel
theorem d_LR_takeLog_48 : decode M_LR_takeLog.2.1 48 = .ok (.goto (-46), 3) := by decide +kernel
theorem d_LR_takeLog_51 : decode M_LR_takeLog.2.1 51 = .ok (.return_, 1) := by decide +kernel
theorem d_LR_takeTransaction_0 : decode M_LR_takeTransaction.2.1 0 = .ok (.aload_n 0, 1) := by decide +kernel
theorem d_LR_takeTransaction_1 : decode M_LR_takeTransaction.2.1 1 = .ok (.aload_n 0, 1) := by decide +kernel
theorem d_LR_takeTransaction_2 : decode M_LR_takeTransaction.2.1 2 = .ok (.getfield 38, 3) := by decide +kernel
theorem d_LR_takeTransaction_5 : decode M_LR_takeTransaction.2.1 5 = .ok (.putfield 44, 3) := by decide +kernel
theorem d_LR_takeTransaction_8 : decode M_LR_takeTransaction.2.1 8 = .ok (.aload_n 0, 1) := by decide +kernel
theorem d_LR_takeTransaction_9 : decode M_LR_takeTransaction.2.1 9 = .ok (.aload_n 0, 1) := by decide +kernel
theorem d_LR_takeTransaction_10 : decode M_LR_takeTransaction.2.1 10 = .ok (.getfield 35, 3) := by decide +kernel
theorem d_LR_takeTransaction_13 : decode M_LR_takeTransaction.2.1 13 = .ok (.putfield 47, 3) := by decide +kernel
theorem d_LR_takeTransaction_16 : decode M_LR_takeTransaction.2.1 16 = .ok (.aload_n 0, 1) := by decide +kernel
theorem d_LR_takeTransaction_17 : decode M_LR_takeTransaction.2.1 17 = .ok (.aload_n 0, 1) := by decide +kernel
theorem d_LR_takeTransaction_18 : decode M_LR_takeTransaction.2.1 18 = .ok (.getfield 41, 3) := by decide +kernel
theorem d_LR_takeTransaction_21 : decode M_LR_takeTransaction.2.1 21 = .ok (.putfield 50, 3) := by decide +kernel
theorem d_LR_takeTransaction_24 : decode M_LR_takeTransaction.2.1 24 = .ok (.aload_n 0, 1) := by decide +kernel
theorem d_LR_takeTransaction_25 : decode M_LR_takeTransaction.2.1 25 = .ok (.iload_n 1, 1) := by decide +kernel
theorem d_LR_takeTransaction_26 : decode M_LR_takeTransaction.2.1 26 = .ok (.invokevirtual 84, 3) := by decide +kernel
theorem d_LR_takeTransaction_29 : decode M_LR_takeTransaction.2.1 29 = .ok (.aload_n 0, 1) := by decide +kernel
theorem d_LR_takeTransaction_30 : decode M_LR_takeTransaction.2.1 30 = .ok (.invokevirtual 88, 3) := by decide +kernel
theorem d_LR_takeTransaction_33 : decode M_LR_takeTransaction.2.1 33 = .ok (.istore_n 2, 1) := by decide +kernel
theorem d_LR_takeTransaction_34 : decode M_LR_takeTransaction.2.1 34 = .ok (.aload_n 0, 1) := by decide +kernel
theorem d_LR_takeTransaction_35 : decode M_LR_takeTransaction.2.1 35 = .ok (.iconst (3), 1) := by decide +kernel
theorem d_LR_takeTransaction_36 : decode M_LR_takeTransaction.2.1 36 = .ok (.invokevirtual 92, 3) := by decide +kernel
theorem d_LR_takeTransaction_39 : decode M_LR_takeTransaction.2.1 39 = .ok (.ifCond .eq (19), 3) := by decide +kernel
theorem d_LR_takeTransaction_42 : decode M_LR_takeTransaction.2.1 42 = .ok (.aload_n 0, 1) := by decide +kernel
theorem d_LR_takeTransaction_43 : decode M_LR_takeTransaction.2.1 43 = .ok (.aload_n 0, 1) := by decide +kernel
theorem d_LR_takeTransaction_44 : decode M_LR_takeTransaction.2.1 44 = .ok (.getfield 44, 3) := by decide +kernel
theorem d_LR_takeTransaction_47 : decode M_LR_takeTransaction.2.1 47 = .ok (.iconst (3), 1) := by decide +kernel
theorem d_LR_takeTransaction_48 : decode M_LR_takeTransaction.2.1 48 = .ok (.invokevirtual 54, 3) := by decide +kernel
theorem d_LR_takeTransaction_51 : decode M_LR_takeTransaction.2.1 51 = .ok (.aload_n 0, 1) := by decide +kernel
theorem d_LR_takeTransaction_52 : decode M_LR_takeTransaction.2.1 52 = .ok (.getfield 47, 3) := by decide +kernel
theorem d_LR_takeTransaction_55 : decode M_LR_takeTransaction.2.1 55 = .ok (.if_icmp .eq (5), 3) := by decide +kernel
theorem d_LR_takeTransaction_58 : decode M_LR_takeTransaction.2.1 58 = .ok (.iconst (0), 1) := by decide +kernel
theorem d_LR_takeTransaction_59 : decode M_LR_takeTransaction.2.1 59 = .ok (.ireturn, 1) := by decide +kernel
theorem d_LR_takeTransaction_60 : decode M_LR_takeTransaction.2.1 60 = .ok (.iconst (0), 1) := by decide +kernel
theorem d_LR_takeTransaction_61 : decode M_LR_takeTransaction.2.1 61 = .ok (.istore_n 3, 1) := by decide +kernel
theorem d_LR_takeTransaction_62 : decode M_LR_takeTransaction.2.1 62 = .ok (.iload_n 3, 1) := by decide +kernel
theorem d_LR_takeTransaction_63 : decode M_LR_takeTransaction.2.1 63 = .ok (.bipush (16), 2) := by decide +kernel
theorem d_LR_takeTransaction_65 : decode M_LR_takeTransaction.2.1 65 = .ok (.if_icmp .ge (25), 3) := by decide +kernel
theorem d_LR_takeTransaction_68 : decode M_LR_takeTransaction.2.1 68 = .ok (.iload_n 2, 1) := by decide +kernel
theorem d_LR_takeTransaction_69 : decode M_LR_takeTransaction.2.1 69 = .ok (.iload_n 3, 1) := by decide +kernel
theorem d_LR_takeTransaction_70 : decode M_LR_takeTransaction.2.1 70 = .ok (.iushr, 1) := by decide +kernel
theorem d_LR_takeTransaction_71 : decode M_LR_takeTransaction.2.1 71 = .ok (.iconst (1), 1) := by decide +kernel
theorem d_LR_takeTransaction_72 : decode M_LR_takeTransaction.2.1 72 = .ok (.iand, 1) := by decide +kernel
theorem d_LR_takeTransaction_73 : decode M_LR_takeTransaction.2.1 73 = .ok (.iconst (1), 1) := by decide +kernel
theorem d_LR_takeTransaction_74 : decode M_LR_takeTransaction.2.1 74 = .ok (.if_icmp .ne (10), 3) := by decide +kernel
theorem d_LR_takeTransaction_77 : decode M_LR_takeTransaction.2.1 77 = .ok (.aload_n 0, 1) := by decide +kernel
theorem d_LR_takeTransaction_78 : decode M_LR_takeTransaction.2.1 78 = .ok (.getfield 28, 3) := by decide +kernel
theorem d_LR_takeTransaction_81 : decode M_LR_takeTransaction.2.1 81 = .ok (.iload_n 3, 1) := by decide +kernel
theorem d_LR_takeTransaction_82 : decode M_LR_takeTransaction.2.1 82 = .ok (.iload_n 1, 1) := by decide +kernel
theorem d_LR_takeTransaction_83 : decode M_LR_takeTransaction.2.1 83 = .ok (.iastore, 1) := by decide +kernel
theorem d_LR_takeTransaction_84 : decode M_LR_takeTransaction.2.1 84 = .ok (.iinc 3 (1), 3) := by decide +kernel
theorem d_LR_takeTransaction_87 : decode M_LR_takeTransaction.2.1 87 = .ok (.goto (-25), 3) := by decide +kernel
theorem d_LR_takeTransaction_90 : decode M_LR_takeTransaction.2.1 90 = .ok (.aload_n 0, 1) := by decide +kernel
theorem d_LR_takeTransaction_91 : decode M_LR_takeTransaction.2.1 91 = .ok (.aload_n 0, 1) := by decide +kernel
theorem d_LR_takeTransaction_92 : decode M_LR_takeTransaction.2.1 92 = .ok (.getfield 44, 3) := by decide +kernel
theorem d_LR_takeTransaction_95 : decode M_LR_takeTransaction.2.1 95 = .ok (.iconst (1), 1) := by decide +kernel
theorem d_LR_takeTransaction_96 : decode M_LR_takeTransaction.2.1 96 = .ok (.iadd, 1) := by decide +kernel
theorem d_LR_takeTransaction_97 : decode M_LR_takeTransaction.2.1 97 = .ok (.putfield 38, 3) := by decide +kernel
theorem d_LR_takeTransaction_100 : decode M_LR_takeTransaction.2.1 100 = .ok (.aload_n 0, 1) := by decide +kernel
theorem d_LR_takeTransaction_101 : decode M_LR_takeTransaction.2.1 101 = .ok (.aload_n 0, 1) := by decide +kernel
theorem d_LR_takeTransaction_102 : decode M_LR_takeTransaction.2.1 102 = .ok (.getfield 50, 3) := by decide +kernel
theorem d_LR_takeTransaction_105 : decode M_LR_takeTransaction.2.1 105 = .ok (.putfield 41, 3) := by decide +kernel
theorem d_LR_takeTransaction_108 : decode M_LR_takeTransaction.2.1 108 = .ok (.aload_n 0, 1) := by decide +kernel
theorem d_LR_takeTransaction_109 : decode M_LR_takeTransaction.2.1 109 = .ok (.dup, 1) := by decide +kernel
theorem d_LR_takeTransaction_110 : decode M_LR_takeTransaction.2.1 110 = .ok (.getfield 35, 3) := by decide +kernel
theorem d_LR_takeTransaction_113 : decode M_LR_takeTransaction.2.1 113 = .ok (.iconst (1), 1) := by decide +kernel
theorem d_LR_takeTransaction_114 : decode M_LR_takeTransaction.2.1 114 = .ok (.iadd, 1) := by decide +kernel
theorem d_LR_takeTransaction_115 : decode M_LR_takeTransaction.2.1 115 = .ok (.putfield 35, 3) := by decide +kernel
theorem d_LR_takeTransaction_118 : decode M_LR_takeTransaction.2.1 118 = .ok (.iconst (1), 1) := by decide +kernel
theorem d_LR_takeTransaction_119 : decode M_LR_takeTransaction.2.1 119 = .ok (.ireturn, 1) := by decide +kernel
theorem d_LR_passGroups_0 : decode M_LR_passGroups.2.1 0 = .ok (.iconst (0), 1) := by decide +kernel
theorem d_LR_passGroups_1 : decode M_LR_passGroups.2.1 1 = .ok (.istore_n 2, 1) := by decide +kernel
theorem d_LR_passGroups_2 : decode M_LR_passGroups.2.1 2 = .ok (.iload_n 2, 1) := by decide +kernel
theorem d_LR_passGroups_3 : decode M_LR_passGroups.2.1 3 = .ok (.bipush (24), 2) := by decide +kernel
theorem d_LR_passGroups_5 : decode M_LR_passGroups.2.1 5 = .ok (.if_icmp .ge (95), 3) := by decide +kernel
theorem d_LR_passGroups_8 : decode M_LR_passGroups.2.1 8 = .ok (.aload_n 0, 1) := by decide +kernel
theorem d_LR_passGroups_9 : decode M_LR_passGroups.2.1 9 = .ok (.iconst (1), 1) := by decide +kernel
theorem d_LR_passGroups_10 : decode M_LR_passGroups.2.1 10 = .ok (.invokevirtual 92, 3) := by decide +kernel
theorem d_LR_passGroups_13 : decode M_LR_passGroups.2.1 13 = .ok (.ifCond .eq (87), 3) := by decide +kernel
theorem d_LR_passGroups_16 : decode M_LR_passGroups.2.1 16 = .ok (.aload_n 0, 1) := by decide +kernel
theorem d_LR_passGroups_17 : decode M_LR_passGroups.2.1 17 = .ok (.aload_n 0, 1) := by decide +kernel
theorem d_LR_passGroups_18 : decode M_LR_passGroups.2.1 18 = .ok (.getfield 44, 3) := by decide +kernel
theorem d_LR_passGroups_21 : decode M_LR_passGroups.2.1 21 = .ok (.iconst (3), 1) := by decide +kernel
theorem d_LR_passGroups_22 : decode M_LR_passGroups.2.1 22 = .ok (.invokevirtual 54, 3) := by decide +kernel
theorem d_LR_passGroups_25 : decode M_LR_passGroups.2.1 25 = .ok (.istore_n 3, 1) := by decide +kernel
theorem d_LR_passGroups_26 : decode M_LR_passGroups.2.1 26 = .ok (.iload_n 3, 1) := by decide +kernel
theorem d_LR_passGroups_27 : decode M_LR_passGroups.2.1 27 = .ok (.bipush (7), 2) := by decide +kernel
theorem d_LR_passGroups_29 : decode M_LR_passGroups.2.1 29 = .ok (.iand, 1) := by decide +kernel
theorem d_LR_passGroups_30 : decode M_LR_passGroups.2.1 30 = .ok (.istore 4, 2) := by decide +kernel
theorem d_LR_passGroups_32 : decode M_LR_passGroups.2.1 32 = .ok (.iload 4, 2) := by decide +kernel
theorem d_LR_passGroups_34 : decode M_LR_passGroups.2.1 34 = .ok (.iconst (1), 1) := by decide +kernel
theorem d_LR_passGroups_35 : decode M_LR_passGroups.2.1 35 = .ok (.if_icmp .lt (21), 3) := by decide +kernel
theorem d_LR_passGroups_38 : decode M_LR_passGroups.2.1 38 = .ok (.iload 4, 2) := by decide +kernel
theorem d_LR_passGroups_40 : decode M_LR_passGroups.2.1 40 = .ok (.iconst (4), 1) := by decide +kernel
theorem d_LR_passGroups_41 : decode M_LR_passGroups.2.1 41 = .ok (.if_icmp .gt (15), 3) := by decide +kernel
theorem d_LR_passGroups_44 : decode M_LR_passGroups.2.1 44 = .ok (.aload_n 0, 1) := by decide +kernel
theorem d_LR_passGroups_45 : decode M_LR_passGroups.2.1 45 = .ok (.getfield 44, 3) := by decide +kernel
theorem d_LR_passGroups_48 : decode M_LR_passGroups.2.1 48 = .ok (.iload 4, 2) := by decide +kernel
theorem d_LR_passGroups_50 : decode M_LR_passGroups.2.1 50 = .ok (.iadd, 1) := by decide +kernel
theorem d_LR_passGroups_51 : decode M_LR_passGroups.2.1 51 = .ok (.bipush (24), 2) := by decide +kernel
theorem d_LR_passGroups_53 : decode M_LR_passGroups.2.1 53 = .ok (.if_icmp .lt (4), 3) := by decide +kernel
theorem d_LR_passGroups_56 : decode M_LR_passGroups.2.1 56 = .ok (.return_, 1) := by decide +kernel
theorem d_LR_passGroups_57 : decode M_LR_passGroups.2.1 57 = .ok (.aload_n 0, 1) := by decide +kernel
theorem d_LR_passGroups_58 : decode M_LR_passGroups.2.1 58 = .ok (.invokevirtual 95, 3) := by decide +kernel
theorem d_LR_passGroups_61 : decode M_LR_passGroups.2.1 61 = .ok (.iconst (0), 1) := by decide +kernel
theorem d_LR_passGroups_62 : decode M_LR_passGroups.2.1 62 = .ok (.istore 5, 2) := by decide +kernel
theorem d_LR_passGroups_64 : decode M_LR_passGroups.2.1 64 = .ok (.iload 5, 2) := by decide +kernel
theorem d_LR_passGroups_66 : decode M_LR_passGroups.2.1 66 = .ok (.iload 4, 2) := by decide +kernel
theorem d_LR_passGroups_68 : decode M_LR_passGroups.2.1 68 = .ok (.if_icmp .ge (26), 3) := by decide +kernel
theorem d_LR_passGroups_71 : decode M_LR_passGroups.2.1 71 = .ok (.aload_n 0, 1) := by decide +kernel
theorem d_LR_passGroups_72 : decode M_LR_passGroups.2.1 72 = .ok (.iload_n 3, 1) := by decide +kernel
theorem d_LR_passGroups_73 : decode M_LR_passGroups.2.1 73 = .ok (.iconst (3), 1) := by decide +kernel
theorem d_LR_passGroups_74 : decode M_LR_passGroups.2.1 74 = .ok (.iconst (5), 1) := by decide +kernel
theorem d_LR_passGroups_75 : decode M_LR_passGroups.2.1 75 = .ok (.iload 5, 2) := by decide +kernel
theorem d_LR_passGroups_77 : decode M_LR_passGroups.2.1 77 = .ok (.imul, 1) := by decide +kernel
theorem d_LR_passGroups_78 : decode M_LR_passGroups.2.1 78 = .ok (.iadd, 1) := by decide +kernel
theorem d_LR_passGroups_79 : decode M_LR_passGroups.2.1 79 = .ok (.iushr, 1) := by decide +kernel
theorem d_LR_passGroups_80 : decode M_LR_passGroups.2.1 80 = .ok (.iload_n 1, 1) := by decide +kernel
theorem d_LR_passGroups_81 : decode M_LR_passGroups.2.1 81 = .ok (.invokevirtual 98, 3) := by decide +kernel
theorem d_LR_passGroups_84 : decode M_LR_passGroups.2.1 84 = .ok (.aload_n 0, 1) := by decide +kernel
theorem d_LR_passGroups_85 : decode M_LR_passGroups.2.1 85 = .ok (.invokevirtual 95, 3) := by decide +kernel
theorem d_LR_passGroups_88 : decode M_LR_passGroups.2.1 88 = .ok (.iinc 5 (1), 3) := by decide +kernel
theorem d_LR_passGroups_91 : decode M_LR_passGroups.2.1 91 = .ok (.goto (-27), 3) := by decide +kernel
theorem d_LR_passGroups_94 : decode M_LR_passGroups.2.1 94 = .ok (.iinc 2 (1), 3) := by decide +kernel
theorem d_LR_passGroups_97 : decode M_LR_passGroups.2.1 97 = .ok (.goto (-95), 3) := by decide +kernel
theorem d_LR_passGroups_100 : decode M_LR_passGroups.2.1 100 = .ok (.return_, 1) := by decide +kernel
theorem d_LR_passRevocations_0 : decode M_LR_passRevocations.2.1 0 = .ok (.aload_n 0, 1) := by decide +kernel
theorem d_LR_passRevocations_1 : decode M_LR_passRevocations.2.1 1 = .ok (.iconst (2), 1) := by decide +kernel
theorem d_LR_passRevocations_2 : decode M_LR_passRevocations.2.1 2 = .ok (.invokevirtual 92, 3) := by decide +kernel
theorem d_LR_passRevocations_5 : decode M_LR_passRevocations.2.1 5 = .ok (.ifCond .ne (5), 3) := by decide +kernel
theorem d_LR_passRevocations_8 : decode M_LR_passRevocations.2.1 8 = .ok (.iconst (0), 1) := by decide +kernel
theorem d_LR_passRevocations_9 : decode M_LR_passRevocations.2.1 9 = .ok (.ireturn, 1) := by decide +kernel
theorem d_LR_passRevocations_10 : decode M_LR_passRevocations.2.1 10 = .ok (.aload_n 0, 1) := by decide +kernel
theorem d_LR_passRevocations_11 : decode M_LR_passRevocations.2.1 11 = .ok (.aload_n 0, 1) := by decide +kernel
theorem d_LR_passRevocations_12 : decode M_LR_passRevocations.2.1 12 = .ok (.getfield 44, 3) := by decide +kernel
theorem d_LR_passRevocations_15 : decode M_LR_passRevocations.2.1 15 = .ok (.iconst (3), 1) := by decide +kernel
theorem d_LR_passRevocations_16 : decode M_LR_passRevocations.2.1 16 = .ok (.invokevirtual 54, 3) := by decide +kernel
theorem d_LR_passRevocations_19 : decode M_LR_passRevocations.2.1 19 = .ok (.istore_n 1, 1) := by decide +kernel
theorem d_LR_passRevocations_20 : decode M_LR_passRevocations.2.1 20 = .ok (.aload_n 0, 1) := by decide +kernel
theorem d_LR_passRevocations_21 : decode M_LR_passRevocations.2.1 21 = .ok (.invokevirtual 95, 3) := by decide +kernel
theorem d_LR_passRevocations_24 : decode M_LR_passRevocations.2.1 24 = .ok (.iload_n 1, 1) := by decide +kernel
theorem d_LR_passRevocations_25 : decode M_LR_passRevocations.2.1 25 = .ok (.ireturn, 1) := by decide +kernel
theorem d_LR_noteImage_0 : decode M_LR_noteImage.2.1 0 = .ok (.aload_n 0, 1) := by decide +kernel
theorem d_LR_noteImage_1 : decode M_LR_noteImage.2.1 1 = .ok (.getfield 50, 3) := by decide +kernel
theorem d_LR_noteImage_4 : decode M_LR_noteImage.2.1 4 = .ok (.bipush (24), 2) := by decide +kernel
theorem d_LR_noteImage_6 : decode M_LR_noteImage.2.1 6 = .ok (.if_icmp .lt (4), 3) := by decide +kernel
theorem d_LR_noteImage_9 : decode M_LR_noteImage.2.1 9 = .ok (.return_, 1) := by decide +kernel
theorem d_LR_noteImage_10 : decode M_LR_noteImage.2.1 10 = .ok (.aload_n 0, 1) := by decide +kernel
theorem d_LR_noteImage_11 : decode M_LR_noteImage.2.1 11 = .ok (.getfield 15, 3) := by decide +kernel
theorem d_LR_noteImage_14 : decode M_LR_noteImage.2.1 14 = .ok (.aload_n 0, 1) := by decide +kernel
theorem d_LR_noteImage_15 : decode M_LR_noteImage.2.1 15 = .ok (.getfield 50, 3) := by decide +kernel
theorem d_LR_noteImage_18 : decode M_LR_noteImage.2.1 18 = .ok (.aload_n 0, 1) := by decide +kernel
theorem d_LR_noteImage_19 : decode M_LR_noteImage.2.1 19 = .ok (.getfield 44, 3) := by decide +kernel
theorem d_LR_noteImage_22 : decode M_LR_noteImage.2.1 22 = .ok (.iastore, 1) := by decide +kernel
theorem d_LR_noteImage_23 : decode M_LR_noteImage.2.1 23 = .ok (.aload_n 0, 1) := by decide +kernel
theorem d_LR_noteImage_24 : decode M_LR_noteImage.2.1 24 = .ok (.getfield 18, 3) := by decide +kernel
theorem d_LR_noteImage_27 : decode M_LR_noteImage.2.1 27 = .ok (.aload_n 0, 1) := by decide +kernel
theorem d_LR_noteImage_28 : decode M_LR_noteImage.2.1 28 = .ok (.getfield 50, 3) := by decide +kernel
theorem d_LR_noteImage_31 : decode M_LR_noteImage.2.1 31 = .ok (.iload_n 1, 1) := by decide +kernel
theorem d_LR_noteImage_32 : decode M_LR_noteImage.2.1 32 = .ok (.bipush (15), 2) := by decide +kernel
theorem d_LR_noteImage_34 : decode M_LR_noteImage.2.1 34 = .ok (.iand, 1) := by decide +kernel
theorem d_LR_noteImage_35 : decode M_LR_noteImage.2.1 35 = .ok (.iastore, 1) := by decide +kernel
theorem d_LR_noteImage_36 : decode M_LR_noteImage.2.1 36 = .ok (.aload_n 0, 1) := by decide +kernel
theorem d_LR_noteImage_37 : decode M_LR_noteImage.2.1 37 = .ok (.getfield 21, 3) := by decide +kernel
theorem d_LR_noteImage_40 : decode M_LR_noteImage.2.1 40 = .ok (.aload_n 0, 1) := by decide +kernel
theorem d_LR_noteImage_41 : decode M_LR_noteImage.2.1 41 = .ok (.getfield 50, 3) := by decide +kernel
theorem d_LR_noteImage_44 : decode M_LR_noteImage.2.1 44 = .ok (.iload_n 1, 1) := by decide +kernel
theorem d_LR_noteImage_45 : decode M_LR_noteImage.2.1 45 = .ok (.bipush (16), 2) := by decide +kernel
theorem d_LR_noteImage_47 : decode M_LR_noteImage.2.1 47 = .ok (.iand, 1) := by decide +kernel
theorem d_LR_noteImage_48 : decode M_LR_noteImage.2.1 48 = .ok (.ifCond .eq (7), 3) := by decide +kernel
theorem d_LR_noteImage_51 : decode M_LR_noteImage.2.1 51 = .ok (.iconst (1), 1) := by decide +kernel
theorem d_LR_noteImage_52 : decode M_LR_noteImage.2.1 52 = .ok (.goto (4), 3) := by decide +kernel
theorem d_LR_noteImage_55 : decode M_LR_noteImage.2.1 55 = .ok (.iconst (0), 1) := by decide +kernel
theorem d_LR_noteImage_56 : decode M_LR_noteImage.2.1 56 = .ok (.bastore, 1) := by decide +kernel
theorem d_LR_noteImage_57 : decode M_LR_noteImage.2.1 57 = .ok (.aload_n 0, 1) := by decide +kernel
theorem d_LR_noteImage_58 : decode M_LR_noteImage.2.1 58 = .ok (.getfield 25, 3) := by decide +kernel
theorem d_LR_noteImage_61 : decode M_LR_noteImage.2.1 61 = .ok (.aload_n 0, 1) := by decide +kernel
theorem d_LR_noteImage_62 : decode M_LR_noteImage.2.1 62 = .ok (.getfield 50, 3) := by decide +kernel
theorem d_LR_noteImage_65 : decode M_LR_noteImage.2.1 65 = .ok (.iload_n 2, 1) := by decide +kernel
theorem d_LR_noteImage_66 : decode M_LR_noteImage.2.1 66 = .ok (.iastore, 1) := by decide +kernel
theorem d_LR_noteImage_67 : decode M_LR_noteImage.2.1 67 = .ok (.aload_n 0, 1) := by decide +kernel
theorem d_LR_noteImage_68 : decode M_LR_noteImage.2.1 68 = .ok (.dup, 1) := by decide +kernel
theorem d_LR_noteImage_69 : decode M_LR_noteImage.2.1 69 = .ok (.getfield 50, 3) := by decide +kernel
theorem d_LR_noteImage_72 : decode M_LR_noteImage.2.1 72 = .ok (.iconst (1), 1) := by decide +kernel
theorem d_LR_noteImage_73 : decode M_LR_noteImage.2.1 73 = .ok (.iadd, 1) := by decide +kernel
theorem d_LR_noteImage_74 : decode M_LR_noteImage.2.1 74 = .ok (.putfield 50, 3) := by decide +kernel
theorem d_LR_noteImage_77 : decode M_LR_noteImage.2.1 77 = .ok (.return_, 1) := by decide +kernel
theorem d_LR_isOwn_0 : decode M_LR_isOwn.2.1 0 = .ok (.aload_n 0, 1) := by decide +kernel
theorem d_LR_isOwn_1 : decode M_LR_isOwn.2.1 1 = .ok (.getfield 44, 3) := by decide +kernel
theorem d_LR_isOwn_4 : decode M_LR_isOwn.2.1 4 = .ok (.bipush (24), 2) := by decide +kernel
theorem d_LR_isOwn_6 : decode M_LR_isOwn.2.1 6 = .ok (.if_icmp .ge (50), 3) := by decide +kernel
theorem d_LR_isOwn_9 : decode M_LR_isOwn.2.1 9 = .ok (.aload_n 0, 1) := by decide +kernel
theorem d_LR_isOwn_10 : decode M_LR_isOwn.2.1 10 = .ok (.aload_n 0, 1) := by decide +kernel
theorem d_LR_isOwn_11 : decode M_LR_isOwn.2.1 11 = .ok (.getfield 44, 3) := by decide +kernel
theorem d_LR_isOwn_14 : decode M_LR_isOwn.2.1 14 = .ok (.iconst (0), 1) := by decide +kernel
theorem d_LR_isOwn_15 : decode M_LR_isOwn.2.1 15 = .ok (.invokevirtual 54, 3) := by decide +kernel
theorem d_LR_isOwn_18 : decode M_LR_isOwn.2.1 18 = .ok (.ldc 53, 2) := by decide +kernel
theorem d_LR_isOwn_20 : decode M_LR_isOwn.2.1 20 = .ok (.if_icmp .ne (36), 3) := by decide +kernel
theorem d_LR_isOwn_23 : decode M_LR_isOwn.2.1 23 = .ok (.aload_n 0, 1) := by decide +kernel
theorem d_LR_isOwn_24 : decode M_LR_isOwn.2.1 24 = .ok (.aload_n 0, 1) := by decide +kernel
theorem d_LR_isOwn_25 : decode M_LR_isOwn.2.1 25 = .ok (.getfield 44, 3) := by decide +kernel
theorem d_LR_isOwn_28 : decode M_LR_isOwn.2.1 28 = .ok (.iconst (1), 1) := by decide +kernel
theorem d_LR_isOwn_29 : decode M_LR_isOwn.2.1 29 = .ok (.invokevirtual 54, 3) := by decide +kernel
theorem d_LR_isOwn_32 : decode M_LR_isOwn.2.1 32 = .ok (.iload_n 1, 1) := by decide +kernel
theorem d_LR_isOwn_33 : decode M_LR_isOwn.2.1 33 = .ok (.if_icmp .ne (23), 3) := by decide +kernel
theorem d_LR_isOwn_36 : decode M_LR_isOwn.2.1 36 = .ok (.aload_n 0, 1) := by decide +kernel
theorem d_LR_isOwn_37 : decode M_LR_isOwn.2.1 37 = .ok (.aload_n 0, 1) := by decide +kernel
theorem d_LR_isOwn_38 : decode M_LR_isOwn.2.1 38 = .ok (.getfield 44, 3) := by decide +kernel
theorem d_LR_isOwn_41 : decode M_LR_isOwn.2.1 41 = .ok (.iconst (2), 1) := by decide +kernel
theorem d_LR_isOwn_42 : decode M_LR_isOwn.2.1 42 = .ok (.invokevirtual 54, 3) := by decide +kernel
theorem d_LR_isOwn_45 : decode M_LR_isOwn.2.1 45 = .ok (.aload_n 0, 1) := by decide +kernel
theorem d_LR_isOwn_46 : decode M_LR_isOwn.2.1 46 = .ok (.getfield 35, 3) := by decide +kernel
theorem d_LR_isOwn_49 : decode M_LR_isOwn.2.1 49 = .ok (.if_icmp .ne (7), 3) := by decide +kernel
theorem d_LR_isOwn_52 : decode M_LR_isOwn.2.1 52 = .ok (.iconst (1), 1) := by decide +kernel
theorem d_LR_isOwn_53 : decode M_LR_isOwn.2.1 53 = .ok (.goto (4), 3) := by decide +kernel
theorem d_LR_isOwn_56 : decode M_LR_isOwn.2.1 56 = .ok (.iconst (0), 1) := by decide +kernel
theorem d_LR_isOwn_57 : decode M_LR_isOwn.2.1 57 = .ok (.ireturn, 1) := by decide +kernel
theorem d_LR_passSector_0 : decode M_LR_passSector.2.1 0 = .ok (.iconst (0), 1) := by decide +kernel
theorem d_LR_passSector_1 : decode M_LR_passSector.2.1 1 = .ok (.istore_n 1, 1) := by decide +kernel
theorem d_LR_passSector_2 : decode M_LR_passSector.2.1 2 = .ok (.iload_n 1, 1) := by decide +kernel
theorem d_LR_passSector_3 : decode M_LR_passSector.2.1 3 = .ok (.iconst (4), 1) := by decide +kernel
theorem d_LR_passSector_4 : decode M_LR_passSector.2.1 4 = .ok (.if_icmp .ge (29), 3) := by decide +kernel
theorem d_LR_passSector_7 : decode M_LR_passSector.2.1 7 = .ok (.aload_n 0, 1) := by decide +kernel
theorem d_LR_passSector_8 : decode M_LR_passSector.2.1 8 = .ok (.aload_n 0, 1) := by decide +kernel
theorem d_LR_passSector_9 : decode M_LR_passSector.2.1 9 = .ok (.getfield 47, 3) := by decide +kernel
theorem d_LR_passSector_12 : decode M_LR_passSector.2.1 12 = .ok (.aload_n 0, 1) := by decide +kernel
theorem d_LR_passSector_13 : decode M_LR_passSector.2.1 13 = .ok (.aload_n 0, 1) := by decide +kernel
theorem d_LR_passSector_14 : decode M_LR_passSector.2.1 14 = .ok (.getfield 44, 3) := by decide +kernel
theorem d_LR_passSector_17 : decode M_LR_passSector.2.1 17 = .ok (.iload_n 1, 1) := by decide +kernel
theorem d_LR_passSector_18 : decode M_LR_passSector.2.1 18 = .ok (.invokevirtual 54, 3) := by decide +kernel
theorem d_LR_passSector_21 : decode M_LR_passSector.2.1 21 = .ok (.invokestatic 102, 3) := by decide +kernel
theorem d_LR_passSector_24 : decode M_LR_passSector.2.1 24 = .ok (.putfield 47, 3) := by decide +kernel
theorem d_LR_passSector_27 : decode M_LR_passSector.2.1 27 = .ok (.iinc 1 (1), 3) := by decide +kernel
theorem d_LR_passSector_30 : decode M_LR_passSector.2.1 30 = .ok (.goto (-28), 3) := by decide +kernel
theorem d_LR_passSector_33 : decode M_LR_passSector.2.1 33 = .ok (.aload_n 0, 1) := by decide +kernel
theorem d_LR_passSector_34 : decode M_LR_passSector.2.1 34 = .ok (.dup, 1) := by decide +kernel
theorem d_LR_passSector_35 : decode M_LR_passSector.2.1 35 = .ok (.getfield 44, 3) := by decide +kernel
theorem d_LR_passSector_38 : decode M_LR_passSector.2.1 38 = .ok (.iconst (1), 1) := by decide +kernel
theorem d_LR_passSector_39 : decode M_LR_passSector.2.1 39 = .ok (.iadd, 1) := by decide +kernel
theorem d_LR_passSector_40 : decode M_LR_passSector.2.1 40 = .ok (.putfield 44, 3) := by decide +kernel
theorem d_LR_passSector_43 : decode M_LR_passSector.2.1 43 = .ok (.return_, 1) := by decide +kernel
theorem d_LR_size_0 : decode M_LR_size.2.1 0 = .ok (.aload_n 0, 1) := by decide +kernel
theorem d_LR_size_1 : decode M_LR_size.2.1 1 = .ok (.getfield 41, 3) := by decide +kernel
theorem d_LR_size_4 : decode M_LR_size.2.1 4 = .ok (.ireturn, 1) := by decide +kernel
theorem d_LR_numberBehind_0 : decode M_LR_numberBehind.2.1 0 = .ok (.aload_n 0, 1) := by decide +kernel
theorem d_LR_numberBehind_1 : decode M_LR_numberBehind.2.1 1 = .ok (.getfield 35, 3) := by decide +kernel
theorem d_LR_numberBehind_4 : decode M_LR_numberBehind.2.1 4 = .ok (.ireturn, 1) := by decide +kernel
theorem d_LR_placeBehind_0 : decode M_LR_placeBehind.2.1 0 = .ok (.aload_n 0, 1) := by decide +kernel
theorem d_LR_placeBehind_1 : decode M_LR_placeBehind.2.1 1 = .ok (.getfield 31, 3) := by decide +kernel
theorem d_LR_placeBehind_4 : decode M_LR_placeBehind.2.1 4 = .ok (.aload_n 0, 1) := by decide +kernel
theorem d_LR_placeBehind_5 : decode M_LR_placeBehind.2.1 5 = .ok (.getfield 38, 3) := by decide +kernel
theorem d_LR_placeBehind_8 : decode M_LR_placeBehind.2.1 8 = .ok (.iadd, 1) := by decide +kernel
theorem d_LR_placeBehind_9 : decode M_LR_placeBehind.2.1 9 = .ok (.bipush (24), 2) := by decide +kernel
theorem d_LR_placeBehind_11 : decode M_LR_placeBehind.2.1 11 = .ok (.irem, 1) := by decide +kernel
theorem d_LR_placeBehind_12 : decode M_LR_placeBehind.2.1 12 = .ok (.ireturn, 1) := by decide +kernel
theorem d_LR_block_0 : decode M_LR_block.2.1 0 = .ok (.aload_n 0, 1) := by decide +kernel
theorem d_LR_block_1 : decode M_LR_block.2.1 1 = .ok (.getfield 18, 3) := by decide +kernel
theorem d_LR_block_4 : decode M_LR_block.2.1 4 = .ok (.iload_n 1, 1) := by decide +kernel
theorem d_LR_block_5 : decode M_LR_block.2.1 5 = .ok (.iaload, 1) := by decide +kernel
theorem d_LR_block_6 : decode M_LR_block.2.1 6 = .ok (.ireturn, 1) := by decide +kernel
