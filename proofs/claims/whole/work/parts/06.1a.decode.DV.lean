theorem d_DV_newestWord_0 : decode M_DV_newestWord.2.1 0 = .ok (.aload_n 0, 1) := by decide +kernel
theorem d_DV_newestWord_1 : decode M_DV_newestWord.2.1 1 = .ok (.getfield 21, 3) := by decide +kernel
theorem d_DV_newestWord_4 : decode M_DV_newestWord.2.1 4 = .ok (.iconst (1), 1) := by decide +kernel
theorem d_DV_newestWord_5 : decode M_DV_newestWord.2.1 5 = .ok (.isub, 1) := by decide +kernel
theorem d_DV_newestWord_6 : decode M_DV_newestWord.2.1 6 = .ok (.istore_n 3, 1) := by decide +kernel
theorem d_DV_newestWord_7 : decode M_DV_newestWord.2.1 7 = .ok (.iload_n 3, 1) := by decide +kernel
theorem d_DV_newestWord_8 : decode M_DV_newestWord.2.1 8 = .ok (.ifCond .lt (30), 3) := by decide +kernel
theorem d_DV_newestWord_11 : decode M_DV_newestWord.2.1 11 = .ok (.aload_n 0, 1) := by decide +kernel
theorem d_DV_newestWord_12 : decode M_DV_newestWord.2.1 12 = .ok (.getfield 15, 3) := by decide +kernel
theorem d_DV_newestWord_15 : decode M_DV_newestWord.2.1 15 = .ok (.iload_n 3, 1) := by decide +kernel
theorem d_DV_newestWord_16 : decode M_DV_newestWord.2.1 16 = .ok (.iaload, 1) := by decide +kernel
theorem d_DV_newestWord_17 : decode M_DV_newestWord.2.1 17 = .ok (.iload_n 1, 1) := by decide +kernel
theorem d_DV_newestWord_18 : decode M_DV_newestWord.2.1 18 = .ok (.if_icmp .ne (14), 3) := by decide +kernel
theorem d_DV_newestWord_21 : decode M_DV_newestWord.2.1 21 = .ok (.aload_n 0, 1) := by decide +kernel
theorem d_DV_newestWord_22 : decode M_DV_newestWord.2.1 22 = .ok (.getfield 18, 3) := by decide +kernel
theorem d_DV_newestWord_25 : decode M_DV_newestWord.2.1 25 = .ok (.iload_n 3, 1) := by decide +kernel
theorem d_DV_newestWord_26 : decode M_DV_newestWord.2.1 26 = .ok (.iconst (4), 1) := by decide +kernel
theorem d_DV_newestWord_27 : decode M_DV_newestWord.2.1 27 = .ok (.imul, 1) := by decide +kernel
theorem d_DV_newestWord_28 : decode M_DV_newestWord.2.1 28 = .ok (.iload_n 2, 1) := by decide +kernel
theorem d_DV_newestWord_29 : decode M_DV_newestWord.2.1 29 = .ok (.iadd, 1) := by decide +kernel
theorem d_DV_newestWord_30 : decode M_DV_newestWord.2.1 30 = .ok (.iaload, 1) := by decide +kernel
theorem d_DV_newestWord_31 : decode M_DV_newestWord.2.1 31 = .ok (.ireturn, 1) := by decide +kernel
theorem d_DV_newestWord_32 : decode M_DV_newestWord.2.1 32 = .ok (.iinc 3 (-1), 3) := by decide +kernel
theorem d_DV_newestWord_35 : decode M_DV_newestWord.2.1 35 = .ok (.goto (-28), 3) := by decide +kernel
theorem d_DV_newestWord_38 : decode M_DV_newestWord.2.1 38 = .ok (.aload_n 0, 1) := by decide +kernel
theorem d_DV_newestWord_39 : decode M_DV_newestWord.2.1 39 = .ok (.iload_n 1, 1) := by decide +kernel
theorem d_DV_newestWord_40 : decode M_DV_newestWord.2.1 40 = .ok (.iload_n 2, 1) := by decide +kernel
theorem d_DV_newestWord_41 : decode M_DV_newestWord.2.1 41 = .ok (.invokevirtual 26, 3) := by decide +kernel
theorem d_DV_newestWord_44 : decode M_DV_newestWord.2.1 44 = .ok (.ireturn, 1) := by decide +kernel
theorem d_DV_ownWord_0 : decode M_DV_ownWord.2.1 0 = .ok (.aload_n 0, 1) := by decide +kernel
theorem d_DV_ownWord_1 : decode M_DV_ownWord.2.1 1 = .ok (.getfield 9, 3) := by decide +kernel
theorem d_DV_ownWord_4 : decode M_DV_ownWord.2.1 4 = .ok (.iload_n 1, 1) := by decide +kernel
theorem d_DV_ownWord_5 : decode M_DV_ownWord.2.1 5 = .ok (.iconst (4), 1) := by decide +kernel
theorem d_DV_ownWord_6 : decode M_DV_ownWord.2.1 6 = .ok (.imul, 1) := by decide +kernel
theorem d_DV_ownWord_7 : decode M_DV_ownWord.2.1 7 = .ok (.iload_n 2, 1) := by decide +kernel
theorem d_DV_ownWord_8 : decode M_DV_ownWord.2.1 8 = .ok (.iadd, 1) := by decide +kernel
theorem d_DV_ownWord_9 : decode M_DV_ownWord.2.1 9 = .ok (.iaload, 1) := by decide +kernel
theorem d_DV_ownWord_10 : decode M_DV_ownWord.2.1 10 = .ok (.ireturn, 1) := by decide +kernel
theorem d_DV_write_0 : decode M_DV_write.2.1 0 = .ok (.aload_n 0, 1) := by decide +kernel
theorem d_DV_write_1 : decode M_DV_write.2.1 1 = .ok (.getfield 21, 3) := by decide +kernel
theorem d_DV_write_4 : decode M_DV_write.2.1 4 = .ok (.bipush (28), 2) := by decide +kernel
theorem d_DV_write_6 : decode M_DV_write.2.1 6 = .ok (.if_icmp .lt (4), 3) := by decide +kernel
theorem d_DV_write_9 : decode M_DV_write.2.1 9 = .ok (.return_, 1) := by decide +kernel
theorem d_DV_write_10 : decode M_DV_write.2.1 10 = .ok (.aload_n 2, 1) := by decide +kernel
theorem d_DV_write_11 : decode M_DV_write.2.1 11 = .ok (.iload_n 3, 1) := by decide +kernel
theorem d_DV_write_12 : decode M_DV_write.2.1 12 = .ok (.aload_n 0, 1) := by decide +kernel
theorem d_DV_write_13 : decode M_DV_write.2.1 13 = .ok (.getfield 18, 3) := by decide +kernel
theorem d_DV_write_16 : decode M_DV_write.2.1 16 = .ok (.aload_n 0, 1) := by decide +kernel
theorem d_DV_write_17 : decode M_DV_write.2.1 17 = .ok (.getfield 21, 3) := by decide +kernel
theorem d_DV_write_20 : decode M_DV_write.2.1 20 = .ok (.iconst (4), 1) := by decide +kernel
theorem d_DV_write_21 : decode M_DV_write.2.1 21 = .ok (.imul, 1) := by decide +kernel
theorem d_DV_write_22 : decode M_DV_write.2.1 22 = .ok (.iconst (4), 1) := by decide +kernel
theorem d_DV_write_23 : decode M_DV_write.2.1 23 = .ok (.invokestatic 30, 3) := by decide +kernel
theorem d_DV_write_26 : decode M_DV_write.2.1 26 = .ok (.aload_n 0, 1) := by decide +kernel
theorem d_DV_write_27 : decode M_DV_write.2.1 27 = .ok (.getfield 15, 3) := by decide +kernel
theorem d_DV_write_30 : decode M_DV_write.2.1 30 = .ok (.aload_n 0, 1) := by decide +kernel
theorem d_DV_write_31 : decode M_DV_write.2.1 31 = .ok (.getfield 21, 3) := by decide +kernel
theorem d_DV_write_34 : decode M_DV_write.2.1 34 = .ok (.iload_n 1, 1) := by decide +kernel
theorem d_DV_write_35 : decode M_DV_write.2.1 35 = .ok (.iastore, 1) := by decide +kernel
theorem d_DV_write_36 : decode M_DV_write.2.1 36 = .ok (.aload_n 0, 1) := by decide +kernel
theorem d_DV_write_37 : decode M_DV_write.2.1 37 = .ok (.dup, 1) := by decide +kernel
theorem d_DV_write_38 : decode M_DV_write.2.1 38 = .ok (.getfield 21, 3) := by decide +kernel
theorem d_DV_write_41 : decode M_DV_write.2.1 41 = .ok (.iconst (1), 1) := by decide +kernel
theorem d_DV_write_42 : decode M_DV_write.2.1 42 = .ok (.iadd, 1) := by decide +kernel
theorem d_DV_write_43 : decode M_DV_write.2.1 43 = .ok (.putfield 21, 3) := by decide +kernel
theorem d_DV_write_46 : decode M_DV_write.2.1 46 = .ok (.return_, 1) := by decide +kernel
theorem d_DV_writeChanged_0 : decode M_DV_writeChanged.2.1 0 = .ok (.aload_n 0, 1) := by decide +kernel
theorem d_DV_writeChanged_1 : decode M_DV_writeChanged.2.1 1 = .ok (.getfield 21, 3) := by decide +kernel
theorem d_DV_writeChanged_4 : decode M_DV_writeChanged.2.1 4 = .ok (.bipush (28), 2) := by decide +kernel
theorem d_DV_writeChanged_6 : decode M_DV_writeChanged.2.1 6 = .ok (.if_icmp .lt (4), 3) := by decide +kernel
theorem d_DV_writeChanged_9 : decode M_DV_writeChanged.2.1 9 = .ok (.return_, 1) := by decide +kernel
theorem d_DV_writeChanged_10 : decode M_DV_writeChanged.2.1 10 = .ok (.aload_n 0, 1) := by decide +kernel
theorem d_DV_writeChanged_11 : decode M_DV_writeChanged.2.1 11 = .ok (.getfield 21, 3) := by decide +kernel
theorem d_DV_writeChanged_14 : decode M_DV_writeChanged.2.1 14 = .ok (.iconst (4), 1) := by decide +kernel
theorem d_DV_writeChanged_15 : decode M_DV_writeChanged.2.1 15 = .ok (.imul, 1) := by decide +kernel
theorem d_DV_writeChanged_16 : decode M_DV_writeChanged.2.1 16 = .ok (.istore 4, 2) := by decide +kernel
theorem d_DV_writeChanged_18 : decode M_DV_writeChanged.2.1 18 = .ok (.iconst (0), 1) := by decide +kernel
theorem d_DV_writeChanged_19 : decode M_DV_writeChanged.2.1 19 = .ok (.istore 5, 2) := by decide +kernel
theorem d_DV_writeChanged_21 : decode M_DV_writeChanged.2.1 21 = .ok (.iload 5, 2) := by decide +kernel
theorem d_DV_writeChanged_23 : decode M_DV_writeChanged.2.1 23 = .ok (.iconst (4), 1) := by decide +kernel
theorem d_DV_writeChanged_24 : decode M_DV_writeChanged.2.1 24 = .ok (.if_icmp .ge (36), 3) := by decide +kernel
theorem d_DV_writeChanged_27 : decode M_DV_writeChanged.2.1 27 = .ok (.aload_n 0, 1) := by decide +kernel
theorem d_DV_writeChanged_28 : decode M_DV_writeChanged.2.1 28 = .ok (.getfield 18, 3) := by decide +kernel
theorem d_DV_writeChanged_31 : decode M_DV_writeChanged.2.1 31 = .ok (.iload 4, 2) := by decide +kernel
theorem d_DV_writeChanged_33 : decode M_DV_writeChanged.2.1 33 = .ok (.iload 5, 2) := by decide +kernel
theorem d_DV_writeChanged_35 : decode M_DV_writeChanged.2.1 35 = .ok (.iadd, 1) := by decide +kernel
theorem d_DV_writeChanged_36 : decode M_DV_writeChanged.2.1 36 = .ok (.iload 5, 2) := by decide +kernel
theorem d_DV_writeChanged_38 : decode M_DV_writeChanged.2.1 38 = .ok (.iload_n 2, 1) := by decide +kernel
theorem d_DV_writeChanged_39 : decode M_DV_writeChanged.2.1 39 = .ok (.if_icmp .ne (7), 3) := by decide +kernel
theorem d_DV_writeChanged_42 : decode M_DV_writeChanged.2.1 42 = .ok (.iload_n 3, 1) := by decide +kernel
theorem d_DV_writeChanged_43 : decode M_DV_writeChanged.2.1 43 = .ok (.goto (10), 3) := by decide +kernel
theorem d_DV_writeChanged_46 : decode M_DV_writeChanged.2.1 46 = .ok (.aload_n 0, 1) := by decide +kernel
theorem d_DV_writeChanged_47 : decode M_DV_writeChanged.2.1 47 = .ok (.iload_n 1, 1) := by decide +kernel
theorem d_DV_writeChanged_48 : decode M_DV_writeChanged.2.1 48 = .ok (.iload 5, 2) := by decide +kernel
theorem d_DV_writeChanged_50 : decode M_DV_writeChanged.2.1 50 = .ok (.invokevirtual 36, 3) := by decide +kernel
theorem d_DV_writeChanged_53 : decode M_DV_writeChanged.2.1 53 = .ok (.iastore, 1) := by decide +kernel
theorem d_DV_writeChanged_54 : decode M_DV_writeChanged.2.1 54 = .ok (.iinc 5 (1), 3) := by decide +kernel
theorem d_DV_writeChanged_57 : decode M_DV_writeChanged.2.1 57 = .ok (.goto (-36), 3) := by decide +kernel
theorem d_DV_writeChanged_60 : decode M_DV_writeChanged.2.1 60 = .ok (.aload_n 0, 1) := by decide +kernel
theorem d_DV_writeChanged_61 : decode M_DV_writeChanged.2.1 61 = .ok (.getfield 15, 3) := by decide +kernel
theorem d_DV_writeChanged_64 : decode M_DV_writeChanged.2.1 64 = .ok (.aload_n 0, 1) := by decide +kernel
theorem d_DV_writeChanged_65 : decode M_DV_writeChanged.2.1 65 = .ok (.getfield 21, 3) := by decide +kernel
theorem d_DV_writeChanged_68 : decode M_DV_writeChanged.2.1 68 = .ok (.iload_n 1, 1) := by decide +kernel
theorem d_DV_writeChanged_69 : decode M_DV_writeChanged.2.1 69 = .ok (.iastore, 1) := by decide +kernel
theorem d_DV_writeChanged_70 : decode M_DV_writeChanged.2.1 70 = .ok (.aload_n 0, 1) := by decide +kernel
theorem d_DV_writeChanged_71 : decode M_DV_writeChanged.2.1 71 = .ok (.dup, 1) := by decide +kernel
theorem d_DV_writeChanged_72 : decode M_DV_writeChanged.2.1 72 = .ok (.getfield 21, 3) := by decide +kernel
theorem d_DV_writeChanged_75 : decode M_DV_writeChanged.2.1 75 = .ok (.iconst (1), 1) := by decide +kernel
theorem d_DV_writeChanged_76 : decode M_DV_writeChanged.2.1 76 = .ok (.iadd, 1) := by decide +kernel
theorem d_DV_writeChanged_77 : decode M_DV_writeChanged.2.1 77 = .ok (.putfield 21, 3) := by decide +kernel
theorem d_DV_writeChanged_80 : decode M_DV_writeChanged.2.1 80 = .ok (.return_, 1) := by decide +kernel
theorem d_DV_flush_0 : decode M_DV_flush.2.1 0 = .ok (.iconst (0), 1) := by decide +kernel
theorem d_DV_flush_1 : decode M_DV_flush.2.1 1 = .ok (.istore_n 1, 1) := by decide +kernel
theorem d_DV_flush_2 : decode M_DV_flush.2.1 2 = .ok (.iload_n 1, 1) := by decide +kernel
theorem d_DV_flush_3 : decode M_DV_flush.2.1 3 = .ok (.aload_n 0, 1) := by decide +kernel
theorem d_DV_flush_4 : decode M_DV_flush.2.1 4 = .ok (.getfield 21, 3) := by decide +kernel
theorem d_DV_flush_7 : decode M_DV_flush.2.1 7 = .ok (.if_icmp .ge (15), 3) := by decide +kernel
theorem d_DV_flush_10 : decode M_DV_flush.2.1 10 = .ok (.aload_n 0, 1) := by decide +kernel
theorem d_DV_flush_11 : decode M_DV_flush.2.1 11 = .ok (.iload_n 1, 1) := by decide +kernel
theorem d_DV_flush_12 : decode M_DV_flush.2.1 12 = .ok (.iconst (4), 1) := by decide +kernel
theorem d_DV_flush_13 : decode M_DV_flush.2.1 13 = .ok (.invokevirtual 39, 3) := by decide +kernel
theorem d_DV_flush_16 : decode M_DV_flush.2.1 16 = .ok (.iinc 1 (1), 3) := by decide +kernel
theorem d_DV_flush_19 : decode M_DV_flush.2.1 19 = .ok (.goto (-17), 3) := by decide +kernel
theorem d_DV_flush_22 : decode M_DV_flush.2.1 22 = .ok (.aload_n 0, 1) := by decide +kernel
theorem d_DV_flush_23 : decode M_DV_flush.2.1 23 = .ok (.iconst (0), 1) := by decide +kernel
theorem d_DV_flush_24 : decode M_DV_flush.2.1 24 = .ok (.putfield 21, 3) := by decide +kernel
theorem d_DV_flush_27 : decode M_DV_flush.2.1 27 = .ok (.return_, 1) := by decide +kernel
theorem d_DV_breakDown_0 : decode M_DV_breakDown.2.1 0 = .ok (.iconst (0), 1) := by decide +kernel
theorem d_DV_breakDown_1 : decode M_DV_breakDown.2.1 1 = .ok (.istore_n 3, 1) := by decide +kernel
theorem d_DV_breakDown_2 : decode M_DV_breakDown.2.1 2 = .ok (.iconst (-1), 1) := by decide +kernel
theorem d_DV_breakDown_3 : decode M_DV_breakDown.2.1 3 = .ok (.istore 4, 2) := by decide +kernel
theorem d_DV_breakDown_5 : decode M_DV_breakDown.2.1 5 = .ok (.iconst (0), 1) := by decide +kernel
theorem d_DV_breakDown_6 : decode M_DV_breakDown.2.1 6 = .ok (.istore 5, 2) := by decide +kernel
theorem d_DV_breakDown_8 : decode M_DV_breakDown.2.1 8 = .ok (.iload 5, 2) := by decide +kernel
theorem d_DV_breakDown_10 : decode M_DV_breakDown.2.1 10 = .ok (.aload_n 0, 1) := by decide +kernel
theorem d_DV_breakDown_11 : decode M_DV_breakDown.2.1 11 = .ok (.getfield 21, 3) := by decide +kernel
theorem d_DV_breakDown_14 : decode M_DV_breakDown.2.1 14 = .ok (.if_icmp .ge (28), 3) := by decide +kernel
theorem d_DV_breakDown_17 : decode M_DV_breakDown.2.1 17 = .ok (.iload_n 1, 1) := by decide +kernel
theorem d_DV_breakDown_18 : decode M_DV_breakDown.2.1 18 = .ok (.iload 5, 2) := by decide +kernel
theorem d_DV_breakDown_20 : decode M_DV_breakDown.2.1 20 = .ok (.invokestatic 43, 3) := by decide +kernel
theorem d_DV_breakDown_23 : decode M_DV_breakDown.2.1 23 = .ok (.ifCond .eq (10), 3) := by decide +kernel
theorem d_DV_breakDown_26 : decode M_DV_breakDown.2.1 26 = .ok (.iload 5, 2) := by decide +kernel
theorem d_DV_breakDown_28 : decode M_DV_breakDown.2.1 28 = .ok (.istore 4, 2) := by decide +kernel
theorem d_DV_breakDown_30 : decode M_DV_breakDown.2.1 30 = .ok (.goto (6), 3) := by decide +kernel
theorem d_DV_breakDown_33 : decode M_DV_breakDown.2.1 33 = .ok (.iinc 3 (1), 3) := by decide +kernel
theorem d_DV_breakDown_36 : decode M_DV_breakDown.2.1 36 = .ok (.iinc 5 (1), 3) := by decide +kernel
theorem d_DV_breakDown_39 : decode M_DV_breakDown.2.1 39 = .ok (.goto (-31), 3) := by decide +kernel
theorem d_DV_breakDown_42 : decode M_DV_breakDown.2.1 42 = .ok (.iload_n 2, 1) := by decide +kernel
theorem d_DV_breakDown_43 : decode M_DV_breakDown.2.1 43 = .ok (.ifCond .lt (12), 3) := by decide +kernel
theorem d_DV_breakDown_46 : decode M_DV_breakDown.2.1 46 = .ok (.iload_n 2, 1) := by decide +kernel
theorem d_DV_breakDown_47 : decode M_DV_breakDown.2.1 47 = .ok (.iconst (4), 1) := by decide +kernel
theorem d_DV_breakDown_48 : decode M_DV_breakDown.2.1 48 = .ok (.if_icmp .ge (7), 3) := by decide +kernel
theorem d_DV_breakDown_51 : decode M_DV_breakDown.2.1 51 = .ok (.iconst (1), 1) := by decide +kernel
theorem d_DV_breakDown_52 : decode M_DV_breakDown.2.1 52 = .ok (.goto (4), 3) := by decide +kernel
theorem d_DV_breakDown_55 : decode M_DV_breakDown.2.1 55 = .ok (.iconst (0), 1) := by decide +kernel
theorem d_DV_breakDown_56 : decode M_DV_breakDown.2.1 56 = .ok (.istore 5, 2) := by decide +kernel
theorem d_DV_breakDown_58 : decode M_DV_breakDown.2.1 58 = .ok (.iconst (0), 1) := by decide +kernel
theorem d_DV_breakDown_59 : decode M_DV_breakDown.2.1 59 = .ok (.istore 6, 2) := by decide +kernel
theorem d_DV_breakDown_61 : decode M_DV_breakDown.2.1 61 = .ok (.iload 6, 2) := by decide +kernel
theorem d_DV_breakDown_63 : decode M_DV_breakDown.2.1 63 = .ok (.iload 4, 2) := by decide +kernel
theorem d_DV_breakDown_65 : decode M_DV_breakDown.2.1 65 = .ok (.if_icmp .gt (41), 3) := by decide +kernel
theorem d_DV_breakDown_68 : decode M_DV_breakDown.2.1 68 = .ok (.iload_n 1, 1) := by decide +kernel
theorem d_DV_breakDown_69 : decode M_DV_breakDown.2.1 69 = .ok (.iload 6, 2) := by decide +kernel
theorem d_DV_breakDown_71 : decode M_DV_breakDown.2.1 71 = .ok (.invokestatic 43, 3) := by decide +kernel
theorem d_DV_breakDown_74 : decode M_DV_breakDown.2.1 74 = .ok (.ifCond .eq (26), 3) := by decide +kernel
theorem d_DV_breakDown_77 : decode M_DV_breakDown.2.1 77 = .ok (.aload_n 0, 1) := by decide +kernel
theorem d_DV_breakDown_78 : decode M_DV_breakDown.2.1 78 = .ok (.iload 6, 2) := by decide +kernel
theorem d_DV_breakDown_80 : decode M_DV_breakDown.2.1 80 = .ok (.iload 5, 2) := by decide +kernel
theorem d_DV_breakDown_82 : decode M_DV_breakDown.2.1 82 = .ok (.ifCond .eq (14), 3) := by decide +kernel
theorem d_DV_breakDown_85 : decode M_DV_breakDown.2.1 85 = .ok (.iload 6, 2) := by decide +kernel
theorem d_DV_breakDown_87 : decode M_DV_breakDown.2.1 87 = .ok (.iload 4, 2) := by decide +kernel
theorem d_DV_breakDown_89 : decode M_DV_breakDown.2.1 89 = .ok (.if_icmp .ne (7), 3) := by decide +kernel
theorem d_DV_breakDown_92 : decode M_DV_breakDown.2.1 92 = .ok (.iload_n 2, 1) := by decide +kernel
theorem d_DV_breakDown_93 : decode M_DV_breakDown.2.1 93 = .ok (.goto (4), 3) := by decide +kernel
theorem d_DV_breakDown_96 : decode M_DV_breakDown.2.1 96 = .ok (.iconst (4), 1) := by decide +kernel
theorem d_DV_breakDown_97 : decode M_DV_breakDown.2.1 97 = .ok (.invokevirtual 39, 3) := by decide +kernel
theorem d_DV_breakDown_100 : decode M_DV_breakDown.2.1 100 = .ok (.iinc 6 (1), 3) := by decide +kernel
theorem d_DV_breakDown_103 : decode M_DV_breakDown.2.1 103 = .ok (.goto (-42), 3) := by decide +kernel
theorem d_DV_breakDown_106 : decode M_DV_breakDown.2.1 106 = .ok (.aload_n 0, 1) := by decide +kernel
theorem d_DV_breakDown_107 : decode M_DV_breakDown.2.1 107 = .ok (.iconst (0), 1) := by decide +kernel
theorem d_DV_breakDown_108 : decode M_DV_breakDown.2.1 108 = .ok (.putfield 21, 3) := by decide +kernel
theorem d_DV_breakDown_111 : decode M_DV_breakDown.2.1 111 = .ok (.iload_n 3, 1) := by decide +kernel
theorem d_DV_breakDown_112 : decode M_DV_breakDown.2.1 112 = .ok (.ireturn, 1) := by decide +kernel
theorem d_DV_isKept_0 : decode M_DV_isKept.2.1 0 = .ok (.iload_n 0, 1) := by decide +kernel
theorem d_DV_isKept_1 : decode M_DV_isKept.2.1 1 = .ok (.iload_n 1, 1) := by decide +kernel
theorem d_DV_isKept_2 : decode M_DV_isKept.2.1 2 = .ok (.iushr, 1) := by decide +kernel
theorem d_DV_isKept_3 : decode M_DV_isKept.2.1 3 = .ok (.iconst (1), 1) := by decide +kernel
theorem d_DV_isKept_4 : decode M_DV_isKept.2.1 4 = .ok (.iand, 1) := by decide +kernel
theorem d_DV_isKept_5 : decode M_DV_isKept.2.1 5 = .ok (.iconst (1), 1) := by decide +kernel
theorem d_DV_isKept_6 : decode M_DV_isKept.2.1 6 = .ok (.if_icmp .ne (7), 3) := by decide +kernel
theorem d_DV_isKept_9 : decode M_DV_isKept.2.1 9 = .ok (.iconst (1), 1) := by decide +kernel
theorem d_DV_isKept_10 : decode M_DV_isKept.2.1 10 = .ok (.goto (4), 3) := by decide +kernel
theorem d_DV_isKept_13 : decode M_DV_isKept.2.1 13 = .ok (.iconst (0), 1) := by decide +kernel
theorem d_DV_isKept_14 : decode M_DV_isKept.2.1 14 = .ok (.ireturn, 1) := by decide +kernel
theorem d_DV_settle_0 : decode M_DV_settle.2.1 0 = .ok (.aload_n 0, 1) := by decide +kernel
theorem d_DV_settle_1 : decode M_DV_settle.2.1 1 = .ok (.getfield 18, 3) := by decide +kernel
theorem d_DV_settle_4 : decode M_DV_settle.2.1 4 = .ok (.iload_n 1, 1) := by decide +kernel
theorem d_DV_settle_5 : decode M_DV_settle.2.1 5 = .ok (.iconst (4), 1) := by decide +kernel
theorem d_DV_settle_6 : decode M_DV_settle.2.1 6 = .ok (.imul, 1) := by decide +kernel
theorem d_DV_settle_7 : decode M_DV_settle.2.1 7 = .ok (.aload_n 0, 1) := by decide +kernel
theorem d_DV_settle_8 : decode M_DV_settle.2.1 8 = .ok (.getfield 9, 3) := by decide +kernel
theorem d_DV_settle_11 : decode M_DV_settle.2.1 11 = .ok (.aload_n 0, 1) := by decide +kernel
theorem d_DV_settle_12 : decode M_DV_settle.2.1 12 = .ok (.getfield 15, 3) := by decide +kernel
theorem d_DV_settle_15 : decode M_DV_settle.2.1 15 = .ok (.iload_n 1, 1) := by decide +kernel
theorem d_DV_settle_16 : decode M_DV_settle.2.1 16 = .ok (.iaload, 1) := by decide +kernel
theorem d_DV_settle_17 : decode M_DV_settle.2.1 17 = .ok (.iconst (4), 1) := by decide +kernel
theorem d_DV_settle_18 : decode M_DV_settle.2.1 18 = .ok (.imul, 1) := by decide +kernel
theorem d_DV_settle_19 : decode M_DV_settle.2.1 19 = .ok (.iload_n 2, 1) := by decide +kernel
theorem d_DV_settle_20 : decode M_DV_settle.2.1 20 = .ok (.invokestatic 30, 3) := by decide +kernel
theorem d_DV_settle_23 : decode M_DV_settle.2.1 23 = .ok (.return_, 1) := by decide +kernel
theorem d_DV_waiting_0 : decode M_DV_waiting.2.1 0 = .ok (.aload_n 0, 1) := by decide +kernel
theorem d_DV_waiting_1 : decode M_DV_waiting.2.1 1 = .ok (.getfield 21, 3) := by decide +kernel
theorem d_DV_waiting_4 : decode M_DV_waiting.2.1 4 = .ok (.ireturn, 1) := by decide +kernel
