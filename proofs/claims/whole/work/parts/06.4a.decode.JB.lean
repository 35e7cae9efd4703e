theorem d_JB_addFlush_0 : decode M_JB_addFlush.2.1 0 = .ok (.aload_n 0, 1) := by decide +kernel
theorem d_JB_addFlush_1 : decode M_JB_addFlush.2.1 1 = .ok (.getfield 22, 3) := by decide +kernel
theorem d_JB_addFlush_4 : decode M_JB_addFlush.2.1 4 = .ok (.bipush (27), 2) := by decide +kernel
theorem d_JB_addFlush_6 : decode M_JB_addFlush.2.1 6 = .ok (.if_icmp .ge (23), 3) := by decide +kernel
theorem d_JB_addFlush_9 : decode M_JB_addFlush.2.1 9 = .ok (.aload_n 0, 1) := by decide +kernel
theorem d_JB_addFlush_10 : decode M_JB_addFlush.2.1 10 = .ok (.getfield 11, 3) := by decide +kernel
theorem d_JB_addFlush_13 : decode M_JB_addFlush.2.1 13 = .ok (.aload_n 0, 1) := by decide +kernel
theorem d_JB_addFlush_14 : decode M_JB_addFlush.2.1 14 = .ok (.getfield 22, 3) := by decide +kernel
theorem d_JB_addFlush_17 : decode M_JB_addFlush.2.1 17 = .ok (.iconst (-1), 1) := by decide +kernel
theorem d_JB_addFlush_18 : decode M_JB_addFlush.2.1 18 = .ok (.iastore, 1) := by decide +kernel
theorem d_JB_addFlush_19 : decode M_JB_addFlush.2.1 19 = .ok (.aload_n 0, 1) := by decide +kernel
theorem d_JB_addFlush_20 : decode M_JB_addFlush.2.1 20 = .ok (.dup, 1) := by decide +kernel
theorem d_JB_addFlush_21 : decode M_JB_addFlush.2.1 21 = .ok (.getfield 22, 3) := by decide +kernel
theorem d_JB_addFlush_24 : decode M_JB_addFlush.2.1 24 = .ok (.iconst (1), 1) := by decide +kernel
theorem d_JB_addFlush_25 : decode M_JB_addFlush.2.1 25 = .ok (.iadd, 1) := by decide +kernel
theorem d_JB_addFlush_26 : decode M_JB_addFlush.2.1 26 = .ok (.putfield 22, 3) := by decide +kernel
theorem d_JB_addFlush_29 : decode M_JB_addFlush.2.1 29 = .ok (.return_, 1) := by decide +kernel
theorem d_JB_addWrite_0 : decode M_JB_addWrite.2.1 0 = .ok (.aload_n 0, 1) := by decide +kernel
theorem d_JB_addWrite_1 : decode M_JB_addWrite.2.1 1 = .ok (.getfield 22, 3) := by decide +kernel
theorem d_JB_addWrite_4 : decode M_JB_addWrite.2.1 4 = .ok (.bipush (27), 2) := by decide +kernel
theorem d_JB_addWrite_6 : decode M_JB_addWrite.2.1 6 = .ok (.if_icmp .lt (4), 3) := by decide +kernel
theorem d_JB_addWrite_9 : decode M_JB_addWrite.2.1 9 = .ok (.return_, 1) := by decide +kernel
theorem d_JB_addWrite_10 : decode M_JB_addWrite.2.1 10 = .ok (.aload_n 0, 1) := by decide +kernel
theorem d_JB_addWrite_11 : decode M_JB_addWrite.2.1 11 = .ok (.getfield 22, 3) := by decide +kernel
theorem d_JB_addWrite_14 : decode M_JB_addWrite.2.1 14 = .ok (.iconst (4), 1) := by decide +kernel
theorem d_JB_addWrite_15 : decode M_JB_addWrite.2.1 15 = .ok (.imul, 1) := by decide +kernel
theorem d_JB_addWrite_16 : decode M_JB_addWrite.2.1 16 = .ok (.istore 6, 2) := by decide +kernel
theorem d_JB_addWrite_18 : decode M_JB_addWrite.2.1 18 = .ok (.aload_n 0, 1) := by decide +kernel
theorem d_JB_addWrite_19 : decode M_JB_addWrite.2.1 19 = .ok (.getfield 15, 3) := by decide +kernel
theorem d_JB_addWrite_22 : decode M_JB_addWrite.2.1 22 = .ok (.iload 6, 2) := by decide +kernel
theorem d_JB_addWrite_24 : decode M_JB_addWrite.2.1 24 = .ok (.iload_n 2, 1) := by decide +kernel
theorem d_JB_addWrite_25 : decode M_JB_addWrite.2.1 25 = .ok (.iastore, 1) := by decide +kernel
theorem d_JB_addWrite_26 : decode M_JB_addWrite.2.1 26 = .ok (.aload_n 0, 1) := by decide +kernel
theorem d_JB_addWrite_27 : decode M_JB_addWrite.2.1 27 = .ok (.getfield 15, 3) := by decide +kernel
theorem d_JB_addWrite_30 : decode M_JB_addWrite.2.1 30 = .ok (.iload 6, 2) := by decide +kernel
theorem d_JB_addWrite_32 : decode M_JB_addWrite.2.1 32 = .ok (.iconst (1), 1) := by decide +kernel
theorem d_JB_addWrite_33 : decode M_JB_addWrite.2.1 33 = .ok (.iadd, 1) := by decide +kernel
theorem d_JB_addWrite_34 : decode M_JB_addWrite.2.1 34 = .ok (.iload_n 3, 1) := by decide +kernel
theorem d_JB_addWrite_35 : decode M_JB_addWrite.2.1 35 = .ok (.iastore, 1) := by decide +kernel
theorem d_JB_addWrite_36 : decode M_JB_addWrite.2.1 36 = .ok (.aload_n 0, 1) := by decide +kernel
theorem d_JB_addWrite_37 : decode M_JB_addWrite.2.1 37 = .ok (.getfield 15, 3) := by decide +kernel
theorem d_JB_addWrite_40 : decode M_JB_addWrite.2.1 40 = .ok (.iload 6, 2) := by decide +kernel
theorem d_JB_addWrite_42 : decode M_JB_addWrite.2.1 42 = .ok (.iconst (2), 1) := by decide +kernel
theorem d_JB_addWrite_43 : decode M_JB_addWrite.2.1 43 = .ok (.iadd, 1) := by decide +kernel
theorem d_JB_addWrite_44 : decode M_JB_addWrite.2.1 44 = .ok (.iload 4, 2) := by decide +kernel
theorem d_JB_addWrite_46 : decode M_JB_addWrite.2.1 46 = .ok (.iastore, 1) := by decide +kernel
theorem d_JB_addWrite_47 : decode M_JB_addWrite.2.1 47 = .ok (.aload_n 0, 1) := by decide +kernel
theorem d_JB_addWrite_48 : decode M_JB_addWrite.2.1 48 = .ok (.getfield 15, 3) := by decide +kernel
theorem d_JB_addWrite_51 : decode M_JB_addWrite.2.1 51 = .ok (.iload 6, 2) := by decide +kernel
theorem d_JB_addWrite_53 : decode M_JB_addWrite.2.1 53 = .ok (.iconst (3), 1) := by decide +kernel
theorem d_JB_addWrite_54 : decode M_JB_addWrite.2.1 54 = .ok (.iadd, 1) := by decide +kernel
theorem d_JB_addWrite_55 : decode M_JB_addWrite.2.1 55 = .ok (.iload 5, 2) := by decide +kernel
theorem d_JB_addWrite_57 : decode M_JB_addWrite.2.1 57 = .ok (.iastore, 1) := by decide +kernel
theorem d_JB_addWrite_58 : decode M_JB_addWrite.2.1 58 = .ok (.aload_n 0, 1) := by decide +kernel
theorem d_JB_addWrite_59 : decode M_JB_addWrite.2.1 59 = .ok (.getfield 11, 3) := by decide +kernel
theorem d_JB_addWrite_62 : decode M_JB_addWrite.2.1 62 = .ok (.aload_n 0, 1) := by decide +kernel
theorem d_JB_addWrite_63 : decode M_JB_addWrite.2.1 63 = .ok (.getfield 22, 3) := by decide +kernel
theorem d_JB_addWrite_66 : decode M_JB_addWrite.2.1 66 = .ok (.iload_n 1, 1) := by decide +kernel
theorem d_JB_addWrite_67 : decode M_JB_addWrite.2.1 67 = .ok (.iastore, 1) := by decide +kernel
theorem d_JB_addWrite_68 : decode M_JB_addWrite.2.1 68 = .ok (.aload_n 0, 1) := by decide +kernel
theorem d_JB_addWrite_69 : decode M_JB_addWrite.2.1 69 = .ok (.dup, 1) := by decide +kernel
theorem d_JB_addWrite_70 : decode M_JB_addWrite.2.1 70 = .ok (.getfield 22, 3) := by decide +kernel
theorem d_JB_addWrite_73 : decode M_JB_addWrite.2.1 73 = .ok (.iconst (1), 1) := by decide +kernel
theorem d_JB_addWrite_74 : decode M_JB_addWrite.2.1 74 = .ok (.iadd, 1) := by decide +kernel
theorem d_JB_addWrite_75 : decode M_JB_addWrite.2.1 75 = .ok (.putfield 22, 3) := by decide +kernel
theorem d_JB_addWrite_78 : decode M_JB_addWrite.2.1 78 = .ok (.return_, 1) := by decide +kernel
theorem d_JB_doNext_0 : decode M_JB_doNext.2.1 0 = .ok (.aload_n 0, 1) := by decide +kernel
theorem d_JB_doNext_1 : decode M_JB_doNext.2.1 1 = .ok (.getfield 25, 3) := by decide +kernel
theorem d_JB_doNext_4 : decode M_JB_doNext.2.1 4 = .ok (.aload_n 0, 1) := by decide +kernel
theorem d_JB_doNext_5 : decode M_JB_doNext.2.1 5 = .ok (.getfield 22, 3) := by decide +kernel
theorem d_JB_doNext_8 : decode M_JB_doNext.2.1 8 = .ok (.if_icmp .lt (4), 3) := by decide +kernel
theorem d_JB_doNext_11 : decode M_JB_doNext.2.1 11 = .ok (.return_, 1) := by decide +kernel
theorem d_JB_doNext_12 : decode M_JB_doNext.2.1 12 = .ok (.aload_n 0, 1) := by decide +kernel
theorem d_JB_doNext_13 : decode M_JB_doNext.2.1 13 = .ok (.getfield 11, 3) := by decide +kernel
theorem d_JB_doNext_16 : decode M_JB_doNext.2.1 16 = .ok (.aload_n 0, 1) := by decide +kernel
theorem d_JB_doNext_17 : decode M_JB_doNext.2.1 17 = .ok (.getfield 25, 3) := by decide +kernel
theorem d_JB_doNext_20 : decode M_JB_doNext.2.1 20 = .ok (.iaload, 1) := by decide +kernel
theorem d_JB_doNext_21 : decode M_JB_doNext.2.1 21 = .ok (.iconst (-1), 1) := by decide +kernel
theorem d_JB_doNext_22 : decode M_JB_doNext.2.1 22 = .ok (.if_icmp .ne (10), 3) := by decide +kernel
theorem d_JB_doNext_25 : decode M_JB_doNext.2.1 25 = .ok (.aload_n 1, 1) := by decide +kernel
theorem d_JB_doNext_26 : decode M_JB_doNext.2.1 26 = .ok (.invokevirtual 32, 3) := by decide +kernel
theorem d_JB_doNext_29 : decode M_JB_doNext.2.1 29 = .ok (.goto (26), 3) := by decide +kernel
theorem d_JB_doNext_32 : decode M_JB_doNext.2.1 32 = .ok (.aload_n 1, 1) := by decide +kernel
theorem d_JB_doNext_33 : decode M_JB_doNext.2.1 33 = .ok (.aload_n 0, 1) := by decide +kernel
theorem d_JB_doNext_34 : decode M_JB_doNext.2.1 34 = .ok (.getfield 11, 3) := by decide +kernel
theorem d_JB_doNext_37 : decode M_JB_doNext.2.1 37 = .ok (.aload_n 0, 1) := by decide +kernel
theorem d_JB_doNext_38 : decode M_JB_doNext.2.1 38 = .ok (.getfield 25, 3) := by decide +kernel
theorem d_JB_doNext_41 : decode M_JB_doNext.2.1 41 = .ok (.iaload, 1) := by decide +kernel
theorem d_JB_doNext_42 : decode M_JB_doNext.2.1 42 = .ok (.aload_n 0, 1) := by decide +kernel
theorem d_JB_doNext_43 : decode M_JB_doNext.2.1 43 = .ok (.getfield 15, 3) := by decide +kernel
theorem d_JB_doNext_46 : decode M_JB_doNext.2.1 46 = .ok (.aload_n 0, 1) := by decide +kernel
theorem d_JB_doNext_47 : decode M_JB_doNext.2.1 47 = .ok (.getfield 25, 3) := by decide +kernel
theorem d_JB_doNext_50 : decode M_JB_doNext.2.1 50 = .ok (.iconst (4), 1) := by decide +kernel
theorem d_JB_doNext_51 : decode M_JB_doNext.2.1 51 = .ok (.imul, 1) := by decide +kernel
theorem d_JB_doNext_52 : decode M_JB_doNext.2.1 52 = .ok (.invokevirtual 37, 3) := by decide +kernel
theorem d_JB_doNext_55 : decode M_JB_doNext.2.1 55 = .ok (.aload_n 0, 1) := by decide +kernel
theorem d_JB_doNext_56 : decode M_JB_doNext.2.1 56 = .ok (.dup, 1) := by decide +kernel
theorem d_JB_doNext_57 : decode M_JB_doNext.2.1 57 = .ok (.getfield 25, 3) := by decide +kernel
theorem d_JB_doNext_60 : decode M_JB_doNext.2.1 60 = .ok (.iconst (1), 1) := by decide +kernel
theorem d_JB_doNext_61 : decode M_JB_doNext.2.1 61 = .ok (.iadd, 1) := by decide +kernel
theorem d_JB_doNext_62 : decode M_JB_doNext.2.1 62 = .ok (.putfield 25, 3) := by decide +kernel
theorem d_JB_doNext_65 : decode M_JB_doNext.2.1 65 = .ok (.return_, 1) := by decide +kernel
theorem d_JB_isRunning_0 : decode M_JB_isRunning.2.1 0 = .ok (.aload_n 0, 1) := by decide +kernel
theorem d_JB_isRunning_1 : decode M_JB_isRunning.2.1 1 = .ok (.getfield 18, 3) := by decide +kernel
theorem d_JB_isRunning_4 : decode M_JB_isRunning.2.1 4 = .ok (.ifCond .eq (7), 3) := by decide +kernel
theorem d_JB_isRunning_7 : decode M_JB_isRunning.2.1 7 = .ok (.iconst (1), 1) := by decide +kernel
theorem d_JB_isRunning_8 : decode M_JB_isRunning.2.1 8 = .ok (.goto (4), 3) := by decide +kernel
theorem d_JB_isRunning_11 : decode M_JB_isRunning.2.1 11 = .ok (.iconst (0), 1) := by decide +kernel
theorem d_JB_isRunning_12 : decode M_JB_isRunning.2.1 12 = .ok (.ireturn, 1) := by decide +kernel
theorem d_JB_begin_0 : decode M_JB_begin.2.1 0 = .ok (.aload_n 0, 1) := by decide +kernel
theorem d_JB_begin_1 : decode M_JB_begin.2.1 1 = .ok (.iload_n 1, 1) := by decide +kernel
theorem d_JB_begin_2 : decode M_JB_begin.2.1 2 = .ok (.putfield 18, 3) := by decide +kernel
theorem d_JB_begin_5 : decode M_JB_begin.2.1 5 = .ok (.aload_n 0, 1) := by decide +kernel
theorem d_JB_begin_6 : decode M_JB_begin.2.1 6 = .ok (.iconst (0), 1) := by decide +kernel
theorem d_JB_begin_7 : decode M_JB_begin.2.1 7 = .ok (.putfield 22, 3) := by decide +kernel
theorem d_JB_begin_10 : decode M_JB_begin.2.1 10 = .ok (.aload_n 0, 1) := by decide +kernel
theorem d_JB_begin_11 : decode M_JB_begin.2.1 11 = .ok (.iconst (0), 1) := by decide +kernel
theorem d_JB_begin_12 : decode M_JB_begin.2.1 12 = .ok (.putfield 25, 3) := by decide +kernel
theorem d_JB_begin_15 : decode M_JB_begin.2.1 15 = .ok (.return_, 1) := by decide +kernel
theorem d_JB_remaining_0 : decode M_JB_remaining.2.1 0 = .ok (.aload_n 0, 1) := by decide +kernel
theorem d_JB_remaining_1 : decode M_JB_remaining.2.1 1 = .ok (.getfield 22, 3) := by decide +kernel
theorem d_JB_remaining_4 : decode M_JB_remaining.2.1 4 = .ok (.aload_n 0, 1) := by decide +kernel
theorem d_JB_remaining_5 : decode M_JB_remaining.2.1 5 = .ok (.getfield 25, 3) := by decide +kernel
theorem d_JB_remaining_8 : decode M_JB_remaining.2.1 8 = .ok (.isub, 1) := by decide +kernel
theorem d_JB_remaining_9 : decode M_JB_remaining.2.1 9 = .ok (.ireturn, 1) := by decide +kernel
theorem d_JB_end_0 : decode M_JB_end.2.1 0 = .ok (.aload_n 0, 1) := by decide +kernel
theorem d_JB_end_1 : decode M_JB_end.2.1 1 = .ok (.iconst (0), 1) := by decide +kernel
theorem d_JB_end_2 : decode M_JB_end.2.1 2 = .ok (.invokevirtual 28, 3) := by decide +kernel
theorem d_JB_end_5 : decode M_JB_end.2.1 5 = .ok (.return_, 1) := by decide +kernel
theorem d_JB_kind_0 : decode M_JB_kind.2.1 0 = .ok (.aload_n 0, 1) := by decide +kernel
theorem d_JB_kind_1 : decode M_JB_kind.2.1 1 = .ok (.getfield 18, 3) := by decide +kernel
theorem d_JB_kind_4 : decode M_JB_kind.2.1 4 = .ok (.ireturn, 1) := by decide +kernel
