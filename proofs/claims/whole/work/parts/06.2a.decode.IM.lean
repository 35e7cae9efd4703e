theorem d_IM_hold_0 : decode M_IM_hold.2.1 0 = .ok (.aload_n 0, 1) := by decide +kernel
theorem d_IM_hold_1 : decode M_IM_hold.2.1 1 = .ok (.getfield 9, 3) := by decide +kernel
theorem d_IM_hold_4 : decode M_IM_hold.2.1 4 = .ok (.iload_n 1, 1) := by decide +kernel
theorem d_IM_hold_5 : decode M_IM_hold.2.1 5 = .ok (.baload, 1) := by decide +kernel
theorem d_IM_hold_6 : decode M_IM_hold.2.1 6 = .ok (.ifCond .ne (20), 3) := by decide +kernel
theorem d_IM_hold_9 : decode M_IM_hold.2.1 9 = .ok (.aload_n 0, 1) := by decide +kernel
theorem d_IM_hold_10 : decode M_IM_hold.2.1 10 = .ok (.getfield 9, 3) := by decide +kernel
theorem d_IM_hold_13 : decode M_IM_hold.2.1 13 = .ok (.iload_n 1, 1) := by decide +kernel
theorem d_IM_hold_14 : decode M_IM_hold.2.1 14 = .ok (.iconst (1), 1) := by decide +kernel
theorem d_IM_hold_15 : decode M_IM_hold.2.1 15 = .ok (.bastore, 1) := by decide +kernel
theorem d_IM_hold_16 : decode M_IM_hold.2.1 16 = .ok (.aload_n 0, 1) := by decide +kernel
theorem d_IM_hold_17 : decode M_IM_hold.2.1 17 = .ok (.dup, 1) := by decide +kernel
theorem d_IM_hold_18 : decode M_IM_hold.2.1 18 = .ok (.getfield 19, 3) := by decide +kernel
theorem d_IM_hold_21 : decode M_IM_hold.2.1 21 = .ok (.iconst (1), 1) := by decide +kernel
theorem d_IM_hold_22 : decode M_IM_hold.2.1 22 = .ok (.iadd, 1) := by decide +kernel
theorem d_IM_hold_23 : decode M_IM_hold.2.1 23 = .ok (.putfield 19, 3) := by decide +kernel
theorem d_IM_hold_26 : decode M_IM_hold.2.1 26 = .ok (.return_, 1) := by decide +kernel
theorem d_IM_drop_0 : decode M_IM_drop.2.1 0 = .ok (.aload_n 0, 1) := by decide +kernel
theorem d_IM_drop_1 : decode M_IM_drop.2.1 1 = .ok (.getfield 9, 3) := by decide +kernel
theorem d_IM_drop_4 : decode M_IM_drop.2.1 4 = .ok (.iload_n 1, 1) := by decide +kernel
theorem d_IM_drop_5 : decode M_IM_drop.2.1 5 = .ok (.baload, 1) := by decide +kernel
theorem d_IM_drop_6 : decode M_IM_drop.2.1 6 = .ok (.ifCond .eq (20), 3) := by decide +kernel
theorem d_IM_drop_9 : decode M_IM_drop.2.1 9 = .ok (.aload_n 0, 1) := by decide +kernel
theorem d_IM_drop_10 : decode M_IM_drop.2.1 10 = .ok (.getfield 9, 3) := by decide +kernel
theorem d_IM_drop_13 : decode M_IM_drop.2.1 13 = .ok (.iload_n 1, 1) := by decide +kernel
theorem d_IM_drop_14 : decode M_IM_drop.2.1 14 = .ok (.iconst (0), 1) := by decide +kernel
theorem d_IM_drop_15 : decode M_IM_drop.2.1 15 = .ok (.bastore, 1) := by decide +kernel
theorem d_IM_drop_16 : decode M_IM_drop.2.1 16 = .ok (.aload_n 0, 1) := by decide +kernel
theorem d_IM_drop_17 : decode M_IM_drop.2.1 17 = .ok (.dup, 1) := by decide +kernel
theorem d_IM_drop_18 : decode M_IM_drop.2.1 18 = .ok (.getfield 19, 3) := by decide +kernel
theorem d_IM_drop_21 : decode M_IM_drop.2.1 21 = .ok (.iconst (1), 1) := by decide +kernel
theorem d_IM_drop_22 : decode M_IM_drop.2.1 22 = .ok (.isub, 1) := by decide +kernel
theorem d_IM_drop_23 : decode M_IM_drop.2.1 23 = .ok (.putfield 19, 3) := by decide +kernel
theorem d_IM_drop_26 : decode M_IM_drop.2.1 26 = .ok (.return_, 1) := by decide +kernel
theorem d_IM_clear_0 : decode M_IM_clear.2.1 0 = .ok (.iconst (0), 1) := by decide +kernel
theorem d_IM_clear_1 : decode M_IM_clear.2.1 1 = .ok (.istore_n 1, 1) := by decide +kernel
theorem d_IM_clear_2 : decode M_IM_clear.2.1 2 = .ok (.iload_n 1, 1) := by decide +kernel
theorem d_IM_clear_3 : decode M_IM_clear.2.1 3 = .ok (.bipush (16), 2) := by decide +kernel
theorem d_IM_clear_5 : decode M_IM_clear.2.1 5 = .ok (.if_icmp .ge (16), 3) := by decide +kernel
theorem d_IM_clear_8 : decode M_IM_clear.2.1 8 = .ok (.aload_n 0, 1) := by decide +kernel
theorem d_IM_clear_9 : decode M_IM_clear.2.1 9 = .ok (.getfield 9, 3) := by decide +kernel
theorem d_IM_clear_12 : decode M_IM_clear.2.1 12 = .ok (.iload_n 1, 1) := by decide +kernel
theorem d_IM_clear_13 : decode M_IM_clear.2.1 13 = .ok (.iconst (0), 1) := by decide +kernel
theorem d_IM_clear_14 : decode M_IM_clear.2.1 14 = .ok (.bastore, 1) := by decide +kernel
theorem d_IM_clear_15 : decode M_IM_clear.2.1 15 = .ok (.iinc 1 (1), 3) := by decide +kernel
theorem d_IM_clear_18 : decode M_IM_clear.2.1 18 = .ok (.goto (-16), 3) := by decide +kernel
theorem d_IM_clear_21 : decode M_IM_clear.2.1 21 = .ok (.aload_n 0, 1) := by decide +kernel
theorem d_IM_clear_22 : decode M_IM_clear.2.1 22 = .ok (.iconst (0), 1) := by decide +kernel
theorem d_IM_clear_23 : decode M_IM_clear.2.1 23 = .ok (.putfield 19, 3) := by decide +kernel
theorem d_IM_clear_26 : decode M_IM_clear.2.1 26 = .ok (.return_, 1) := by decide +kernel
theorem d_IM_copyFrom_0 : decode M_IM_copyFrom.2.1 0 = .ok (.aload_n 1, 1) := by decide +kernel
theorem d_IM_copyFrom_1 : decode M_IM_copyFrom.2.1 1 = .ok (.getfield 15, 3) := by decide +kernel
theorem d_IM_copyFrom_4 : decode M_IM_copyFrom.2.1 4 = .ok (.iload_n 2, 1) := by decide +kernel
theorem d_IM_copyFrom_5 : decode M_IM_copyFrom.2.1 5 = .ok (.iconst (4), 1) := by decide +kernel
theorem d_IM_copyFrom_6 : decode M_IM_copyFrom.2.1 6 = .ok (.imul, 1) := by decide +kernel
theorem d_IM_copyFrom_7 : decode M_IM_copyFrom.2.1 7 = .ok (.aload_n 0, 1) := by decide +kernel
theorem d_IM_copyFrom_8 : decode M_IM_copyFrom.2.1 8 = .ok (.getfield 15, 3) := by decide +kernel
theorem d_IM_copyFrom_11 : decode M_IM_copyFrom.2.1 11 = .ok (.iload_n 2, 1) := by decide +kernel
theorem d_IM_copyFrom_12 : decode M_IM_copyFrom.2.1 12 = .ok (.iconst (4), 1) := by decide +kernel
theorem d_IM_copyFrom_13 : decode M_IM_copyFrom.2.1 13 = .ok (.imul, 1) := by decide +kernel
theorem d_IM_copyFrom_14 : decode M_IM_copyFrom.2.1 14 = .ok (.iconst (4), 1) := by decide +kernel
theorem d_IM_copyFrom_15 : decode M_IM_copyFrom.2.1 15 = .ok (.invokestatic 23, 3) := by decide +kernel
theorem d_IM_copyFrom_18 : decode M_IM_copyFrom.2.1 18 = .ok (.aload_n 0, 1) := by decide +kernel
theorem d_IM_copyFrom_19 : decode M_IM_copyFrom.2.1 19 = .ok (.iload_n 2, 1) := by decide +kernel
theorem d_IM_copyFrom_20 : decode M_IM_copyFrom.2.1 20 = .ok (.invokevirtual 29, 3) := by decide +kernel
theorem d_IM_copyFrom_23 : decode M_IM_copyFrom.2.1 23 = .ok (.return_, 1) := by decide +kernel
theorem d_IM_holds_0 : decode M_IM_holds.2.1 0 = .ok (.aload_n 0, 1) := by decide +kernel
theorem d_IM_holds_1 : decode M_IM_holds.2.1 1 = .ok (.getfield 9, 3) := by decide +kernel
theorem d_IM_holds_4 : decode M_IM_holds.2.1 4 = .ok (.iload_n 1, 1) := by decide +kernel
theorem d_IM_holds_5 : decode M_IM_holds.2.1 5 = .ok (.baload, 1) := by decide +kernel
theorem d_IM_holds_6 : decode M_IM_holds.2.1 6 = .ok (.ireturn, 1) := by decide +kernel
theorem d_IM_word_0 : decode M_IM_word.2.1 0 = .ok (.aload_n 0, 1) := by decide +kernel
theorem d_IM_word_1 : decode M_IM_word.2.1 1 = .ok (.getfield 15, 3) := by decide +kernel
theorem d_IM_word_4 : decode M_IM_word.2.1 4 = .ok (.iload_n 1, 1) := by decide +kernel
theorem d_IM_word_5 : decode M_IM_word.2.1 5 = .ok (.iconst (4), 1) := by decide +kernel
theorem d_IM_word_6 : decode M_IM_word.2.1 6 = .ok (.imul, 1) := by decide +kernel
theorem d_IM_word_7 : decode M_IM_word.2.1 7 = .ok (.iload_n 2, 1) := by decide +kernel
theorem d_IM_word_8 : decode M_IM_word.2.1 8 = .ok (.iadd, 1) := by decide +kernel
theorem d_IM_word_9 : decode M_IM_word.2.1 9 = .ok (.iaload, 1) := by decide +kernel
theorem d_IM_word_10 : decode M_IM_word.2.1 10 = .ok (.ireturn, 1) := by decide +kernel
theorem d_IM_setWord_0 : decode M_IM_setWord.2.1 0 = .ok (.aload_n 0, 1) := by decide +kernel
theorem d_IM_setWord_1 : decode M_IM_setWord.2.1 1 = .ok (.getfield 15, 3) := by decide +kernel
theorem d_IM_setWord_4 : decode M_IM_setWord.2.1 4 = .ok (.iload_n 1, 1) := by decide +kernel
theorem d_IM_setWord_5 : decode M_IM_setWord.2.1 5 = .ok (.iconst (4), 1) := by decide +kernel
theorem d_IM_setWord_6 : decode M_IM_setWord.2.1 6 = .ok (.imul, 1) := by decide +kernel
theorem d_IM_setWord_7 : decode M_IM_setWord.2.1 7 = .ok (.iload_n 2, 1) := by decide +kernel
theorem d_IM_setWord_8 : decode M_IM_setWord.2.1 8 = .ok (.iadd, 1) := by decide +kernel
theorem d_IM_setWord_9 : decode M_IM_setWord.2.1 9 = .ok (.iload_n 3, 1) := by decide +kernel
theorem d_IM_setWord_10 : decode M_IM_setWord.2.1 10 = .ok (.iastore, 1) := by decide +kernel
theorem d_IM_setWord_11 : decode M_IM_setWord.2.1 11 = .ok (.return_, 1) := by decide +kernel
theorem d_IM_size_0 : decode M_IM_size.2.1 0 = .ok (.aload_n 0, 1) := by decide +kernel
theorem d_IM_size_1 : decode M_IM_size.2.1 1 = .ok (.getfield 19, 3) := by decide +kernel
theorem d_IM_size_4 : decode M_IM_size.2.1 4 = .ok (.ireturn, 1) := by decide +kernel
