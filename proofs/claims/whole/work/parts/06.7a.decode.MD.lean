theorem d_MD_read_0 : decode M_MD_read.2.1 0 = .ok (.iload_n 1, 1) := by decide +kernel
theorem d_MD_read_1 : decode M_MD_read.2.1 1 = .ok (.ifCond .lt (18), 3) := by decide +kernel
theorem d_MD_read_4 : decode M_MD_read.2.1 4 = .ok (.iload_n 1, 1) := by decide +kernel
theorem d_MD_read_5 : decode M_MD_read.2.1 5 = .ok (.bipush (40), 2) := by decide +kernel
theorem d_MD_read_7 : decode M_MD_read.2.1 7 = .ok (.if_icmp .gt (12), 3) := by decide +kernel
theorem d_MD_read_10 : decode M_MD_read.2.1 10 = .ok (.iload_n 2, 1) := by decide +kernel
theorem d_MD_read_11 : decode M_MD_read.2.1 11 = .ok (.ifCond .lt (8), 3) := by decide +kernel
theorem d_MD_read_14 : decode M_MD_read.2.1 14 = .ok (.iload_n 2, 1) := by decide +kernel
theorem d_MD_read_15 : decode M_MD_read.2.1 15 = .ok (.iconst (3), 1) := by decide +kernel
theorem d_MD_read_16 : decode M_MD_read.2.1 16 = .ok (.if_icmp .le (5), 3) := by decide +kernel
theorem d_MD_read_19 : decode M_MD_read.2.1 19 = .ok (.iconst (0), 1) := by decide +kernel
theorem d_MD_read_20 : decode M_MD_read.2.1 20 = .ok (.ireturn, 1) := by decide +kernel
theorem d_MD_read_21 : decode M_MD_read.2.1 21 = .ok (.aload_n 0, 1) := by decide +kernel
theorem d_MD_read_22 : decode M_MD_read.2.1 22 = .ok (.getfield 7, 3) := by decide +kernel
theorem d_MD_read_25 : decode M_MD_read.2.1 25 = .ok (.iconst (4), 1) := by decide +kernel
theorem d_MD_read_26 : decode M_MD_read.2.1 26 = .ok (.iload_n 1, 1) := by decide +kernel
theorem d_MD_read_27 : decode M_MD_read.2.1 27 = .ok (.imul, 1) := by decide +kernel
theorem d_MD_read_28 : decode M_MD_read.2.1 28 = .ok (.iload_n 2, 1) := by decide +kernel
theorem d_MD_read_29 : decode M_MD_read.2.1 29 = .ok (.iadd, 1) := by decide +kernel
theorem d_MD_read_30 : decode M_MD_read.2.1 30 = .ok (.iaload, 1) := by decide +kernel
theorem d_MD_read_31 : decode M_MD_read.2.1 31 = .ok (.istore_n 3, 1) := by decide +kernel
theorem d_MD_read_32 : decode M_MD_read.2.1 32 = .ok (.iconst (0), 1) := by decide +kernel
theorem d_MD_read_33 : decode M_MD_read.2.1 33 = .ok (.istore 4, 2) := by decide +kernel
theorem d_MD_read_35 : decode M_MD_read.2.1 35 = .ok (.iload 4, 2) := by decide +kernel
theorem d_MD_read_37 : decode M_MD_read.2.1 37 = .ok (.aload_n 0, 1) := by decide +kernel
theorem d_MD_read_38 : decode M_MD_read.2.1 38 = .ok (.getfield 50, 3) := by decide +kernel
theorem d_MD_read_41 : decode M_MD_read.2.1 41 = .ok (.if_icmp .ge (36), 3) := by decide +kernel
theorem d_MD_read_44 : decode M_MD_read.2.1 44 = .ok (.aload_n 0, 1) := by decide +kernel
theorem d_MD_read_45 : decode M_MD_read.2.1 45 = .ok (.getfield 13, 3) := by decide +kernel
theorem d_MD_read_48 : decode M_MD_read.2.1 48 = .ok (.iload 4, 2) := by decide +kernel
theorem d_MD_read_50 : decode M_MD_read.2.1 50 = .ok (.iaload, 1) := by decide +kernel
theorem d_MD_read_51 : decode M_MD_read.2.1 51 = .ok (.iload_n 1, 1) := by decide +kernel
theorem d_MD_read_52 : decode M_MD_read.2.1 52 = .ok (.if_icmp .ne (17), 3) := by decide +kernel
theorem d_MD_read_55 : decode M_MD_read.2.1 55 = .ok (.aload_n 0, 1) := by decide +kernel
theorem d_MD_read_56 : decode M_MD_read.2.1 56 = .ok (.getfield 16, 3) := by decide +kernel
theorem d_MD_read_59 : decode M_MD_read.2.1 59 = .ok (.iconst (4), 1) := by decide +kernel
theorem d_MD_read_60 : decode M_MD_read.2.1 60 = .ok (.iload 4, 2) := by decide +kernel
theorem d_MD_read_62 : decode M_MD_read.2.1 62 = .ok (.imul, 1) := by decide +kernel
theorem d_MD_read_63 : decode M_MD_read.2.1 63 = .ok (.iload_n 2, 1) := by decide +kernel
theorem d_MD_read_64 : decode M_MD_read.2.1 64 = .ok (.iadd, 1) := by decide +kernel
theorem d_MD_read_65 : decode M_MD_read.2.1 65 = .ok (.iaload, 1) := by decide +kernel
theorem d_MD_read_66 : decode M_MD_read.2.1 66 = .ok (.goto (4), 3) := by decide +kernel
theorem d_MD_read_69 : decode M_MD_read.2.1 69 = .ok (.iload_n 3, 1) := by decide +kernel
theorem d_MD_read_70 : decode M_MD_read.2.1 70 = .ok (.istore_n 3, 1) := by decide +kernel
theorem d_MD_read_71 : decode M_MD_read.2.1 71 = .ok (.iinc 4 (1), 3) := by decide +kernel
theorem d_MD_read_74 : decode M_MD_read.2.1 74 = .ok (.goto (-39), 3) := by decide +kernel
theorem d_MD_read_77 : decode M_MD_read.2.1 77 = .ok (.iload_n 3, 1) := by decide +kernel
theorem d_MD_read_78 : decode M_MD_read.2.1 78 = .ok (.ireturn, 1) := by decide +kernel
theorem d_MD_stored_0 : decode M_MD_stored.2.1 0 = .ok (.iload_n 1, 1) := by decide +kernel
theorem d_MD_stored_1 : decode M_MD_stored.2.1 1 = .ok (.ifCond .lt (18), 3) := by decide +kernel
theorem d_MD_stored_4 : decode M_MD_stored.2.1 4 = .ok (.iload_n 1, 1) := by decide +kernel
theorem d_MD_stored_5 : decode M_MD_stored.2.1 5 = .ok (.bipush (40), 2) := by decide +kernel
theorem d_MD_stored_7 : decode M_MD_stored.2.1 7 = .ok (.if_icmp .gt (12), 3) := by decide +kernel
theorem d_MD_stored_10 : decode M_MD_stored.2.1 10 = .ok (.iload_n 2, 1) := by decide +kernel
theorem d_MD_stored_11 : decode M_MD_stored.2.1 11 = .ok (.ifCond .lt (8), 3) := by decide +kernel
theorem d_MD_stored_14 : decode M_MD_stored.2.1 14 = .ok (.iload_n 2, 1) := by decide +kernel
theorem d_MD_stored_15 : decode M_MD_stored.2.1 15 = .ok (.iconst (3), 1) := by decide +kernel
theorem d_MD_stored_16 : decode M_MD_stored.2.1 16 = .ok (.if_icmp .le (7), 3) := by decide +kernel
theorem d_MD_stored_19 : decode M_MD_stored.2.1 19 = .ok (.iconst (0), 1) := by decide +kernel
theorem d_MD_stored_20 : decode M_MD_stored.2.1 20 = .ok (.goto (13), 3) := by decide +kernel
theorem d_MD_stored_23 : decode M_MD_stored.2.1 23 = .ok (.aload_n 0, 1) := by decide +kernel
theorem d_MD_stored_24 : decode M_MD_stored.2.1 24 = .ok (.getfield 7, 3) := by decide +kernel
theorem d_MD_stored_27 : decode M_MD_stored.2.1 27 = .ok (.iconst (4), 1) := by decide +kernel
theorem d_MD_stored_28 : decode M_MD_stored.2.1 28 = .ok (.iload_n 1, 1) := by decide +kernel
theorem d_MD_stored_29 : decode M_MD_stored.2.1 29 = .ok (.imul, 1) := by decide +kernel
theorem d_MD_stored_30 : decode M_MD_stored.2.1 30 = .ok (.iload_n 2, 1) := by decide +kernel
theorem d_MD_stored_31 : decode M_MD_stored.2.1 31 = .ok (.iadd, 1) := by decide +kernel
theorem d_MD_stored_32 : decode M_MD_stored.2.1 32 = .ok (.iaload, 1) := by decide +kernel
theorem d_MD_stored_33 : decode M_MD_stored.2.1 33 = .ok (.ireturn, 1) := by decide +kernel
theorem d_MD_cached_0 : decode M_MD_cached.2.1 0 = .ok (.aload_n 0, 1) := by decide +kernel
theorem d_MD_cached_1 : decode M_MD_cached.2.1 1 = .ok (.getfield 50, 3) := by decide +kernel
theorem d_MD_cached_4 : decode M_MD_cached.2.1 4 = .ok (.ireturn, 1) := by decide +kernel
theorem d_MD_writeOut_0 : decode M_MD_writeOut.2.1 0 = .ok (.aload_n 0, 1) := by decide +kernel
theorem d_MD_writeOut_1 : decode M_MD_writeOut.2.1 1 = .ok (.getfield 13, 3) := by decide +kernel
theorem d_MD_writeOut_4 : decode M_MD_writeOut.2.1 4 = .ok (.aload_n 0, 1) := by decide +kernel
theorem d_MD_writeOut_5 : decode M_MD_writeOut.2.1 5 = .ok (.getfield 50, 3) := by decide +kernel
theorem d_MD_writeOut_8 : decode M_MD_writeOut.2.1 8 = .ok (.iload_n 1, 1) := by decide +kernel
theorem d_MD_writeOut_9 : decode M_MD_writeOut.2.1 9 = .ok (.iastore, 1) := by decide +kernel
theorem d_MD_writeOut_10 : decode M_MD_writeOut.2.1 10 = .ok (.iconst (0), 1) := by decide +kernel
theorem d_MD_writeOut_11 : decode M_MD_writeOut.2.1 11 = .ok (.istore_n 2, 1) := by decide +kernel
theorem d_MD_writeOut_12 : decode M_MD_writeOut.2.1 12 = .ok (.iload_n 2, 1) := by decide +kernel
theorem d_MD_writeOut_13 : decode M_MD_writeOut.2.1 13 = .ok (.iconst (4), 1) := by decide +kernel
theorem d_MD_writeOut_14 : decode M_MD_writeOut.2.1 14 = .ok (.if_icmp .ge (28), 3) := by decide +kernel
theorem d_MD_writeOut_17 : decode M_MD_writeOut.2.1 17 = .ok (.aload_n 0, 1) := by decide +kernel
theorem d_MD_writeOut_18 : decode M_MD_writeOut.2.1 18 = .ok (.getfield 16, 3) := by decide +kernel
theorem d_MD_writeOut_21 : decode M_MD_writeOut.2.1 21 = .ok (.iconst (4), 1) := by decide +kernel
theorem d_MD_writeOut_22 : decode M_MD_writeOut.2.1 22 = .ok (.aload_n 0, 1) := by decide +kernel
theorem d_MD_writeOut_23 : decode M_MD_writeOut.2.1 23 = .ok (.getfield 50, 3) := by decide +kernel
theorem d_MD_writeOut_26 : decode M_MD_writeOut.2.1 26 = .ok (.imul, 1) := by decide +kernel
theorem d_MD_writeOut_27 : decode M_MD_writeOut.2.1 27 = .ok (.iload_n 2, 1) := by decide +kernel
theorem d_MD_writeOut_28 : decode M_MD_writeOut.2.1 28 = .ok (.iadd, 1) := by decide +kernel
theorem d_MD_writeOut_29 : decode M_MD_writeOut.2.1 29 = .ok (.aload_n 0, 1) := by decide +kernel
theorem d_MD_writeOut_30 : decode M_MD_writeOut.2.1 30 = .ok (.getfield 40, 3) := by decide +kernel
theorem d_MD_writeOut_33 : decode M_MD_writeOut.2.1 33 = .ok (.iload_n 2, 1) := by decide +kernel
theorem d_MD_writeOut_34 : decode M_MD_writeOut.2.1 34 = .ok (.iaload, 1) := by decide +kernel
theorem d_MD_writeOut_35 : decode M_MD_writeOut.2.1 35 = .ok (.iastore, 1) := by decide +kernel
theorem d_MD_writeOut_36 : decode M_MD_writeOut.2.1 36 = .ok (.iinc 2 (1), 3) := by decide +kernel
theorem d_MD_writeOut_39 : decode M_MD_writeOut.2.1 39 = .ok (.goto (-27), 3) := by decide +kernel
theorem d_MD_writeOut_42 : decode M_MD_writeOut.2.1 42 = .ok (.aload_n 0, 1) := by decide +kernel
theorem d_MD_writeOut_43 : decode M_MD_writeOut.2.1 43 = .ok (.aload_n 0, 1) := by decide +kernel
theorem d_MD_writeOut_44 : decode M_MD_writeOut.2.1 44 = .ok (.getfield 50, 3) := by decide +kernel
theorem d_MD_writeOut_47 : decode M_MD_writeOut.2.1 47 = .ok (.iconst (1), 1) := by decide +kernel
theorem d_MD_writeOut_48 : decode M_MD_writeOut.2.1 48 = .ok (.iadd, 1) := by decide +kernel
theorem d_MD_writeOut_49 : decode M_MD_writeOut.2.1 49 = .ok (.putfield 50, 3) := by decide +kernel
theorem d_MD_writeOut_52 : decode M_MD_writeOut.2.1 52 = .ok (.return_, 1) := by decide +kernel
theorem d_MD_settle_0 : decode M_MD_settle.2.1 0 = .ok (.iconst (0), 1) := by decide +kernel
theorem d_MD_settle_1 : decode M_MD_settle.2.1 1 = .ok (.istore_n 3, 1) := by decide +kernel
theorem d_MD_settle_2 : decode M_MD_settle.2.1 2 = .ok (.iload_n 3, 1) := by decide +kernel
theorem d_MD_settle_3 : decode M_MD_settle.2.1 3 = .ok (.iload_n 2, 1) := by decide +kernel
theorem d_MD_settle_4 : decode M_MD_settle.2.1 4 = .ok (.if_icmp .ge (34), 3) := by decide +kernel
theorem d_MD_settle_7 : decode M_MD_settle.2.1 7 = .ok (.aload_n 0, 1) := by decide +kernel
theorem d_MD_settle_8 : decode M_MD_settle.2.1 8 = .ok (.getfield 7, 3) := by decide +kernel
theorem d_MD_settle_11 : decode M_MD_settle.2.1 11 = .ok (.iconst (4), 1) := by decide +kernel
theorem d_MD_settle_12 : decode M_MD_settle.2.1 12 = .ok (.aload_n 0, 1) := by decide +kernel
theorem d_MD_settle_13 : decode M_MD_settle.2.1 13 = .ok (.getfield 13, 3) := by decide +kernel
theorem d_MD_settle_16 : decode M_MD_settle.2.1 16 = .ok (.iload_n 1, 1) := by decide +kernel
theorem d_MD_settle_17 : decode M_MD_settle.2.1 17 = .ok (.iaload, 1) := by decide +kernel
theorem d_MD_settle_18 : decode M_MD_settle.2.1 18 = .ok (.imul, 1) := by decide +kernel
theorem d_MD_settle_19 : decode M_MD_settle.2.1 19 = .ok (.iload_n 3, 1) := by decide +kernel
theorem d_MD_settle_20 : decode M_MD_settle.2.1 20 = .ok (.iadd, 1) := by decide +kernel
theorem d_MD_settle_21 : decode M_MD_settle.2.1 21 = .ok (.aload_n 0, 1) := by decide +kernel
theorem d_MD_settle_22 : decode M_MD_settle.2.1 22 = .ok (.getfield 16, 3) := by decide +kernel
theorem d_MD_settle_25 : decode M_MD_settle.2.1 25 = .ok (.iconst (4), 1) := by decide +kernel
theorem d_MD_settle_26 : decode M_MD_settle.2.1 26 = .ok (.iload_n 1, 1) := by decide +kernel
theorem d_MD_settle_27 : decode M_MD_settle.2.1 27 = .ok (.imul, 1) := by decide +kernel
theorem d_MD_settle_28 : decode M_MD_settle.2.1 28 = .ok (.iload_n 3, 1) := by decide +kernel
theorem d_MD_settle_29 : decode M_MD_settle.2.1 29 = .ok (.iadd, 1) := by decide +kernel
theorem d_MD_settle_30 : decode M_MD_settle.2.1 30 = .ok (.iaload, 1) := by decide +kernel
theorem d_MD_settle_31 : decode M_MD_settle.2.1 31 = .ok (.iastore, 1) := by decide +kernel
theorem d_MD_settle_32 : decode M_MD_settle.2.1 32 = .ok (.iinc 3 (1), 3) := by decide +kernel
theorem d_MD_settle_35 : decode M_MD_settle.2.1 35 = .ok (.goto (-33), 3) := by decide +kernel
theorem d_MD_settle_38 : decode M_MD_settle.2.1 38 = .ok (.return_, 1) := by decide +kernel
theorem d_MD_flush_0 : decode M_MD_flush.2.1 0 = .ok (.iconst (0), 1) := by decide +kernel
theorem d_MD_flush_1 : decode M_MD_flush.2.1 1 = .ok (.istore_n 1, 1) := by decide +kernel
theorem d_MD_flush_2 : decode M_MD_flush.2.1 2 = .ok (.iload_n 1, 1) := by decide +kernel
theorem d_MD_flush_3 : decode M_MD_flush.2.1 3 = .ok (.aload_n 0, 1) := by decide +kernel
theorem d_MD_flush_4 : decode M_MD_flush.2.1 4 = .ok (.getfield 50, 3) := by decide +kernel
theorem d_MD_flush_7 : decode M_MD_flush.2.1 7 = .ok (.if_icmp .ge (15), 3) := by decide +kernel
theorem d_MD_flush_10 : decode M_MD_flush.2.1 10 = .ok (.aload_n 0, 1) := by decide +kernel
theorem d_MD_flush_11 : decode M_MD_flush.2.1 11 = .ok (.iload_n 1, 1) := by decide +kernel
theorem d_MD_flush_12 : decode M_MD_flush.2.1 12 = .ok (.iconst (4), 1) := by decide +kernel
theorem d_MD_flush_13 : decode M_MD_flush.2.1 13 = .ok (.invokevirtual 53, 3) := by decide +kernel
theorem d_MD_flush_16 : decode M_MD_flush.2.1 16 = .ok (.iinc 1 (1), 3) := by decide +kernel
theorem d_MD_flush_19 : decode M_MD_flush.2.1 19 = .ok (.goto (-17), 3) := by decide +kernel
theorem d_MD_flush_22 : decode M_MD_flush.2.1 22 = .ok (.aload_n 0, 1) := by decide +kernel
theorem d_MD_flush_23 : decode M_MD_flush.2.1 23 = .ok (.iconst (0), 1) := by decide +kernel
theorem d_MD_flush_24 : decode M_MD_flush.2.1 24 = .ok (.putfield 50, 3) := by decide +kernel
theorem d_MD_flush_27 : decode M_MD_flush.2.1 27 = .ok (.return_, 1) := by decide +kernel
theorem d_MD_say_0 : decode M_MD_say.2.1 0 = .ok (.aload_n 0, 1) := by decide +kernel
theorem d_MD_say_1 : decode M_MD_say.2.1 1 = .ok (.getfield 40, 3) := by decide +kernel
theorem d_MD_say_4 : decode M_MD_say.2.1 4 = .ok (.iconst (0), 1) := by decide +kernel
theorem d_MD_say_5 : decode M_MD_say.2.1 5 = .ok (.iload_n 1, 1) := by decide +kernel
theorem d_MD_say_6 : decode M_MD_say.2.1 6 = .ok (.iastore, 1) := by decide +kernel
theorem d_MD_say_7 : decode M_MD_say.2.1 7 = .ok (.aload_n 0, 1) := by decide +kernel
theorem d_MD_say_8 : decode M_MD_say.2.1 8 = .ok (.getfield 40, 3) := by decide +kernel
theorem d_MD_say_11 : decode M_MD_say.2.1 11 = .ok (.iconst (1), 1) := by decide +kernel
theorem d_MD_say_12 : decode M_MD_say.2.1 12 = .ok (.iload_n 2, 1) := by decide +kernel
theorem d_MD_say_13 : decode M_MD_say.2.1 13 = .ok (.iastore, 1) := by decide +kernel
theorem d_MD_say_14 : decode M_MD_say.2.1 14 = .ok (.aload_n 0, 1) := by decide +kernel
theorem d_MD_say_15 : decode M_MD_say.2.1 15 = .ok (.getfield 40, 3) := by decide +kernel
theorem d_MD_say_18 : decode M_MD_say.2.1 18 = .ok (.iconst (2), 1) := by decide +kernel
theorem d_MD_say_19 : decode M_MD_say.2.1 19 = .ok (.iload_n 3, 1) := by decide +kernel
theorem d_MD_say_20 : decode M_MD_say.2.1 20 = .ok (.iastore, 1) := by decide +kernel
theorem d_MD_say_21 : decode M_MD_say.2.1 21 = .ok (.aload_n 0, 1) := by decide +kernel
theorem d_MD_say_22 : decode M_MD_say.2.1 22 = .ok (.getfield 40, 3) := by decide +kernel
theorem d_MD_say_25 : decode M_MD_say.2.1 25 = .ok (.iconst (3), 1) := by decide +kernel
theorem d_MD_say_26 : decode M_MD_say.2.1 26 = .ok (.iload 4, 2) := by decide +kernel
theorem d_MD_say_28 : decode M_MD_say.2.1 28 = .ok (.iastore, 1) := by decide +kernel
theorem d_MD_say_29 : decode M_MD_say.2.1 29 = .ok (.return_, 1) := by decide +kernel
theorem d_MD_countOf_0 : decode M_MD_countOf.2.1 0 = .ok (.iconst (0), 1) := by decide +kernel
theorem d_MD_countOf_1 : decode M_MD_countOf.2.1 1 = .ok (.istore_n 2, 1) := by decide +kernel
theorem d_MD_countOf_2 : decode M_MD_countOf.2.1 2 = .ok (.iconst (0), 1) := by decide +kernel
theorem d_MD_countOf_3 : decode M_MD_countOf.2.1 3 = .ok (.istore_n 3, 1) := by decide +kernel
theorem d_MD_countOf_4 : decode M_MD_countOf.2.1 4 = .ok (.iload_n 3, 1) := by decide +kernel
theorem d_MD_countOf_5 : decode M_MD_countOf.2.1 5 = .ok (.bipush (16), 2) := by decide +kernel
theorem d_MD_countOf_7 : decode M_MD_countOf.2.1 7 = .ok (.if_icmp .ge (27), 3) := by decide +kernel
theorem d_MD_countOf_10 : decode M_MD_countOf.2.1 10 = .ok (.aload_n 0, 1) := by decide +kernel
theorem d_MD_countOf_11 : decode M_MD_countOf.2.1 11 = .ok (.getfield 27, 3) := by decide +kernel
theorem d_MD_countOf_14 : decode M_MD_countOf.2.1 14 = .ok (.iload_n 3, 1) := by decide +kernel
theorem d_MD_countOf_15 : decode M_MD_countOf.2.1 15 = .ok (.iaload, 1) := by decide +kernel
theorem d_MD_countOf_16 : decode M_MD_countOf.2.1 16 = .ok (.iload_n 1, 1) := by decide +kernel
theorem d_MD_countOf_17 : decode M_MD_countOf.2.1 17 = .ok (.if_icmp .ne (9), 3) := by decide +kernel
theorem d_MD_countOf_20 : decode M_MD_countOf.2.1 20 = .ok (.iload_n 2, 1) := by decide +kernel
theorem d_MD_countOf_21 : decode M_MD_countOf.2.1 21 = .ok (.iconst (1), 1) := by decide +kernel
theorem d_MD_countOf_22 : decode M_MD_countOf.2.1 22 = .ok (.iadd, 1) := by decide +kernel
theorem d_MD_countOf_23 : decode M_MD_countOf.2.1 23 = .ok (.goto (4), 3) := by decide +kernel
theorem d_MD_countOf_26 : decode M_MD_countOf.2.1 26 = .ok (.iload_n 2, 1) := by decide +kernel
theorem d_MD_countOf_27 : decode M_MD_countOf.2.1 27 = .ok (.istore_n 2, 1) := by decide +kernel
theorem d_MD_countOf_28 : decode M_MD_countOf.2.1 28 = .ok (.iinc 3 (1), 3) := by decide +kernel
theorem d_MD_countOf_31 : decode M_MD_countOf.2.1 31 = .ok (.goto (-27), 3) := by decide +kernel
theorem d_MD_countOf_34 : decode M_MD_countOf.2.1 34 = .ok (.iload_n 2, 1) := by decide +kernel
theorem d_MD_countOf_35 : decode M_MD_countOf.2.1 35 = .ok (.ireturn, 1) := by decide +kernel
theorem d_MD_get_0 : decode M_MD_get.2.1 0 = .ok (.aload_n 0, 1) := by decide +kernel
theorem d_MD_get_1 : decode M_MD_get.2.1 1 = .ok (.getfield 19, 3) := by decide +kernel
theorem d_MD_get_4 : decode M_MD_get.2.1 4 = .ok (.ifCond .eq (17), 3) := by decide +kernel
theorem d_MD_get_7 : decode M_MD_get.2.1 7 = .ok (.iload_n 1, 1) := by decide +kernel
theorem d_MD_get_8 : decode M_MD_get.2.1 8 = .ok (.invokestatic 58, 3) := by decide +kernel
theorem d_MD_get_11 : decode M_MD_get.2.1 11 = .ok (.ifCond .eq (10), 3) := by decide +kernel
theorem d_MD_get_14 : decode M_MD_get.2.1 14 = .ok (.iload_n 2, 1) := by decide +kernel
theorem d_MD_get_15 : decode M_MD_get.2.1 15 = .ok (.invokestatic 62, 3) := by decide +kernel
theorem d_MD_get_18 : decode M_MD_get.2.1 18 = .ok (.ifCond .ne (5), 3) := by decide +kernel
theorem d_MD_get_21 : decode M_MD_get.2.1 21 = .ok (.iconst (0), 1) := by decide +kernel
theorem d_MD_get_22 : decode M_MD_get.2.1 22 = .ok (.ireturn, 1) := by decide +kernel
theorem d_MD_get_23 : decode M_MD_get.2.1 23 = .ok (.aload_n 0, 1) := by decide +kernel
theorem d_MD_get_24 : decode M_MD_get.2.1 24 = .ok (.getfield 27, 3) := by decide +kernel
theorem d_MD_get_27 : decode M_MD_get.2.1 27 = .ok (.iload_n 1, 1) := by decide +kernel
theorem d_MD_get_28 : decode M_MD_get.2.1 28 = .ok (.iaload, 1) := by decide +kernel
theorem d_MD_get_29 : decode M_MD_get.2.1 29 = .ok (.iconst (1), 1) := by decide +kernel
theorem d_MD_get_30 : decode M_MD_get.2.1 30 = .ok (.if_icmp .ne (16), 3) := by decide +kernel
theorem d_MD_get_33 : decode M_MD_get.2.1 33 = .ok (.aload_n 0, 1) := by decide +kernel
theorem d_MD_get_34 : decode M_MD_get.2.1 34 = .ok (.getfield 30, 3) := by decide +kernel
theorem d_MD_get_37 : decode M_MD_get.2.1 37 = .ok (.iconst (4), 1) := by decide +kernel
theorem d_MD_get_38 : decode M_MD_get.2.1 38 = .ok (.iload_n 1, 1) := by decide +kernel
theorem d_MD_get_39 : decode M_MD_get.2.1 39 = .ok (.imul, 1) := by decide +kernel
theorem d_MD_get_40 : decode M_MD_get.2.1 40 = .ok (.iload_n 2, 1) := by decide +kernel
theorem d_MD_get_41 : decode M_MD_get.2.1 41 = .ok (.iadd, 1) := by decide +kernel
theorem d_MD_get_42 : decode M_MD_get.2.1 42 = .ok (.iaload, 1) := by decide +kernel
theorem d_MD_get_43 : decode M_MD_get.2.1 43 = .ok (.goto (31), 3) := by decide +kernel
theorem d_MD_get_46 : decode M_MD_get.2.1 46 = .ok (.aload_n 0, 1) := by decide +kernel
theorem d_MD_get_47 : decode M_MD_get.2.1 47 = .ok (.getfield 33, 3) := by decide +kernel
theorem d_MD_get_50 : decode M_MD_get.2.1 50 = .ok (.iload_n 1, 1) := by decide +kernel
theorem d_MD_get_51 : decode M_MD_get.2.1 51 = .ok (.baload, 1) := by decide +kernel
theorem d_MD_get_52 : decode M_MD_get.2.1 52 = .ok (.ifCond .eq (16), 3) := by decide +kernel
theorem d_MD_get_55 : decode M_MD_get.2.1 55 = .ok (.aload_n 0, 1) := by decide +kernel
theorem d_MD_get_56 : decode M_MD_get.2.1 56 = .ok (.getfield 37, 3) := by decide +kernel
theorem d_MD_get_59 : decode M_MD_get.2.1 59 = .ok (.iconst (4), 1) := by decide +kernel
theorem d_MD_get_60 : decode M_MD_get.2.1 60 = .ok (.iload_n 1, 1) := by decide +kernel
theorem d_MD_get_61 : decode M_MD_get.2.1 61 = .ok (.imul, 1) := by decide +kernel
theorem d_MD_get_62 : decode M_MD_get.2.1 62 = .ok (.iload_n 2, 1) := by decide +kernel
theorem d_MD_get_63 : decode M_MD_get.2.1 63 = .ok (.iadd, 1) := by decide +kernel
theorem d_MD_get_64 : decode M_MD_get.2.1 64 = .ok (.iaload, 1) := by decide +kernel
theorem d_MD_get_65 : decode M_MD_get.2.1 65 = .ok (.goto (9), 3) := by decide +kernel
theorem d_MD_get_68 : decode M_MD_get.2.1 68 = .ok (.aload_n 0, 1) := by decide +kernel
theorem d_MD_get_69 : decode M_MD_get.2.1 69 = .ok (.iload_n 1, 1) := by decide +kernel
theorem d_MD_get_70 : decode M_MD_get.2.1 70 = .ok (.iload_n 2, 1) := by decide +kernel
theorem d_MD_get_71 : decode M_MD_get.2.1 71 = .ok (.invokevirtual 65, 3) := by decide +kernel
theorem d_MD_get_74 : decode M_MD_get.2.1 74 = .ok (.ireturn, 1) := by decide +kernel
theorem d_MD_isBlock_0 : decode M_MD_isBlock.2.1 0 = .ok (.iload_n 0, 1) := by decide +kernel
theorem d_MD_isBlock_1 : decode M_MD_isBlock.2.1 1 = .ok (.ifCond .lt (13), 3) := by decide +kernel
theorem d_MD_isBlock_4 : decode M_MD_isBlock.2.1 4 = .ok (.iload_n 0, 1) := by decide +kernel
theorem d_MD_isBlock_5 : decode M_MD_isBlock.2.1 5 = .ok (.bipush (15), 2) := by decide +kernel
theorem d_MD_isBlock_7 : decode M_MD_isBlock.2.1 7 = .ok (.if_icmp .gt (7), 3) := by decide +kernel
theorem d_MD_isBlock_10 : decode M_MD_isBlock.2.1 10 = .ok (.iconst (1), 1) := by decide +kernel
theorem d_MD_isBlock_11 : decode M_MD_isBlock.2.1 11 = .ok (.goto (4), 3) := by decide +kernel
theorem d_MD_isBlock_14 : decode M_MD_isBlock.2.1 14 = .ok (.iconst (0), 1) := by decide +kernel
theorem d_MD_isBlock_15 : decode M_MD_isBlock.2.1 15 = .ok (.ireturn, 1) := by decide +kernel
theorem d_MD_isWord_0 : decode M_MD_isWord.2.1 0 = .ok (.iload_n 0, 1) := by decide +kernel
theorem d_MD_isWord_1 : decode M_MD_isWord.2.1 1 = .ok (.ifCond .lt (12), 3) := by decide +kernel
theorem d_MD_isWord_4 : decode M_MD_isWord.2.1 4 = .ok (.iload_n 0, 1) := by decide +kernel
theorem d_MD_isWord_5 : decode M_MD_isWord.2.1 5 = .ok (.iconst (3), 1) := by decide +kernel
theorem d_MD_isWord_6 : decode M_MD_isWord.2.1 6 = .ok (.if_icmp .gt (7), 3) := by decide +kernel
theorem d_MD_isWord_9 : decode M_MD_isWord.2.1 9 = .ok (.iconst (1), 1) := by decide +kernel
theorem d_MD_isWord_10 : decode M_MD_isWord.2.1 10 = .ok (.goto (4), 3) := by decide +kernel
theorem d_MD_isWord_13 : decode M_MD_isWord.2.1 13 = .ok (.iconst (0), 1) := by decide +kernel
theorem d_MD_isWord_14 : decode M_MD_isWord.2.1 14 = .ok (.ireturn, 1) := by decide +kernel
theorem d_MD_put_0 : decode M_MD_put.2.1 0 = .ok (.aload_n 0, 1) := by decide +kernel
theorem d_MD_put_1 : decode M_MD_put.2.1 1 = .ok (.invokevirtual 72, 3) := by decide +kernel
theorem d_MD_put_4 : decode M_MD_put.2.1 4 = .ok (.ifCond .eq (37), 3) := by decide +kernel
theorem d_MD_put_7 : decode M_MD_put.2.1 7 = .ok (.iload_n 1, 1) := by decide +kernel
theorem d_MD_put_8 : decode M_MD_put.2.1 8 = .ok (.invokestatic 58, 3) := by decide +kernel
theorem d_MD_put_11 : decode M_MD_put.2.1 11 = .ok (.ifCond .eq (30), 3) := by decide +kernel
theorem d_MD_put_14 : decode M_MD_put.2.1 14 = .ok (.iload_n 2, 1) := by decide +kernel
theorem d_MD_put_15 : decode M_MD_put.2.1 15 = .ok (.invokestatic 62, 3) := by decide +kernel
theorem d_MD_put_18 : decode M_MD_put.2.1 18 = .ok (.ifCond .eq (23), 3) := by decide +kernel
theorem d_MD_put_21 : decode M_MD_put.2.1 21 = .ok (.aload_n 0, 1) := by decide +kernel
theorem d_MD_put_22 : decode M_MD_put.2.1 22 = .ok (.getfield 27, 3) := by decide +kernel
theorem d_MD_put_25 : decode M_MD_put.2.1 25 = .ok (.iload_n 1, 1) := by decide +kernel
theorem d_MD_put_26 : decode M_MD_put.2.1 26 = .ok (.iaload, 1) := by decide +kernel
theorem d_MD_put_27 : decode M_MD_put.2.1 27 = .ok (.iconst (1), 1) := by decide +kernel
theorem d_MD_put_28 : decode M_MD_put.2.1 28 = .ok (.if_icmp .eq (15), 3) := by decide +kernel
theorem d_MD_put_31 : decode M_MD_put.2.1 31 = .ok (.aload_n 0, 1) := by decide +kernel
theorem d_MD_put_32 : decode M_MD_put.2.1 32 = .ok (.iconst (1), 1) := by decide +kernel
theorem d_MD_put_33 : decode M_MD_put.2.1 33 = .ok (.invokevirtual 76, 3) := by decide +kernel
theorem d_MD_put_36 : decode M_MD_put.2.1 36 = .ok (.bipush (8), 2) := by decide +kernel
theorem d_MD_put_38 : decode M_MD_put.2.1 38 = .ok (.if_icmp .lt (5), 3) := by decide +kernel
theorem d_MD_put_41 : decode M_MD_put.2.1 41 = .ok (.iconst (0), 1) := by decide +kernel
theorem d_MD_put_42 : decode M_MD_put.2.1 42 = .ok (.ireturn, 1) := by decide +kernel
theorem d_MD_put_43 : decode M_MD_put.2.1 43 = .ok (.iconst (0), 1) := by decide +kernel
theorem d_MD_put_44 : decode M_MD_put.2.1 44 = .ok (.istore 4, 2) := by decide +kernel
theorem d_MD_put_46 : decode M_MD_put.2.1 46 = .ok (.iload 4, 2) := by decide +kernel
theorem d_MD_put_48 : decode M_MD_put.2.1 48 = .ok (.iconst (4), 1) := by decide +kernel
theorem d_MD_put_49 : decode M_MD_put.2.1 49 = .ok (.if_icmp .ge (27), 3) := by decide +kernel
theorem d_MD_put_52 : decode M_MD_put.2.1 52 = .ok (.aload_n 0, 1) := by decide +kernel
theorem d_MD_put_53 : decode M_MD_put.2.1 53 = .ok (.getfield 30, 3) := by decide +kernel
theorem d_MD_put_56 : decode M_MD_put.2.1 56 = .ok (.iconst (4), 1) := by decide +kernel
theorem d_MD_put_57 : decode M_MD_put.2.1 57 = .ok (.iload_n 1, 1) := by decide +kernel
theorem d_MD_put_58 : decode M_MD_put.2.1 58 = .ok (.imul, 1) := by decide +kernel
theorem d_MD_put_59 : decode M_MD_put.2.1 59 = .ok (.iload 4, 2) := by decide +kernel
theorem d_MD_put_61 : decode M_MD_put.2.1 61 = .ok (.iadd, 1) := by decide +kernel
theorem d_MD_put_62 : decode M_MD_put.2.1 62 = .ok (.aload_n 0, 1) := by decide +kernel
theorem d_MD_put_63 : decode M_MD_put.2.1 63 = .ok (.iload_n 1, 1) := by decide +kernel
theorem d_MD_put_64 : decode M_MD_put.2.1 64 = .ok (.iload 4, 2) := by decide +kernel
theorem d_MD_put_66 : decode M_MD_put.2.1 66 = .ok (.invokevirtual 80, 3) := by decide +kernel
theorem d_MD_put_69 : decode M_MD_put.2.1 69 = .ok (.iastore, 1) := by decide +kernel
theorem d_MD_put_70 : decode M_MD_put.2.1 70 = .ok (.iinc 4 (1), 3) := by decide +kernel
theorem d_MD_put_73 : decode M_MD_put.2.1 73 = .ok (.goto (-27), 3) := by decide +kernel
theorem d_MD_put_76 : decode M_MD_put.2.1 76 = .ok (.aload_n 0, 1) := by decide +kernel
theorem d_MD_put_77 : decode M_MD_put.2.1 77 = .ok (.getfield 27, 3) := by decide +kernel
theorem d_MD_put_80 : decode M_MD_put.2.1 80 = .ok (.iload_n 1, 1) := by decide +kernel
theorem d_MD_put_81 : decode M_MD_put.2.1 81 = .ok (.iconst (1), 1) := by decide +kernel
theorem d_MD_put_82 : decode M_MD_put.2.1 82 = .ok (.iastore, 1) := by decide +kernel
theorem d_MD_put_83 : decode M_MD_put.2.1 83 = .ok (.aload_n 0, 1) := by decide +kernel
theorem d_MD_put_84 : decode M_MD_put.2.1 84 = .ok (.getfield 30, 3) := by decide +kernel
theorem d_MD_put_87 : decode M_MD_put.2.1 87 = .ok (.iconst (4), 1) := by decide +kernel
theorem d_MD_put_88 : decode M_MD_put.2.1 88 = .ok (.iload_n 1, 1) := by decide +kernel
theorem d_MD_put_89 : decode M_MD_put.2.1 89 = .ok (.imul, 1) := by decide +kernel
theorem d_MD_put_90 : decode M_MD_put.2.1 90 = .ok (.iload_n 2, 1) := by decide +kernel
theorem d_MD_put_91 : decode M_MD_put.2.1 91 = .ok (.iadd, 1) := by decide +kernel
theorem d_MD_put_92 : decode M_MD_put.2.1 92 = .ok (.iload_n 3, 1) := by decide +kernel
theorem d_MD_put_93 : decode M_MD_put.2.1 93 = .ok (.iastore, 1) := by decide +kernel
theorem d_MD_put_94 : decode M_MD_put.2.1 94 = .ok (.iconst (1), 1) := by decide +kernel
theorem d_MD_put_95 : decode M_MD_put.2.1 95 = .ok (.ireturn, 1) := by decide +kernel
theorem d_MD_idle_0 : decode M_MD_idle.2.1 0 = .ok (.aload_n 0, 1) := by decide +kernel
theorem d_MD_idle_1 : decode M_MD_idle.2.1 1 = .ok (.getfield 19, 3) := by decide +kernel
theorem d_MD_idle_4 : decode M_MD_idle.2.1 4 = .ok (.ifCond .eq (14), 3) := by decide +kernel
theorem d_MD_idle_7 : decode M_MD_idle.2.1 7 = .ok (.aload_n 0, 1) := by decide +kernel
theorem d_MD_idle_8 : decode M_MD_idle.2.1 8 = .ok (.getfield 69, 3) := by decide +kernel
theorem d_MD_idle_11 : decode M_MD_idle.2.1 11 = .ok (.ifCond .ne (7), 3) := by decide +kernel
theorem d_MD_idle_14 : decode M_MD_idle.2.1 14 = .ok (.iconst (1), 1) := by decide +kernel
theorem d_MD_idle_15 : decode M_MD_idle.2.1 15 = .ok (.goto (4), 3) := by decide +kernel
theorem d_MD_idle_18 : decode M_MD_idle.2.1 18 = .ok (.iconst (0), 1) := by decide +kernel
theorem d_MD_idle_19 : decode M_MD_idle.2.1 19 = .ok (.ireturn, 1) := by decide +kernel
theorem d_MD_revoke_0 : decode M_MD_revoke.2.1 0 = .ok (.aload_n 0, 1) := by decide +kernel
theorem d_MD_revoke_1 : decode M_MD_revoke.2.1 1 = .ok (.invokevirtual 72, 3) := by decide +kernel
theorem d_MD_revoke_4 : decode M_MD_revoke.2.1 4 = .ok (.ifCond .eq (10), 3) := by decide +kernel
theorem d_MD_revoke_7 : decode M_MD_revoke.2.1 7 = .ok (.iload_n 1, 1) := by decide +kernel
theorem d_MD_revoke_8 : decode M_MD_revoke.2.1 8 = .ok (.invokestatic 58, 3) := by decide +kernel
theorem d_MD_revoke_11 : decode M_MD_revoke.2.1 11 = .ok (.ifCond .ne (5), 3) := by decide +kernel
theorem d_MD_revoke_14 : decode M_MD_revoke.2.1 14 = .ok (.iconst (0), 1) := by decide +kernel
theorem d_MD_revoke_15 : decode M_MD_revoke.2.1 15 = .ok (.ireturn, 1) := by decide +kernel
theorem d_MD_revoke_16 : decode M_MD_revoke.2.1 16 = .ok (.aload_n 0, 1) := by decide +kernel
theorem d_MD_revoke_17 : decode M_MD_revoke.2.1 17 = .ok (.getfield 27, 3) := by decide +kernel
theorem d_MD_revoke_20 : decode M_MD_revoke.2.1 20 = .ok (.iload_n 1, 1) := by decide +kernel
theorem d_MD_revoke_21 : decode M_MD_revoke.2.1 21 = .ok (.iconst (2), 1) := by decide +kernel
theorem d_MD_revoke_22 : decode M_MD_revoke.2.1 22 = .ok (.iastore, 1) := by decide +kernel
theorem d_MD_revoke_23 : decode M_MD_revoke.2.1 23 = .ok (.iconst (1), 1) := by decide +kernel
theorem d_MD_revoke_24 : decode M_MD_revoke.2.1 24 = .ok (.ireturn, 1) := by decide +kernel
theorem d_MD_direct_0 : decode M_MD_direct.2.1 0 = .ok (.aload_n 0, 1) := by decide +kernel
theorem d_MD_direct_1 : decode M_MD_direct.2.1 1 = .ok (.invokevirtual 72, 3) := by decide +kernel
theorem d_MD_direct_4 : decode M_MD_direct.2.1 4 = .ok (.ifCond .eq (45), 3) := by decide +kernel
theorem d_MD_direct_7 : decode M_MD_direct.2.1 7 = .ok (.iload_n 1, 1) := by decide +kernel
theorem d_MD_direct_8 : decode M_MD_direct.2.1 8 = .ok (.invokestatic 58, 3) := by decide +kernel
theorem d_MD_direct_11 : decode M_MD_direct.2.1 11 = .ok (.ifCond .eq (38), 3) := by decide +kernel
theorem d_MD_direct_14 : decode M_MD_direct.2.1 14 = .ok (.iload_n 2, 1) := by decide +kernel
theorem d_MD_direct_15 : decode M_MD_direct.2.1 15 = .ok (.invokestatic 62, 3) := by decide +kernel
theorem d_MD_direct_18 : decode M_MD_direct.2.1 18 = .ok (.ifCond .eq (31), 3) := by decide +kernel
theorem d_MD_direct_21 : decode M_MD_direct.2.1 21 = .ok (.aload_n 0, 1) := by decide +kernel
theorem d_MD_direct_22 : decode M_MD_direct.2.1 22 = .ok (.getfield 27, 3) := by decide +kernel
theorem d_MD_direct_25 : decode M_MD_direct.2.1 25 = .ok (.iload_n 1, 1) := by decide +kernel
theorem d_MD_direct_26 : decode M_MD_direct.2.1 26 = .ok (.iaload, 1) := by decide +kernel
theorem d_MD_direct_27 : decode M_MD_direct.2.1 27 = .ok (.iconst (1), 1) := by decide +kernel
theorem d_MD_direct_28 : decode M_MD_direct.2.1 28 = .ok (.if_icmp .eq (21), 3) := by decide +kernel
theorem d_MD_direct_31 : decode M_MD_direct.2.1 31 = .ok (.aload_n 0, 1) := by decide +kernel
theorem d_MD_direct_32 : decode M_MD_direct.2.1 32 = .ok (.getfield 33, 3) := by decide +kernel
theorem d_MD_direct_35 : decode M_MD_direct.2.1 35 = .ok (.iload_n 1, 1) := by decide +kernel
theorem d_MD_direct_36 : decode M_MD_direct.2.1 36 = .ok (.baload, 1) := by decide +kernel
theorem d_MD_direct_37 : decode M_MD_direct.2.1 37 = .ok (.ifCond .ne (12), 3) := by decide +kernel
theorem d_MD_direct_40 : decode M_MD_direct.2.1 40 = .ok (.aload_n 0, 1) := by decide +kernel
theorem d_MD_direct_41 : decode M_MD_direct.2.1 41 = .ok (.getfield 50, 3) := by decide +kernel
theorem d_MD_direct_44 : decode M_MD_direct.2.1 44 = .ok (.bipush (12), 2) := by decide +kernel
theorem d_MD_direct_46 : decode M_MD_direct.2.1 46 = .ok (.if_icmp .lt (5), 3) := by decide +kernel
theorem d_MD_direct_49 : decode M_MD_direct.2.1 49 = .ok (.iconst (0), 1) := by decide +kernel
theorem d_MD_direct_50 : decode M_MD_direct.2.1 50 = .ok (.ireturn, 1) := by decide +kernel
theorem d_MD_direct_51 : decode M_MD_direct.2.1 51 = .ok (.iconst (0), 1) := by decide +kernel
theorem d_MD_direct_52 : decode M_MD_direct.2.1 52 = .ok (.istore 4, 2) := by decide +kernel
theorem d_MD_direct_54 : decode M_MD_direct.2.1 54 = .ok (.iload 4, 2) := by decide +kernel
theorem d_MD_direct_56 : decode M_MD_direct.2.1 56 = .ok (.iconst (4), 1) := by decide +kernel
theorem d_MD_direct_57 : decode M_MD_direct.2.1 57 = .ok (.if_icmp .ge (23), 3) := by decide +kernel
theorem d_MD_direct_60 : decode M_MD_direct.2.1 60 = .ok (.aload_n 0, 1) := by decide +kernel
theorem d_MD_direct_61 : decode M_MD_direct.2.1 61 = .ok (.getfield 40, 3) := by decide +kernel
theorem d_MD_direct_64 : decode M_MD_direct.2.1 64 = .ok (.iload 4, 2) := by decide +kernel
theorem d_MD_direct_66 : decode M_MD_direct.2.1 66 = .ok (.aload_n 0, 1) := by decide +kernel
theorem d_MD_direct_67 : decode M_MD_direct.2.1 67 = .ok (.iload_n 1, 1) := by decide +kernel
theorem d_MD_direct_68 : decode M_MD_direct.2.1 68 = .ok (.iload 4, 2) := by decide +kernel
theorem d_MD_direct_70 : decode M_MD_direct.2.1 70 = .ok (.invokevirtual 65, 3) := by decide +kernel
theorem d_MD_direct_73 : decode M_MD_direct.2.1 73 = .ok (.iastore, 1) := by decide +kernel
theorem d_MD_direct_74 : decode M_MD_direct.2.1 74 = .ok (.iinc 4 (1), 3) := by decide +kernel
theorem d_MD_direct_77 : decode M_MD_direct.2.1 77 = .ok (.goto (-23), 3) := by decide +kernel
theorem d_MD_direct_80 : decode M_MD_direct.2.1 80 = .ok (.aload_n 0, 1) := by decide +kernel
theorem d_MD_direct_81 : decode M_MD_direct.2.1 81 = .ok (.getfield 40, 3) := by decide +kernel
theorem d_MD_direct_84 : decode M_MD_direct.2.1 84 = .ok (.iload_n 2, 1) := by decide +kernel
theorem d_MD_direct_85 : decode M_MD_direct.2.1 85 = .ok (.iload_n 3, 1) := by decide +kernel
theorem d_MD_direct_86 : decode M_MD_direct.2.1 86 = .ok (.iastore, 1) := by decide +kernel
theorem d_MD_direct_87 : decode M_MD_direct.2.1 87 = .ok (.aload_n 0, 1) := by decide +kernel
theorem d_MD_direct_88 : decode M_MD_direct.2.1 88 = .ok (.iload_n 1, 1) := by decide +kernel
theorem d_MD_direct_89 : decode M_MD_direct.2.1 89 = .ok (.invokevirtual 83, 3) := by decide +kernel
theorem d_MD_direct_92 : decode M_MD_direct.2.1 92 = .ok (.iconst (1), 1) := by decide +kernel
theorem d_MD_direct_93 : decode M_MD_direct.2.1 93 = .ok (.ireturn, 1) := by decide +kernel
theorem d_MD_changed_0 : decode M_MD_changed.2.1 0 = .ok (.aload_n 0, 1) := by decide +kernel
theorem d_MD_changed_1 : decode M_MD_changed.2.1 1 = .ok (.getfield 19, 3) := by decide +kernel
theorem d_MD_changed_4 : decode M_MD_changed.2.1 4 = .ok (.ifCond .eq (34), 3) := by decide +kernel
theorem d_MD_changed_7 : decode M_MD_changed.2.1 7 = .ok (.iload_n 1, 1) := by decide +kernel
theorem d_MD_changed_8 : decode M_MD_changed.2.1 8 = .ok (.invokestatic 58, 3) := by decide +kernel
theorem d_MD_changed_11 : decode M_MD_changed.2.1 11 = .ok (.ifCond .eq (27), 3) := by decide +kernel
theorem d_MD_changed_14 : decode M_MD_changed.2.1 14 = .ok (.aload_n 0, 1) := by decide +kernel
theorem d_MD_changed_15 : decode M_MD_changed.2.1 15 = .ok (.getfield 27, 3) := by decide +kernel
theorem d_MD_changed_18 : decode M_MD_changed.2.1 18 = .ok (.iload_n 1, 1) := by decide +kernel
theorem d_MD_changed_19 : decode M_MD_changed.2.1 19 = .ok (.iaload, 1) := by decide +kernel
theorem d_MD_changed_20 : decode M_MD_changed.2.1 20 = .ok (.aload_n 0, 1) := by decide +kernel
theorem d_MD_changed_21 : decode M_MD_changed.2.1 21 = .ok (.getfield 33, 3) := by decide +kernel
theorem d_MD_changed_24 : decode M_MD_changed.2.1 24 = .ok (.iload_n 1, 1) := by decide +kernel
theorem d_MD_changed_25 : decode M_MD_changed.2.1 25 = .ok (.baload, 1) := by decide +kernel
theorem d_MD_changed_26 : decode M_MD_changed.2.1 26 = .ok (.ifCond .eq (7), 3) := by decide +kernel
theorem d_MD_changed_29 : decode M_MD_changed.2.1 29 = .ok (.iconst (4), 1) := by decide +kernel
theorem d_MD_changed_30 : decode M_MD_changed.2.1 30 = .ok (.goto (4), 3) := by decide +kernel
theorem d_MD_changed_33 : decode M_MD_changed.2.1 33 = .ok (.iconst (0), 1) := by decide +kernel
theorem d_MD_changed_34 : decode M_MD_changed.2.1 34 = .ok (.iadd, 1) := by decide +kernel
theorem d_MD_changed_35 : decode M_MD_changed.2.1 35 = .ok (.goto (4), 3) := by decide +kernel
theorem d_MD_changed_38 : decode M_MD_changed.2.1 38 = .ok (.iconst (-1), 1) := by decide +kernel
theorem d_MD_changed_39 : decode M_MD_changed.2.1 39 = .ok (.ireturn, 1) := by decide +kernel
theorem d_MD_rowLength_0 : decode M_MD_rowLength.2.1 0 = .ok (.aload_n 0, 1) := by decide +kernel
theorem d_MD_rowLength_1 : decode M_MD_rowLength.2.1 1 = .ok (.iconst (1), 1) := by decide +kernel
theorem d_MD_rowLength_2 : decode M_MD_rowLength.2.1 2 = .ok (.invokevirtual 76, 3) := by decide +kernel
theorem d_MD_rowLength_5 : decode M_MD_rowLength.2.1 5 = .ok (.istore_n 1, 1) := by decide +kernel
theorem d_MD_rowLength_6 : decode M_MD_rowLength.2.1 6 = .ok (.iload_n 1, 1) := by decide +kernel
theorem d_MD_rowLength_7 : decode M_MD_rowLength.2.1 7 = .ok (.iload_n 1, 1) := by decide +kernel
theorem d_MD_rowLength_8 : decode M_MD_rowLength.2.1 8 = .ok (.iconst (3), 1) := by decide +kernel
theorem d_MD_rowLength_9 : decode M_MD_rowLength.2.1 9 = .ok (.iadd, 1) := by decide +kernel
theorem d_MD_rowLength_10 : decode M_MD_rowLength.2.1 10 = .ok (.iconst (4), 1) := by decide +kernel
theorem d_MD_rowLength_11 : decode M_MD_rowLength.2.1 11 = .ok (.idiv, 1) := by decide +kernel
theorem d_MD_rowLength_12 : decode M_MD_rowLength.2.1 12 = .ok (.iadd, 1) := by decide +kernel
theorem d_MD_rowLength_13 : decode M_MD_rowLength.2.1 13 = .ok (.aload_n 0, 1) := by decide +kernel
theorem d_MD_rowLength_14 : decode M_MD_rowLength.2.1 14 = .ok (.iconst (2), 1) := by decide +kernel
theorem d_MD_rowLength_15 : decode M_MD_rowLength.2.1 15 = .ok (.invokevirtual 76, 3) := by decide +kernel
theorem d_MD_rowLength_18 : decode M_MD_rowLength.2.1 18 = .ok (.ifCond .le (7), 3) := by decide +kernel
theorem d_MD_rowLength_21 : decode M_MD_rowLength.2.1 21 = .ok (.iconst (1), 1) := by decide +kernel
theorem d_MD_rowLength_22 : decode M_MD_rowLength.2.1 22 = .ok (.goto (4), 3) := by decide +kernel
theorem d_MD_rowLength_25 : decode M_MD_rowLength.2.1 25 = .ok (.iconst (0), 1) := by decide +kernel
theorem d_MD_rowLength_26 : decode M_MD_rowLength.2.1 26 = .ok (.iadd, 1) := by decide +kernel
theorem d_MD_rowLength_27 : decode M_MD_rowLength.2.1 27 = .ok (.iconst (1), 1) := by decide +kernel
theorem d_MD_rowLength_28 : decode M_MD_rowLength.2.1 28 = .ok (.iadd, 1) := by decide +kernel
theorem d_MD_rowLength_29 : decode M_MD_rowLength.2.1 29 = .ok (.ireturn, 1) := by decide +kernel
theorem d_MD_imageBlock_0 : decode M_MD_imageBlock.2.1 0 = .ok (.iconst (0), 1) := by decide +kernel
theorem d_MD_imageBlock_1 : decode M_MD_imageBlock.2.1 1 = .ok (.istore_n 2, 1) := by decide +kernel
theorem d_MD_imageBlock_2 : decode M_MD_imageBlock.2.1 2 = .ok (.iconst (0), 1) := by decide +kernel
theorem d_MD_imageBlock_3 : decode M_MD_imageBlock.2.1 3 = .ok (.istore_n 3, 1) := by decide +kernel
theorem d_MD_imageBlock_4 : decode M_MD_imageBlock.2.1 4 = .ok (.iconst (0), 1) := by decide +kernel
theorem d_MD_imageBlock_5 : decode M_MD_imageBlock.2.1 5 = .ok (.istore 4, 2) := by decide +kernel
theorem d_MD_imageBlock_7 : decode M_MD_imageBlock.2.1 7 = .ok (.iload 4, 2) := by decide +kernel
theorem d_MD_imageBlock_9 : decode M_MD_imageBlock.2.1 9 = .ok (.bipush (16), 2) := by decide +kernel
theorem d_MD_imageBlock_11 : decode M_MD_imageBlock.2.1 11 = .ok (.if_icmp .ge (36), 3) := by decide +kernel
theorem d_MD_imageBlock_14 : decode M_MD_imageBlock.2.1 14 = .ok (.aload_n 0, 1) := by decide +kernel
theorem d_MD_imageBlock_15 : decode M_MD_imageBlock.2.1 15 = .ok (.getfield 27, 3) := by decide +kernel
theorem d_MD_imageBlock_18 : decode M_MD_imageBlock.2.1 18 = .ok (.iload 4, 2) := by decide +kernel
theorem d_MD_imageBlock_20 : decode M_MD_imageBlock.2.1 20 = .ok (.iaload, 1) := by decide +kernel
theorem d_MD_imageBlock_21 : decode M_MD_imageBlock.2.1 21 = .ok (.iconst (1), 1) := by decide +kernel
theorem d_MD_imageBlock_22 : decode M_MD_imageBlock.2.1 22 = .ok (.if_icmp .ne (19), 3) := by decide +kernel
theorem d_MD_imageBlock_25 : decode M_MD_imageBlock.2.1 25 = .ok (.iload_n 2, 1) := by decide +kernel
theorem d_MD_imageBlock_26 : decode M_MD_imageBlock.2.1 26 = .ok (.iload_n 1, 1) := by decide +kernel
theorem d_MD_imageBlock_27 : decode M_MD_imageBlock.2.1 27 = .ok (.if_icmp .ne (8), 3) := by decide +kernel
theorem d_MD_imageBlock_30 : decode M_MD_imageBlock.2.1 30 = .ok (.iload 4, 2) := by decide +kernel
theorem d_MD_imageBlock_32 : decode M_MD_imageBlock.2.1 32 = .ok (.goto (4), 3) := by decide +kernel
theorem d_MD_imageBlock_35 : decode M_MD_imageBlock.2.1 35 = .ok (.iload_n 3, 1) := by decide +kernel
theorem d_MD_imageBlock_36 : decode M_MD_imageBlock.2.1 36 = .ok (.istore_n 3, 1) := by decide +kernel
theorem d_MD_imageBlock_37 : decode M_MD_imageBlock.2.1 37 = .ok (.iload_n 2, 1) := by decide +kernel
theorem d_MD_imageBlock_38 : decode M_MD_imageBlock.2.1 38 = .ok (.iconst (1), 1) := by decide +kernel
theorem d_MD_imageBlock_39 : decode M_MD_imageBlock.2.1 39 = .ok (.iadd, 1) := by decide +kernel
theorem d_MD_imageBlock_40 : decode M_MD_imageBlock.2.1 40 = .ok (.istore_n 2, 1) := by decide +kernel
theorem d_MD_imageBlock_41 : decode M_MD_imageBlock.2.1 41 = .ok (.iinc 4 (1), 3) := by decide +kernel
theorem d_MD_imageBlock_44 : decode M_MD_imageBlock.2.1 44 = .ok (.goto (-37), 3) := by decide +kernel
theorem d_MD_imageBlock_47 : decode M_MD_imageBlock.2.1 47 = .ok (.iload_n 3, 1) := by decide +kernel
theorem d_MD_imageBlock_48 : decode M_MD_imageBlock.2.1 48 = .ok (.ireturn, 1) := by decide +kernel
theorem d_MD_groupWord_0 : decode M_MD_groupWord.2.1 0 = .ok (.iload_n 2, 1) := by decide +kernel
theorem d_MD_groupWord_1 : decode M_MD_groupWord.2.1 1 = .ok (.iconst (4), 1) := by decide +kernel
theorem d_MD_groupWord_2 : decode M_MD_groupWord.2.1 2 = .ok (.iload_n 1, 1) := by decide +kernel
theorem d_MD_groupWord_3 : decode M_MD_groupWord.2.1 3 = .ok (.imul, 1) := by decide +kernel
theorem d_MD_groupWord_4 : decode M_MD_groupWord.2.1 4 = .ok (.isub, 1) := by decide +kernel
theorem d_MD_groupWord_5 : decode M_MD_groupWord.2.1 5 = .ok (.iconst (4), 1) := by decide +kernel
theorem d_MD_groupWord_6 : decode M_MD_groupWord.2.1 6 = .ok (.if_icmp .ge (11), 3) := by decide +kernel
theorem d_MD_groupWord_9 : decode M_MD_groupWord.2.1 9 = .ok (.iload_n 2, 1) := by decide +kernel
theorem d_MD_groupWord_10 : decode M_MD_groupWord.2.1 10 = .ok (.iconst (4), 1) := by decide +kernel
theorem d_MD_groupWord_11 : decode M_MD_groupWord.2.1 11 = .ok (.iload_n 1, 1) := by decide +kernel
theorem d_MD_groupWord_12 : decode M_MD_groupWord.2.1 12 = .ok (.imul, 1) := by decide +kernel
theorem d_MD_groupWord_13 : decode M_MD_groupWord.2.1 13 = .ok (.isub, 1) := by decide +kernel
theorem d_MD_groupWord_14 : decode M_MD_groupWord.2.1 14 = .ok (.goto (4), 3) := by decide +kernel
theorem d_MD_groupWord_17 : decode M_MD_groupWord.2.1 17 = .ok (.iconst (4), 1) := by decide +kernel
theorem d_MD_groupWord_18 : decode M_MD_groupWord.2.1 18 = .ok (.istore_n 3, 1) := by decide +kernel
theorem d_MD_groupWord_19 : decode M_MD_groupWord.2.1 19 = .ok (.iload_n 3, 1) := by decide +kernel
theorem d_MD_groupWord_20 : decode M_MD_groupWord.2.1 20 = .ok (.istore 4, 2) := by decide +kernel
theorem d_MD_groupWord_22 : decode M_MD_groupWord.2.1 22 = .ok (.iconst (0), 1) := by decide +kernel
theorem d_MD_groupWord_23 : decode M_MD_groupWord.2.1 23 = .ok (.istore 5, 2) := by decide +kernel
theorem d_MD_groupWord_25 : decode M_MD_groupWord.2.1 25 = .ok (.iload 5, 2) := by decide +kernel
theorem d_MD_groupWord_27 : decode M_MD_groupWord.2.1 27 = .ok (.iload_n 3, 1) := by decide +kernel
theorem d_MD_groupWord_28 : decode M_MD_groupWord.2.1 28 = .ok (.if_icmp .ge (61), 3) := by decide +kernel
theorem d_MD_groupWord_31 : decode M_MD_groupWord.2.1 31 = .ok (.aload_n 0, 1) := by decide +kernel
theorem d_MD_groupWord_32 : decode M_MD_groupWord.2.1 32 = .ok (.iconst (4), 1) := by decide +kernel
theorem d_MD_groupWord_33 : decode M_MD_groupWord.2.1 33 = .ok (.iload_n 1, 1) := by decide +kernel
theorem d_MD_groupWord_34 : decode M_MD_groupWord.2.1 34 = .ok (.imul, 1) := by decide +kernel
theorem d_MD_groupWord_35 : decode M_MD_groupWord.2.1 35 = .ok (.iload 5, 2) := by decide +kernel
theorem d_MD_groupWord_37 : decode M_MD_groupWord.2.1 37 = .ok (.iadd, 1) := by decide +kernel
theorem d_MD_groupWord_38 : decode M_MD_groupWord.2.1 38 = .ok (.invokevirtual 87, 3) := by decide +kernel
theorem d_MD_groupWord_41 : decode M_MD_groupWord.2.1 41 = .ok (.istore 6, 2) := by decide +kernel
theorem d_MD_groupWord_43 : decode M_MD_groupWord.2.1 43 = .ok (.aload_n 0, 1) := by decide +kernel
theorem d_MD_groupWord_44 : decode M_MD_groupWord.2.1 44 = .ok (.getfield 30, 3) := by decide +kernel
theorem d_MD_groupWord_47 : decode M_MD_groupWord.2.1 47 = .ok (.iconst (4), 1) := by decide +kernel
theorem d_MD_groupWord_48 : decode M_MD_groupWord.2.1 48 = .ok (.iload 6, 2) := by decide +kernel
theorem d_MD_groupWord_50 : decode M_MD_groupWord.2.1 50 = .ok (.imul, 1) := by decide +kernel
theorem d_MD_groupWord_51 : decode M_MD_groupWord.2.1 51 = .ok (.iaload, 1) := by decide +kernel
theorem d_MD_groupWord_52 : decode M_MD_groupWord.2.1 52 = .ok (.ldc 49, 2) := by decide +kernel
theorem d_MD_groupWord_54 : decode M_MD_groupWord.2.1 54 = .ok (.if_icmp .ne (11), 3) := by decide +kernel
theorem d_MD_groupWord_57 : decode M_MD_groupWord.2.1 57 = .ok (.iload 6, 2) := by decide +kernel
theorem d_MD_groupWord_59 : decode M_MD_groupWord.2.1 59 = .ok (.bipush (16), 2) := by decide +kernel
theorem d_MD_groupWord_61 : decode M_MD_groupWord.2.1 61 = .ok (.iadd, 1) := by decide +kernel
theorem d_MD_groupWord_62 : decode M_MD_groupWord.2.1 62 = .ok (.goto (5), 3) := by decide +kernel
theorem d_MD_groupWord_65 : decode M_MD_groupWord.2.1 65 = .ok (.iload 6, 2) := by decide +kernel
theorem d_MD_groupWord_67 : decode M_MD_groupWord.2.1 67 = .ok (.istore 7, 2) := by decide +kernel
theorem d_MD_groupWord_69 : decode M_MD_groupWord.2.1 69 = .ok (.iload 4, 2) := by decide +kernel
theorem d_MD_groupWord_71 : decode M_MD_groupWord.2.1 71 = .ok (.iload 7, 2) := by decide +kernel
theorem d_MD_groupWord_73 : decode M_MD_groupWord.2.1 73 = .ok (.iconst (3), 1) := by decide +kernel
theorem d_MD_groupWord_74 : decode M_MD_groupWord.2.1 74 = .ok (.iconst (5), 1) := by decide +kernel
theorem d_MD_groupWord_75 : decode M_MD_groupWord.2.1 75 = .ok (.iload 5, 2) := by decide +kernel
theorem d_MD_groupWord_77 : decode M_MD_groupWord.2.1 77 = .ok (.imul, 1) := by decide +kernel
theorem d_MD_groupWord_78 : decode M_MD_groupWord.2.1 78 = .ok (.iadd, 1) := by decide +kernel
theorem d_MD_groupWord_79 : decode M_MD_groupWord.2.1 79 = .ok (.ishl, 1) := by decide +kernel
theorem d_MD_groupWord_80 : decode M_MD_groupWord.2.1 80 = .ok (.iadd, 1) := by decide +kernel
theorem d_MD_groupWord_81 : decode M_MD_groupWord.2.1 81 = .ok (.istore 4, 2) := by decide +kernel
theorem d_MD_groupWord_83 : decode M_MD_groupWord.2.1 83 = .ok (.iinc 5 (1), 3) := by decide +kernel
theorem d_MD_groupWord_86 : decode M_MD_groupWord.2.1 86 = .ok (.goto (-61), 3) := by decide +kernel
theorem d_MD_groupWord_89 : decode M_MD_groupWord.2.1 89 = .ok (.iload 4, 2) := by decide +kernel
theorem d_MD_groupWord_91 : decode M_MD_groupWord.2.1 91 = .ok (.ireturn, 1) := by decide +kernel
theorem d_MD_revocationWord_0 : decode M_MD_revocationWord.2.1 0 = .ok (.iconst (0), 1) := by decide +kernel
theorem d_MD_revocationWord_1 : decode M_MD_revocationWord.2.1 1 = .ok (.istore_n 1, 1) := by decide +kernel
theorem d_MD_revocationWord_2 : decode M_MD_revocationWord.2.1 2 = .ok (.iconst (0), 1) := by decide +kernel
theorem d_MD_revocationWord_3 : decode M_MD_revocationWord.2.1 3 = .ok (.istore_n 2, 1) := by decide +kernel
theorem d_MD_revocationWord_4 : decode M_MD_revocationWord.2.1 4 = .ok (.iload_n 2, 1) := by decide +kernel
theorem d_MD_revocationWord_5 : decode M_MD_revocationWord.2.1 5 = .ok (.bipush (16), 2) := by decide +kernel
theorem d_MD_revocationWord_7 : decode M_MD_revocationWord.2.1 7 = .ok (.if_icmp .ge (29), 3) := by decide +kernel
theorem d_MD_revocationWord_10 : decode M_MD_revocationWord.2.1 10 = .ok (.aload_n 0, 1) := by decide +kernel
theorem d_MD_revocationWord_11 : decode M_MD_revocationWord.2.1 11 = .ok (.getfield 27, 3) := by decide +kernel
theorem d_MD_revocationWord_14 : decode M_MD_revocationWord.2.1 14 = .ok (.iload_n 2, 1) := by decide +kernel
theorem d_MD_revocationWord_15 : decode M_MD_revocationWord.2.1 15 = .ok (.iaload, 1) := by decide +kernel
theorem d_MD_revocationWord_16 : decode M_MD_revocationWord.2.1 16 = .ok (.iconst (2), 1) := by decide +kernel
theorem d_MD_revocationWord_17 : decode M_MD_revocationWord.2.1 17 = .ok (.if_icmp .ne (11), 3) := by decide +kernel
theorem d_MD_revocationWord_20 : decode M_MD_revocationWord.2.1 20 = .ok (.iload_n 1, 1) := by decide +kernel
theorem d_MD_revocationWord_21 : decode M_MD_revocationWord.2.1 21 = .ok (.iconst (1), 1) := by decide +kernel
theorem d_MD_revocationWord_22 : decode M_MD_revocationWord.2.1 22 = .ok (.iload_n 2, 1) := by decide +kernel
theorem d_MD_revocationWord_23 : decode M_MD_revocationWord.2.1 23 = .ok (.ishl, 1) := by decide +kernel
theorem d_MD_revocationWord_24 : decode M_MD_revocationWord.2.1 24 = .ok (.ior, 1) := by decide +kernel
theorem d_MD_revocationWord_25 : decode M_MD_revocationWord.2.1 25 = .ok (.goto (4), 3) := by decide +kernel
theorem d_MD_revocationWord_28 : decode M_MD_revocationWord.2.1 28 = .ok (.iload_n 1, 1) := by decide +kernel
theorem d_MD_revocationWord_29 : decode M_MD_revocationWord.2.1 29 = .ok (.istore_n 1, 1) := by decide +kernel
theorem d_MD_revocationWord_30 : decode M_MD_revocationWord.2.1 30 = .ok (.iinc 2 (1), 3) := by decide +kernel
theorem d_MD_revocationWord_33 : decode M_MD_revocationWord.2.1 33 = .ok (.goto (-29), 3) := by decide +kernel
theorem d_MD_revocationWord_36 : decode M_MD_revocationWord.2.1 36 = .ok (.iload_n 1, 1) := by decide +kernel
theorem d_MD_revocationWord_37 : decode M_MD_revocationWord.2.1 37 = .ok (.ireturn, 1) := by decide +kernel
theorem d_MD_body_0 : decode M_MD_body.2.1 0 = .ok (.aload_n 0, 1) := by decide +kernel
theorem d_MD_body_1 : decode M_MD_body.2.1 1 = .ok (.iconst (1), 1) := by decide +kernel
theorem d_MD_body_2 : decode M_MD_body.2.1 2 = .ok (.invokevirtual 76, 3) := by decide +kernel
theorem d_MD_body_5 : decode M_MD_body.2.1 5 = .ok (.istore_n 2, 1) := by decide +kernel
theorem d_MD_body_6 : decode M_MD_body.2.1 6 = .ok (.iload_n 1, 1) := by decide +kernel
theorem d_MD_body_7 : decode M_MD_body.2.1 7 = .ok (.iload_n 2, 1) := by decide +kernel
theorem d_MD_body_8 : decode M_MD_body.2.1 8 = .ok (.iload_n 2, 1) := by decide +kernel
theorem d_MD_body_9 : decode M_MD_body.2.1 9 = .ok (.iconst (3), 1) := by decide +kernel
theorem d_MD_body_10 : decode M_MD_body.2.1 10 = .ok (.iadd, 1) := by decide +kernel
theorem d_MD_body_11 : decode M_MD_body.2.1 11 = .ok (.iconst (4), 1) := by decide +kernel
theorem d_MD_body_12 : decode M_MD_body.2.1 12 = .ok (.idiv, 1) := by decide +kernel
theorem d_MD_body_13 : decode M_MD_body.2.1 13 = .ok (.iadd, 1) := by decide +kernel
theorem d_MD_body_14 : decode M_MD_body.2.1 14 = .ok (.if_icmp .lt (21), 3) := by decide +kernel
theorem d_MD_body_17 : decode M_MD_body.2.1 17 = .ok (.aload_n 0, 1) := by decide +kernel
theorem d_MD_body_18 : decode M_MD_body.2.1 18 = .ok (.ldc 49, 2) := by decide +kernel
theorem d_MD_body_20 : decode M_MD_body.2.1 20 = .ok (.iconst (2), 1) := by decide +kernel
theorem d_MD_body_21 : decode M_MD_body.2.1 21 = .ok (.aload_n 0, 1) := by decide +kernel
theorem d_MD_body_22 : decode M_MD_body.2.1 22 = .ok (.getfield 23, 3) := by decide +kernel
theorem d_MD_body_25 : decode M_MD_body.2.1 25 = .ok (.aload_n 0, 1) := by decide +kernel
theorem d_MD_body_26 : decode M_MD_body.2.1 26 = .ok (.invokevirtual 90, 3) := by decide +kernel
theorem d_MD_body_29 : decode M_MD_body.2.1 29 = .ok (.invokevirtual 94, 3) := by decide +kernel
theorem d_MD_body_32 : decode M_MD_body.2.1 32 = .ok (.goto (116), 3) := by decide +kernel
theorem d_MD_body_35 : decode M_MD_body.2.1 35 = .ok (.iload_n 1, 1) := by decide +kernel
theorem d_MD_body_36 : decode M_MD_body.2.1 36 = .ok (.iconst (5), 1) := by decide +kernel
theorem d_MD_body_37 : decode M_MD_body.2.1 37 = .ok (.irem, 1) := by decide +kernel
theorem d_MD_body_38 : decode M_MD_body.2.1 38 = .ok (.ifCond .ne (25), 3) := by decide +kernel
theorem d_MD_body_41 : decode M_MD_body.2.1 41 = .ok (.aload_n 0, 1) := by decide +kernel
theorem d_MD_body_42 : decode M_MD_body.2.1 42 = .ok (.ldc 49, 2) := by decide +kernel
theorem d_MD_body_44 : decode M_MD_body.2.1 44 = .ok (.iconst (1), 1) := by decide +kernel
theorem d_MD_body_45 : decode M_MD_body.2.1 45 = .ok (.aload_n 0, 1) := by decide +kernel
theorem d_MD_body_46 : decode M_MD_body.2.1 46 = .ok (.getfield 23, 3) := by decide +kernel
theorem d_MD_body_49 : decode M_MD_body.2.1 49 = .ok (.aload_n 0, 1) := by decide +kernel
theorem d_MD_body_50 : decode M_MD_body.2.1 50 = .ok (.iload_n 1, 1) := by decide +kernel
theorem d_MD_body_51 : decode M_MD_body.2.1 51 = .ok (.iconst (5), 1) := by decide +kernel
theorem d_MD_body_52 : decode M_MD_body.2.1 52 = .ok (.idiv, 1) := by decide +kernel
theorem d_MD_body_53 : decode M_MD_body.2.1 53 = .ok (.iload_n 2, 1) := by decide +kernel
theorem d_MD_body_54 : decode M_MD_body.2.1 54 = .ok (.invokevirtual 98, 3) := by decide +kernel
theorem d_MD_body_57 : decode M_MD_body.2.1 57 = .ok (.invokevirtual 94, 3) := by decide +kernel
theorem d_MD_body_60 : decode M_MD_body.2.1 60 = .ok (.goto (88), 3) := by decide +kernel
theorem d_MD_body_63 : decode M_MD_body.2.1 63 = .ok (.aload_n 0, 1) := by decide +kernel
theorem d_MD_body_64 : decode M_MD_body.2.1 64 = .ok (.iload_n 1, 1) := by decide +kernel
theorem d_MD_body_65 : decode M_MD_body.2.1 65 = .ok (.iconst (5), 1) := by decide +kernel
theorem d_MD_body_66 : decode M_MD_body.2.1 66 = .ok (.idiv, 1) := by decide +kernel
theorem d_MD_body_67 : decode M_MD_body.2.1 67 = .ok (.iconst (4), 1) := by decide +kernel
theorem d_MD_body_68 : decode M_MD_body.2.1 68 = .ok (.imul, 1) := by decide +kernel
theorem d_MD_body_69 : decode M_MD_body.2.1 69 = .ok (.iload_n 1, 1) := by decide +kernel
theorem d_MD_body_70 : decode M_MD_body.2.1 70 = .ok (.iconst (5), 1) := by decide +kernel
theorem d_MD_body_71 : decode M_MD_body.2.1 71 = .ok (.irem, 1) := by decide +kernel
theorem d_MD_body_72 : decode M_MD_body.2.1 72 = .ok (.iadd, 1) := by decide +kernel
theorem d_MD_body_73 : decode M_MD_body.2.1 73 = .ok (.iconst (1), 1) := by decide +kernel
theorem d_MD_body_74 : decode M_MD_body.2.1 74 = .ok (.isub, 1) := by decide +kernel
theorem d_MD_body_75 : decode M_MD_body.2.1 75 = .ok (.invokevirtual 87, 3) := by decide +kernel
theorem d_MD_body_78 : decode M_MD_body.2.1 78 = .ok (.istore_n 3, 1) := by decide +kernel
theorem d_MD_body_79 : decode M_MD_body.2.1 79 = .ok (.aload_n 0, 1) := by decide +kernel
theorem d_MD_body_80 : decode M_MD_body.2.1 80 = .ok (.aload_n 0, 1) := by decide +kernel
theorem d_MD_body_81 : decode M_MD_body.2.1 81 = .ok (.getfield 30, 3) := by decide +kernel
theorem d_MD_body_84 : decode M_MD_body.2.1 84 = .ok (.iconst (4), 1) := by decide +kernel
theorem d_MD_body_85 : decode M_MD_body.2.1 85 = .ok (.iload_n 3, 1) := by decide +kernel
theorem d_MD_body_86 : decode M_MD_body.2.1 86 = .ok (.imul, 1) := by decide +kernel
theorem d_MD_body_87 : decode M_MD_body.2.1 87 = .ok (.iaload, 1) := by decide +kernel
theorem d_MD_body_88 : decode M_MD_body.2.1 88 = .ok (.aload_n 0, 1) := by decide +kernel
theorem d_MD_body_89 : decode M_MD_body.2.1 89 = .ok (.getfield 30, 3) := by decide +kernel
theorem d_MD_body_92 : decode M_MD_body.2.1 92 = .ok (.iconst (4), 1) := by decide +kernel
theorem d_MD_body_93 : decode M_MD_body.2.1 93 = .ok (.iload_n 3, 1) := by decide +kernel
theorem d_MD_body_94 : decode M_MD_body.2.1 94 = .ok (.imul, 1) := by decide +kernel
theorem d_MD_body_95 : decode M_MD_body.2.1 95 = .ok (.iconst (1), 1) := by decide +kernel
theorem d_MD_body_96 : decode M_MD_body.2.1 96 = .ok (.iadd, 1) := by decide +kernel
theorem d_MD_body_97 : decode M_MD_body.2.1 97 = .ok (.iaload, 1) := by decide +kernel
theorem d_MD_body_98 : decode M_MD_body.2.1 98 = .ok (.aload_n 0, 1) := by decide +kernel
theorem d_MD_body_99 : decode M_MD_body.2.1 99 = .ok (.getfield 30, 3) := by decide +kernel
theorem d_MD_body_102 : decode M_MD_body.2.1 102 = .ok (.iconst (4), 1) := by decide +kernel
theorem d_MD_body_103 : decode M_MD_body.2.1 103 = .ok (.iload_n 3, 1) := by decide +kernel
theorem d_MD_body_104 : decode M_MD_body.2.1 104 = .ok (.imul, 1) := by decide +kernel
theorem d_MD_body_105 : decode M_MD_body.2.1 105 = .ok (.iconst (2), 1) := by decide +kernel
theorem d_MD_body_106 : decode M_MD_body.2.1 106 = .ok (.iadd, 1) := by decide +kernel
theorem d_MD_body_107 : decode M_MD_body.2.1 107 = .ok (.iaload, 1) := by decide +kernel
theorem d_MD_body_108 : decode M_MD_body.2.1 108 = .ok (.aload_n 0, 1) := by decide +kernel
theorem d_MD_body_109 : decode M_MD_body.2.1 109 = .ok (.getfield 30, 3) := by decide +kernel
theorem d_MD_body_112 : decode M_MD_body.2.1 112 = .ok (.iconst (4), 1) := by decide +kernel
theorem d_MD_body_113 : decode M_MD_body.2.1 113 = .ok (.iload_n 3, 1) := by decide +kernel
theorem d_MD_body_114 : decode M_MD_body.2.1 114 = .ok (.imul, 1) := by decide +kernel
theorem d_MD_body_115 : decode M_MD_body.2.1 115 = .ok (.iconst (3), 1) := by decide +kernel
theorem d_MD_body_116 : decode M_MD_body.2.1 116 = .ok (.iadd, 1) := by decide +kernel
theorem d_MD_body_117 : decode M_MD_body.2.1 117 = .ok (.iaload, 1) := by decide +kernel
theorem d_MD_body_118 : decode M_MD_body.2.1 118 = .ok (.invokevirtual 94, 3) := by decide +kernel
theorem d_MD_body_121 : decode M_MD_body.2.1 121 = .ok (.aload_n 0, 1) := by decide +kernel
theorem d_MD_body_122 : decode M_MD_body.2.1 122 = .ok (.getfield 40, 3) := by decide +kernel
theorem d_MD_body_125 : decode M_MD_body.2.1 125 = .ok (.iconst (0), 1) := by decide +kernel
theorem d_MD_body_126 : decode M_MD_body.2.1 126 = .ok (.aload_n 0, 1) := by decide +kernel
theorem d_MD_body_127 : decode M_MD_body.2.1 127 = .ok (.getfield 40, 3) := by decide +kernel
theorem d_MD_body_130 : decode M_MD_body.2.1 130 = .ok (.iconst (0), 1) := by decide +kernel
theorem d_MD_body_131 : decode M_MD_body.2.1 131 = .ok (.iaload, 1) := by decide +kernel
theorem d_MD_body_132 : decode M_MD_body.2.1 132 = .ok (.ldc 49, 2) := by decide +kernel
theorem d_MD_body_134 : decode M_MD_body.2.1 134 = .ok (.if_icmp .ne (7), 3) := by decide +kernel
theorem d_MD_body_137 : decode M_MD_body.2.1 137 = .ok (.iconst (0), 1) := by decide +kernel
theorem d_MD_body_138 : decode M_MD_body.2.1 138 = .ok (.goto (9), 3) := by decide +kernel
theorem d_MD_body_141 : decode M_MD_body.2.1 141 = .ok (.aload_n 0, 1) := by decide +kernel
theorem d_MD_body_142 : decode M_MD_body.2.1 142 = .ok (.getfield 40, 3) := by decide +kernel
theorem d_MD_body_145 : decode M_MD_body.2.1 145 = .ok (.iconst (0), 1) := by decide +kernel
theorem d_MD_body_146 : decode M_MD_body.2.1 146 = .ok (.iaload, 1) := by decide +kernel
theorem d_MD_body_147 : decode M_MD_body.2.1 147 = .ok (.iastore, 1) := by decide +kernel
theorem d_MD_body_148 : decode M_MD_body.2.1 148 = .ok (.return_, 1) := by decide +kernel
theorem d_MD_sum_0 : decode M_MD_sum.2.1 0 = .ok (.aload_n 0, 1) := by decide +kernel
theorem d_MD_sum_1 : decode M_MD_sum.2.1 1 = .ok (.getfield 23, 3) := by decide +kernel
theorem d_MD_sum_4 : decode M_MD_sum.2.1 4 = .ok (.istore_n 2, 1) := by decide +kernel
theorem d_MD_sum_5 : decode M_MD_sum.2.1 5 = .ok (.iconst (0), 1) := by decide +kernel
theorem d_MD_sum_6 : decode M_MD_sum.2.1 6 = .ok (.istore_n 3, 1) := by decide +kernel
theorem d_MD_sum_7 : decode M_MD_sum.2.1 7 = .ok (.iload_n 3, 1) := by decide +kernel
theorem d_MD_sum_8 : decode M_MD_sum.2.1 8 = .ok (.iload_n 1, 1) := by decide +kernel
theorem d_MD_sum_9 : decode M_MD_sum.2.1 9 = .ok (.if_icmp .ge (41), 3) := by decide +kernel
theorem d_MD_sum_12 : decode M_MD_sum.2.1 12 = .ok (.aload_n 0, 1) := by decide +kernel
theorem d_MD_sum_13 : decode M_MD_sum.2.1 13 = .ok (.iload_n 3, 1) := by decide +kernel
theorem d_MD_sum_14 : decode M_MD_sum.2.1 14 = .ok (.invokevirtual 101, 3) := by decide +kernel
theorem d_MD_sum_17 : decode M_MD_sum.2.1 17 = .ok (.iconst (0), 1) := by decide +kernel
theorem d_MD_sum_18 : decode M_MD_sum.2.1 18 = .ok (.istore 4, 2) := by decide +kernel
theorem d_MD_sum_20 : decode M_MD_sum.2.1 20 = .ok (.iload 4, 2) := by decide +kernel
theorem d_MD_sum_22 : decode M_MD_sum.2.1 22 = .ok (.iconst (4), 1) := by decide +kernel
theorem d_MD_sum_23 : decode M_MD_sum.2.1 23 = .ok (.if_icmp .ge (21), 3) := by decide +kernel
theorem d_MD_sum_26 : decode M_MD_sum.2.1 26 = .ok (.iload_n 2, 1) := by decide +kernel
theorem d_MD_sum_27 : decode M_MD_sum.2.1 27 = .ok (.aload_n 0, 1) := by decide +kernel
theorem d_MD_sum_28 : decode M_MD_sum.2.1 28 = .ok (.getfield 40, 3) := by decide +kernel
theorem d_MD_sum_31 : decode M_MD_sum.2.1 31 = .ok (.iload 4, 2) := by decide +kernel
theorem d_MD_sum_33 : decode M_MD_sum.2.1 33 = .ok (.iaload, 1) := by decide +kernel
theorem d_MD_sum_34 : decode M_MD_sum.2.1 34 = .ok (.invokestatic 104, 3) := by decide +kernel
theorem d_MD_sum_37 : decode M_MD_sum.2.1 37 = .ok (.istore_n 2, 1) := by decide +kernel
theorem d_MD_sum_38 : decode M_MD_sum.2.1 38 = .ok (.iinc 4 (1), 3) := by decide +kernel
theorem d_MD_sum_41 : decode M_MD_sum.2.1 41 = .ok (.goto (-21), 3) := by decide +kernel
theorem d_MD_sum_44 : decode M_MD_sum.2.1 44 = .ok (.iinc 3 (1), 3) := by decide +kernel
theorem d_MD_sum_47 : decode M_MD_sum.2.1 47 = .ok (.goto (-40), 3) := by decide +kernel
theorem d_MD_sum_50 : decode M_MD_sum.2.1 50 = .ok (.iload_n 2, 1) := by decide +kernel
theorem d_MD_sum_51 : decode M_MD_sum.2.1 51 = .ok (.ireturn, 1) := by decide +kernel
theorem d_MD_mix_0 : decode M_MD_mix.2.1 0 = .ok (.iload_n 0, 1) := by decide +kernel
theorem d_MD_mix_1 : decode M_MD_mix.2.1 1 = .ok (.iload_n 1, 1) := by decide +kernel
theorem d_MD_mix_2 : decode M_MD_mix.2.1 2 = .ok (.ixor, 1) := by decide +kernel
theorem d_MD_mix_3 : decode M_MD_mix.2.1 3 = .ok (.ldc 57, 2) := by decide +kernel
theorem d_MD_mix_5 : decode M_MD_mix.2.1 5 = .ok (.imul, 1) := by decide +kernel
theorem d_MD_mix_6 : decode M_MD_mix.2.1 6 = .ok (.bipush (7), 2) := by decide +kernel
theorem d_MD_mix_8 : decode M_MD_mix.2.1 8 = .ok (.iadd, 1) := by decide +kernel
theorem d_MD_mix_9 : decode M_MD_mix.2.1 9 = .ok (.istore_n 2, 1) := by decide +kernel
theorem d_MD_mix_10 : decode M_MD_mix.2.1 10 = .ok (.iload_n 2, 1) := by decide +kernel
theorem d_MD_mix_11 : decode M_MD_mix.2.1 11 = .ok (.iload_n 2, 1) := by decide +kernel
theorem d_MD_mix_12 : decode M_MD_mix.2.1 12 = .ok (.bipush (15), 2) := by decide +kernel
theorem d_MD_mix_14 : decode M_MD_mix.2.1 14 = .ok (.iushr, 1) := by decide +kernel
theorem d_MD_mix_15 : decode M_MD_mix.2.1 15 = .ok (.ixor, 1) := by decide +kernel
theorem d_MD_mix_16 : decode M_MD_mix.2.1 16 = .ok (.ireturn, 1) := by decide +kernel
theorem d_MD_commit_0 : decode M_MD_commit.2.1 0 = .ok (.aload_n 0, 1) := by decide +kernel
theorem d_MD_commit_1 : decode M_MD_commit.2.1 1 = .ok (.invokevirtual 72, 3) := by decide +kernel
theorem d_MD_commit_4 : decode M_MD_commit.2.1 4 = .ok (.ifCond .eq (13), 3) := by decide +kernel
theorem d_MD_commit_7 : decode M_MD_commit.2.1 7 = .ok (.aload_n 0, 1) := by decide +kernel
theorem d_MD_commit_8 : decode M_MD_commit.2.1 8 = .ok (.iconst (0), 1) := by decide +kernel
theorem d_MD_commit_9 : decode M_MD_commit.2.1 9 = .ok (.invokevirtual 76, 3) := by decide +kernel
theorem d_MD_commit_12 : decode M_MD_commit.2.1 12 = .ok (.bipush (16), 2) := by decide +kernel
theorem d_MD_commit_14 : decode M_MD_commit.2.1 14 = .ok (.if_icmp .ne (5), 3) := by decide +kernel
theorem d_MD_commit_17 : decode M_MD_commit.2.1 17 = .ok (.iconst (-1), 1) := by decide +kernel
theorem d_MD_commit_18 : decode M_MD_commit.2.1 18 = .ok (.ireturn, 1) := by decide +kernel
