theorem d_RS_mix_0 : decode M_RS_mix.2.1 0 = .ok (.iload_n 0, 1) := by decide +kernel
theorem d_RS_mix_1 : decode M_RS_mix.2.1 1 = .ok (.iload_n 1, 1) := by decide +kernel
theorem d_RS_mix_2 : decode M_RS_mix.2.1 2 = .ok (.ixor, 1) := by decide +kernel
theorem d_RS_mix_3 : decode M_RS_mix.2.1 3 = .ok (.ldc 191, 2) := by decide +kernel
theorem d_RS_mix_5 : decode M_RS_mix.2.1 5 = .ok (.imul, 1) := by decide +kernel
theorem d_RS_mix_6 : decode M_RS_mix.2.1 6 = .ok (.bipush (7), 2) := by decide +kernel
theorem d_RS_mix_8 : decode M_RS_mix.2.1 8 = .ok (.iadd, 1) := by decide +kernel
theorem d_RS_mix_9 : decode M_RS_mix.2.1 9 = .ok (.istore_n 2, 1) := by decide +kernel
theorem d_RS_mix_10 : decode M_RS_mix.2.1 10 = .ok (.iload_n 2, 1) := by decide +kernel
theorem d_RS_mix_11 : decode M_RS_mix.2.1 11 = .ok (.iload_n 2, 1) := by decide +kernel
theorem d_RS_mix_12 : decode M_RS_mix.2.1 12 = .ok (.bipush (15), 2) := by decide +kernel
theorem d_RS_mix_14 : decode M_RS_mix.2.1 14 = .ok (.iushr, 1) := by decide +kernel
theorem d_RS_mix_15 : decode M_RS_mix.2.1 15 = .ok (.ixor, 1) := by decide +kernel
theorem d_RS_mix_16 : decode M_RS_mix.2.1 16 = .ok (.ireturn, 1) := by decide +kernel
theorem d_RS_logSector_0 : decode M_RS_logSector.2.1 0 = .ok (.bipush (17), 2) := by decide +kernel
theorem d_RS_logSector_2 : decode M_RS_logSector.2.1 2 = .ok (.iload_n 0, 1) := by decide +kernel
theorem d_RS_logSector_3 : decode M_RS_logSector.2.1 3 = .ok (.bipush (24), 2) := by decide +kernel
theorem d_RS_logSector_5 : decode M_RS_logSector.2.1 5 = .ok (.irem, 1) := by decide +kernel
theorem d_RS_logSector_6 : decode M_RS_logSector.2.1 6 = .ok (.iadd, 1) := by decide +kernel
theorem d_RS_logSector_7 : decode M_RS_logSector.2.1 7 = .ok (.ireturn, 1) := by decide +kernel
theorem d_RS_put_0 : decode M_RS_put.2.1 0 = .ok (.aload_n 0, 1) := by decide +kernel
theorem d_RS_put_1 : decode M_RS_put.2.1 1 = .ok (.invokevirtual 51, 3) := by decide +kernel
theorem d_RS_put_4 : decode M_RS_put.2.1 4 = .ok (.ifCond .eq (11), 3) := by decide +kernel
theorem d_RS_put_7 : decode M_RS_put.2.1 7 = .ok (.iload_n 1, 1) := by decide +kernel
theorem d_RS_put_8 : decode M_RS_put.2.1 8 = .ok (.iload_n 2, 1) := by decide +kernel
theorem d_RS_put_9 : decode M_RS_put.2.1 9 = .ok (.invokestatic 55, 3) := by decide +kernel
theorem d_RS_put_12 : decode M_RS_put.2.1 12 = .ok (.ifCond .ne (5), 3) := by decide +kernel
theorem d_RS_put_15 : decode M_RS_put.2.1 15 = .ok (.iconst (0), 1) := by decide +kernel
theorem d_RS_put_16 : decode M_RS_put.2.1 16 = .ok (.ireturn, 1) := by decide +kernel
theorem d_RS_put_17 : decode M_RS_put.2.1 17 = .ok (.aload_n 0, 1) := by decide +kernel
theorem d_RS_put_18 : decode M_RS_put.2.1 18 = .ok (.getfield 19, 3) := by decide +kernel
theorem d_RS_put_21 : decode M_RS_put.2.1 21 = .ok (.iload_n 1, 1) := by decide +kernel
theorem d_RS_put_22 : decode M_RS_put.2.1 22 = .ok (.invokevirtual 59, 3) := by decide +kernel
theorem d_RS_put_25 : decode M_RS_put.2.1 25 = .ok (.ifCond .ne (22), 3) := by decide +kernel
theorem d_RS_put_28 : decode M_RS_put.2.1 28 = .ok (.aload_n 0, 1) := by decide +kernel
theorem d_RS_put_29 : decode M_RS_put.2.1 29 = .ok (.getfield 19, 3) := by decide +kernel
theorem d_RS_put_32 : decode M_RS_put.2.1 32 = .ok (.invokevirtual 63, 3) := by decide +kernel
theorem d_RS_put_35 : decode M_RS_put.2.1 35 = .ok (.bipush (8), 2) := by decide +kernel
theorem d_RS_put_37 : decode M_RS_put.2.1 37 = .ok (.if_icmp .lt (5), 3) := by decide +kernel
theorem d_RS_put_40 : decode M_RS_put.2.1 40 = .ok (.iconst (0), 1) := by decide +kernel
theorem d_RS_put_41 : decode M_RS_put.2.1 41 = .ok (.ireturn, 1) := by decide +kernel
theorem d_RS_put_42 : decode M_RS_put.2.1 42 = .ok (.aload_n 0, 1) := by decide +kernel
theorem d_RS_put_43 : decode M_RS_put.2.1 43 = .ok (.iload_n 1, 1) := by decide +kernel
theorem d_RS_put_44 : decode M_RS_put.2.1 44 = .ok (.invokevirtual 67, 3) := by decide +kernel
theorem d_RS_put_47 : decode M_RS_put.2.1 47 = .ok (.aload_n 0, 1) := by decide +kernel
theorem d_RS_put_48 : decode M_RS_put.2.1 48 = .ok (.getfield 19, 3) := by decide +kernel
theorem d_RS_put_51 : decode M_RS_put.2.1 51 = .ok (.iload_n 1, 1) := by decide +kernel
theorem d_RS_put_52 : decode M_RS_put.2.1 52 = .ok (.iload_n 2, 1) := by decide +kernel
theorem d_RS_put_53 : decode M_RS_put.2.1 53 = .ok (.iload_n 3, 1) := by decide +kernel
theorem d_RS_put_54 : decode M_RS_put.2.1 54 = .ok (.invokevirtual 71, 3) := by decide +kernel
theorem d_RS_put_57 : decode M_RS_put.2.1 57 = .ok (.iconst (1), 1) := by decide +kernel
theorem d_RS_put_58 : decode M_RS_put.2.1 58 = .ok (.ireturn, 1) := by decide +kernel
theorem d_RS_isIdle_0 : decode M_RS_isIdle.2.1 0 = .ok (.aload_n 0, 1) := by decide +kernel
theorem d_RS_isIdle_1 : decode M_RS_isIdle.2.1 1 = .ok (.getfield 127, 3) := by decide +kernel
theorem d_RS_isIdle_4 : decode M_RS_isIdle.2.1 4 = .ok (.ifCond .eq (17), 3) := by decide +kernel
theorem d_RS_isIdle_7 : decode M_RS_isIdle.2.1 7 = .ok (.aload_n 0, 1) := by decide +kernel
theorem d_RS_isIdle_8 : decode M_RS_isIdle.2.1 8 = .ok (.getfield 43, 3) := by decide +kernel
theorem d_RS_isIdle_11 : decode M_RS_isIdle.2.1 11 = .ok (.invokevirtual 131, 3) := by decide +kernel
theorem d_RS_isIdle_14 : decode M_RS_isIdle.2.1 14 = .ok (.ifCond .ne (7), 3) := by decide +kernel
theorem d_RS_isIdle_17 : decode M_RS_isIdle.2.1 17 = .ok (.iconst (1), 1) := by decide +kernel
theorem d_RS_isIdle_18 : decode M_RS_isIdle.2.1 18 = .ok (.goto (4), 3) := by decide +kernel
theorem d_RS_isIdle_21 : decode M_RS_isIdle.2.1 21 = .ok (.iconst (0), 1) := by decide +kernel
theorem d_RS_isIdle_22 : decode M_RS_isIdle.2.1 22 = .ok (.ireturn, 1) := by decide +kernel
theorem d_RS_isBlockWord_0 : decode M_RS_isBlockWord.2.1 0 = .ok (.iload_n 0, 1) := by decide +kernel
theorem d_RS_isBlockWord_1 : decode M_RS_isBlockWord.2.1 1 = .ok (.invokestatic 75, 3) := by decide +kernel
theorem d_RS_isBlockWord_4 : decode M_RS_isBlockWord.2.1 4 = .ok (.ifCond .eq (16), 3) := by decide +kernel
theorem d_RS_isBlockWord_7 : decode M_RS_isBlockWord.2.1 7 = .ok (.iload_n 1, 1) := by decide +kernel
theorem d_RS_isBlockWord_8 : decode M_RS_isBlockWord.2.1 8 = .ok (.ifCond .lt (12), 3) := by decide +kernel
theorem d_RS_isBlockWord_11 : decode M_RS_isBlockWord.2.1 11 = .ok (.iload_n 1, 1) := by decide +kernel
theorem d_RS_isBlockWord_12 : decode M_RS_isBlockWord.2.1 12 = .ok (.iconst (4), 1) := by decide +kernel
theorem d_RS_isBlockWord_13 : decode M_RS_isBlockWord.2.1 13 = .ok (.if_icmp .ge (7), 3) := by decide +kernel
theorem d_RS_isBlockWord_16 : decode M_RS_isBlockWord.2.1 16 = .ok (.iconst (1), 1) := by decide +kernel
theorem d_RS_isBlockWord_17 : decode M_RS_isBlockWord.2.1 17 = .ok (.goto (4), 3) := by decide +kernel
theorem d_RS_isBlockWord_20 : decode M_RS_isBlockWord.2.1 20 = .ok (.iconst (0), 1) := by decide +kernel
theorem d_RS_isBlockWord_21 : decode M_RS_isBlockWord.2.1 21 = .ok (.ireturn, 1) := by decide +kernel
theorem d_RS_isBlock_0 : decode M_RS_isBlock.2.1 0 = .ok (.iload_n 0, 1) := by decide +kernel
theorem d_RS_isBlock_1 : decode M_RS_isBlock.2.1 1 = .ok (.ifCond .lt (13), 3) := by decide +kernel
theorem d_RS_isBlock_4 : decode M_RS_isBlock.2.1 4 = .ok (.iload_n 0, 1) := by decide +kernel
theorem d_RS_isBlock_5 : decode M_RS_isBlock.2.1 5 = .ok (.bipush (16), 2) := by decide +kernel
theorem d_RS_isBlock_7 : decode M_RS_isBlock.2.1 7 = .ok (.if_icmp .ge (7), 3) := by decide +kernel
theorem d_RS_isBlock_10 : decode M_RS_isBlock.2.1 10 = .ok (.iconst (1), 1) := by decide +kernel
theorem d_RS_isBlock_11 : decode M_RS_isBlock.2.1 11 = .ok (.goto (4), 3) := by decide +kernel
theorem d_RS_isBlock_14 : decode M_RS_isBlock.2.1 14 = .ok (.iconst (0), 1) := by decide +kernel
theorem d_RS_isBlock_15 : decode M_RS_isBlock.2.1 15 = .ok (.ireturn, 1) := by decide +kernel
theorem d_RS_revoke_0 : decode M_RS_revoke.2.1 0 = .ok (.aload_n 0, 1) := by decide +kernel
theorem d_RS_revoke_1 : decode M_RS_revoke.2.1 1 = .ok (.invokevirtual 51, 3) := by decide +kernel
theorem d_RS_revoke_4 : decode M_RS_revoke.2.1 4 = .ok (.ifCond .eq (10), 3) := by decide +kernel
theorem d_RS_revoke_7 : decode M_RS_revoke.2.1 7 = .ok (.iload_n 1, 1) := by decide +kernel
theorem d_RS_revoke_8 : decode M_RS_revoke.2.1 8 = .ok (.invokestatic 75, 3) := by decide +kernel
theorem d_RS_revoke_11 : decode M_RS_revoke.2.1 11 = .ok (.ifCond .ne (5), 3) := by decide +kernel
theorem d_RS_revoke_14 : decode M_RS_revoke.2.1 14 = .ok (.iconst (0), 1) := by decide +kernel
theorem d_RS_revoke_15 : decode M_RS_revoke.2.1 15 = .ok (.ireturn, 1) := by decide +kernel
theorem d_RS_revoke_16 : decode M_RS_revoke.2.1 16 = .ok (.aload_n 0, 1) := by decide +kernel
theorem d_RS_revoke_17 : decode M_RS_revoke.2.1 17 = .ok (.getfield 19, 3) := by decide +kernel
theorem d_RS_revoke_20 : decode M_RS_revoke.2.1 20 = .ok (.iload_n 1, 1) := by decide +kernel
theorem d_RS_revoke_21 : decode M_RS_revoke.2.1 21 = .ok (.invokevirtual 78, 3) := by decide +kernel
theorem d_RS_revoke_24 : decode M_RS_revoke.2.1 24 = .ok (.aload_n 0, 1) := by decide +kernel
theorem d_RS_revoke_25 : decode M_RS_revoke.2.1 25 = .ok (.dup, 1) := by decide +kernel
theorem d_RS_revoke_26 : decode M_RS_revoke.2.1 26 = .ok (.getfield 81, 3) := by decide +kernel
theorem d_RS_revoke_29 : decode M_RS_revoke.2.1 29 = .ok (.iconst (1), 1) := by decide +kernel
theorem d_RS_revoke_30 : decode M_RS_revoke.2.1 30 = .ok (.iload_n 1, 1) := by decide +kernel
theorem d_RS_revoke_31 : decode M_RS_revoke.2.1 31 = .ok (.ishl, 1) := by decide +kernel
theorem d_RS_revoke_32 : decode M_RS_revoke.2.1 32 = .ok (.ior, 1) := by decide +kernel
theorem d_RS_revoke_33 : decode M_RS_revoke.2.1 33 = .ok (.putfield 81, 3) := by decide +kernel
theorem d_RS_revoke_36 : decode M_RS_revoke.2.1 36 = .ok (.iconst (1), 1) := by decide +kernel
theorem d_RS_revoke_37 : decode M_RS_revoke.2.1 37 = .ok (.ireturn, 1) := by decide +kernel
theorem d_RS_direct_0 : decode M_RS_direct.2.1 0 = .ok (.aload_n 0, 1) := by decide +kernel
theorem d_RS_direct_1 : decode M_RS_direct.2.1 1 = .ok (.invokevirtual 51, 3) := by decide +kernel
theorem d_RS_direct_4 : decode M_RS_direct.2.1 4 = .ok (.ifCond .eq (45), 3) := by decide +kernel
theorem d_RS_direct_7 : decode M_RS_direct.2.1 7 = .ok (.iload_n 1, 1) := by decide +kernel
theorem d_RS_direct_8 : decode M_RS_direct.2.1 8 = .ok (.iload_n 2, 1) := by decide +kernel
theorem d_RS_direct_9 : decode M_RS_direct.2.1 9 = .ok (.invokestatic 55, 3) := by decide +kernel
theorem d_RS_direct_12 : decode M_RS_direct.2.1 12 = .ok (.ifCond .eq (37), 3) := by decide +kernel
theorem d_RS_direct_15 : decode M_RS_direct.2.1 15 = .ok (.aload_n 0, 1) := by decide +kernel
theorem d_RS_direct_16 : decode M_RS_direct.2.1 16 = .ok (.getfield 19, 3) := by decide +kernel
theorem d_RS_direct_19 : decode M_RS_direct.2.1 19 = .ok (.iload_n 1, 1) := by decide +kernel
theorem d_RS_direct_20 : decode M_RS_direct.2.1 20 = .ok (.invokevirtual 59, 3) := by decide +kernel
theorem d_RS_direct_23 : decode M_RS_direct.2.1 23 = .ok (.ifCond .ne (26), 3) := by decide +kernel
theorem d_RS_direct_26 : decode M_RS_direct.2.1 26 = .ok (.aload_n 0, 1) := by decide +kernel
theorem d_RS_direct_27 : decode M_RS_direct.2.1 27 = .ok (.getfield 23, 3) := by decide +kernel
theorem d_RS_direct_30 : decode M_RS_direct.2.1 30 = .ok (.iload_n 1, 1) := by decide +kernel
theorem d_RS_direct_31 : decode M_RS_direct.2.1 31 = .ok (.invokevirtual 59, 3) := by decide +kernel
theorem d_RS_direct_34 : decode M_RS_direct.2.1 34 = .ok (.ifCond .ne (15), 3) := by decide +kernel
theorem d_RS_direct_37 : decode M_RS_direct.2.1 37 = .ok (.aload_n 0, 1) := by decide +kernel
theorem d_RS_direct_38 : decode M_RS_direct.2.1 38 = .ok (.getfield 12, 3) := by decide +kernel
theorem d_RS_direct_41 : decode M_RS_direct.2.1 41 = .ok (.invokevirtual 85, 3) := by decide +kernel
theorem d_RS_direct_44 : decode M_RS_direct.2.1 44 = .ok (.bipush (12), 2) := by decide +kernel
theorem d_RS_direct_46 : decode M_RS_direct.2.1 46 = .ok (.if_icmp .lt (5), 3) := by decide +kernel
theorem d_RS_direct_49 : decode M_RS_direct.2.1 49 = .ok (.iconst (0), 1) := by decide +kernel
theorem d_RS_direct_50 : decode M_RS_direct.2.1 50 = .ok (.ireturn, 1) := by decide +kernel
theorem d_RS_direct_51 : decode M_RS_direct.2.1 51 = .ok (.aload_n 0, 1) := by decide +kernel
theorem d_RS_direct_52 : decode M_RS_direct.2.1 52 = .ok (.getfield 12, 3) := by decide +kernel
theorem d_RS_direct_55 : decode M_RS_direct.2.1 55 = .ok (.iload_n 1, 1) := by decide +kernel
theorem d_RS_direct_56 : decode M_RS_direct.2.1 56 = .ok (.iload_n 2, 1) := by decide +kernel
theorem d_RS_direct_57 : decode M_RS_direct.2.1 57 = .ok (.iload_n 3, 1) := by decide +kernel
theorem d_RS_direct_58 : decode M_RS_direct.2.1 58 = .ok (.invokevirtual 88, 3) := by decide +kernel
theorem d_RS_direct_61 : decode M_RS_direct.2.1 61 = .ok (.iconst (1), 1) := by decide +kernel
theorem d_RS_direct_62 : decode M_RS_direct.2.1 62 = .ok (.ireturn, 1) := by decide +kernel
theorem d_RS_commit_0 : decode M_RS_commit.2.1 0 = .ok (.aload_n 0, 1) := by decide +kernel
theorem d_RS_commit_1 : decode M_RS_commit.2.1 1 = .ok (.invokevirtual 51, 3) := by decide +kernel
theorem d_RS_commit_4 : decode M_RS_commit.2.1 4 = .ok (.ifCond .eq (20), 3) := by decide +kernel
theorem d_RS_commit_7 : decode M_RS_commit.2.1 7 = .ok (.aload_n 0, 1) := by decide +kernel
theorem d_RS_commit_8 : decode M_RS_commit.2.1 8 = .ok (.getfield 19, 3) := by decide +kernel
theorem d_RS_commit_11 : decode M_RS_commit.2.1 11 = .ok (.invokevirtual 63, 3) := by decide +kernel
theorem d_RS_commit_14 : decode M_RS_commit.2.1 14 = .ok (.ifCond .ne (12), 3) := by decide +kernel
theorem d_RS_commit_17 : decode M_RS_commit.2.1 17 = .ok (.aload_n 0, 1) := by decide +kernel
theorem d_RS_commit_18 : decode M_RS_commit.2.1 18 = .ok (.getfield 81, 3) := by decide +kernel
theorem d_RS_commit_21 : decode M_RS_commit.2.1 21 = .ok (.ifCond .ne (5), 3) := by decide +kernel
theorem d_RS_commit_24 : decode M_RS_commit.2.1 24 = .ok (.iconst (-1), 1) := by decide +kernel
theorem d_RS_commit_25 : decode M_RS_commit.2.1 25 = .ok (.ireturn, 1) := by decide +kernel
theorem d_RS_commit_26 : decode M_RS_commit.2.1 26 = .ok (.aload_n 0, 1) := by decide +kernel
theorem d_RS_commit_27 : decode M_RS_commit.2.1 27 = .ok (.getfield 29, 3) := by decide +kernel
theorem d_RS_commit_30 : decode M_RS_commit.2.1 30 = .ok (.aload_n 0, 1) := by decide +kernel
theorem d_RS_commit_31 : decode M_RS_commit.2.1 31 = .ok (.getfield 19, 3) := by decide +kernel
theorem d_RS_commit_34 : decode M_RS_commit.2.1 34 = .ok (.aload_n 0, 1) := by decide +kernel
theorem d_RS_commit_35 : decode M_RS_commit.2.1 35 = .ok (.getfield 81, 3) := by decide +kernel
theorem d_RS_commit_38 : decode M_RS_commit.2.1 38 = .ok (.aload_n 0, 1) := by decide +kernel
theorem d_RS_commit_39 : decode M_RS_commit.2.1 39 = .ok (.getfield 91, 3) := by decide +kernel
theorem d_RS_commit_42 : decode M_RS_commit.2.1 42 = .ok (.invokevirtual 94, 3) := by decide +kernel
theorem d_RS_commit_45 : decode M_RS_commit.2.1 45 = .ok (.aload_n 0, 1) := by decide +kernel
theorem d_RS_commit_46 : decode M_RS_commit.2.1 46 = .ok (.getfield 98, 3) := by decide +kernel
theorem d_RS_commit_49 : decode M_RS_commit.2.1 49 = .ok (.aload_n 0, 1) := by decide +kernel
theorem d_RS_commit_50 : decode M_RS_commit.2.1 50 = .ok (.getfield 29, 3) := by decide +kernel
theorem d_RS_commit_53 : decode M_RS_commit.2.1 53 = .ok (.invokevirtual 101, 3) := by decide +kernel
theorem d_RS_commit_56 : decode M_RS_commit.2.1 56 = .ok (.iadd, 1) := by decide +kernel
theorem d_RS_commit_57 : decode M_RS_commit.2.1 57 = .ok (.bipush (23), 2) := by decide +kernel
theorem d_RS_commit_59 : decode M_RS_commit.2.1 59 = .ok (.if_icmp .le (6), 3) := by decide +kernel
theorem d_RS_commit_62 : decode M_RS_commit.2.1 62 = .ok (.bipush (-2), 2) := by decide +kernel
theorem d_RS_commit_64 : decode M_RS_commit.2.1 64 = .ok (.ireturn, 1) := by decide +kernel
theorem d_RS_commit_65 : decode M_RS_commit.2.1 65 = .ok (.aload_n 0, 1) := by decide +kernel
theorem d_RS_commit_66 : decode M_RS_commit.2.1 66 = .ok (.getfield 43, 3) := by decide +kernel
theorem d_RS_commit_69 : decode M_RS_commit.2.1 69 = .ok (.iconst (2), 1) := by decide +kernel
theorem d_RS_commit_70 : decode M_RS_commit.2.1 70 = .ok (.invokevirtual 104, 3) := by decide +kernel
theorem d_RS_commit_73 : decode M_RS_commit.2.1 73 = .ok (.aload_n 0, 1) := by decide +kernel
theorem d_RS_commit_74 : decode M_RS_commit.2.1 74 = .ok (.getfield 29, 3) := by decide +kernel
theorem d_RS_commit_77 : decode M_RS_commit.2.1 77 = .ok (.invokevirtual 101, 3) := by decide +kernel
theorem d_RS_commit_80 : decode M_RS_commit.2.1 80 = .ok (.iconst (1), 1) := by decide +kernel
theorem d_RS_commit_81 : decode M_RS_commit.2.1 81 = .ok (.isub, 1) := by decide +kernel
theorem d_RS_commit_82 : decode M_RS_commit.2.1 82 = .ok (.istore_n 1, 1) := by decide +kernel
theorem d_RS_commit_83 : decode M_RS_commit.2.1 83 = .ok (.iconst (0), 1) := by decide +kernel
theorem d_RS_commit_84 : decode M_RS_commit.2.1 84 = .ok (.istore_n 2, 1) := by decide +kernel
theorem d_RS_commit_85 : decode M_RS_commit.2.1 85 = .ok (.iload_n 2, 1) := by decide +kernel
theorem d_RS_commit_86 : decode M_RS_commit.2.1 86 = .ok (.iload_n 1, 1) := by decide +kernel
theorem d_RS_commit_87 : decode M_RS_commit.2.1 87 = .ok (.if_icmp .ge (14), 3) := by decide +kernel
theorem d_RS_commit_90 : decode M_RS_commit.2.1 90 = .ok (.aload_n 0, 1) := by decide +kernel
theorem d_RS_commit_91 : decode M_RS_commit.2.1 91 = .ok (.iload_n 2, 1) := by decide +kernel
theorem d_RS_commit_92 : decode M_RS_commit.2.1 92 = .ok (.invokevirtual 107, 3) := by decide +kernel
theorem d_RS_commit_95 : decode M_RS_commit.2.1 95 = .ok (.iinc 2 (1), 3) := by decide +kernel
theorem d_RS_commit_98 : decode M_RS_commit.2.1 98 = .ok (.goto (-13), 3) := by decide +kernel
theorem d_RS_commit_101 : decode M_RS_commit.2.1 101 = .ok (.aload_n 0, 1) := by decide +kernel
theorem d_RS_commit_102 : decode M_RS_commit.2.1 102 = .ok (.getfield 43, 3) := by decide +kernel
theorem d_RS_commit_105 : decode M_RS_commit.2.1 105 = .ok (.invokevirtual 110, 3) := by decide +kernel
theorem d_RS_commit_108 : decode M_RS_commit.2.1 108 = .ok (.aload_n 0, 1) := by decide +kernel
theorem d_RS_commit_109 : decode M_RS_commit.2.1 109 = .ok (.iload_n 1, 1) := by decide +kernel
theorem d_RS_commit_110 : decode M_RS_commit.2.1 110 = .ok (.invokevirtual 107, 3) := by decide +kernel
theorem d_RS_commit_113 : decode M_RS_commit.2.1 113 = .ok (.aload_n 0, 1) := by decide +kernel
theorem d_RS_commit_114 : decode M_RS_commit.2.1 114 = .ok (.getfield 43, 3) := by decide +kernel
theorem d_RS_commit_117 : decode M_RS_commit.2.1 117 = .ok (.invokevirtual 110, 3) := by decide +kernel
theorem d_RS_commit_120 : decode M_RS_commit.2.1 120 = .ok (.aload_n 0, 1) := by decide +kernel
theorem d_RS_commit_121 : decode M_RS_commit.2.1 121 = .ok (.getfield 29, 3) := by decide +kernel
theorem d_RS_commit_124 : decode M_RS_commit.2.1 124 = .ok (.invokevirtual 101, 3) := by decide +kernel
theorem d_RS_commit_127 : decode M_RS_commit.2.1 127 = .ok (.ireturn, 1) := by decide +kernel
theorem d_RS_checkpoint_0 : decode M_RS_checkpoint.2.1 0 = .ok (.aload_n 0, 1) := by decide +kernel
theorem d_RS_checkpoint_1 : decode M_RS_checkpoint.2.1 1 = .ok (.invokevirtual 51, 3) := by decide +kernel
theorem d_RS_checkpoint_4 : decode M_RS_checkpoint.2.1 4 = .ok (.ifCond .ne (5), 3) := by decide +kernel
theorem d_RS_checkpoint_7 : decode M_RS_checkpoint.2.1 7 = .ok (.iconst (-1), 1) := by decide +kernel
theorem d_RS_checkpoint_8 : decode M_RS_checkpoint.2.1 8 = .ok (.ireturn, 1) := by decide +kernel
theorem d_RS_checkpoint_9 : decode M_RS_checkpoint.2.1 9 = .ok (.aload_n 0, 1) := by decide +kernel
theorem d_RS_checkpoint_10 : decode M_RS_checkpoint.2.1 10 = .ok (.getfield 43, 3) := by decide +kernel
theorem d_RS_checkpoint_13 : decode M_RS_checkpoint.2.1 13 = .ok (.iconst (3), 1) := by decide +kernel
theorem d_RS_checkpoint_14 : decode M_RS_checkpoint.2.1 14 = .ok (.invokevirtual 104, 3) := by decide +kernel
theorem d_RS_checkpoint_17 : decode M_RS_checkpoint.2.1 17 = .ok (.iconst (0), 1) := by decide +kernel
theorem d_RS_checkpoint_18 : decode M_RS_checkpoint.2.1 18 = .ok (.istore_n 1, 1) := by decide +kernel
theorem d_RS_checkpoint_19 : decode M_RS_checkpoint.2.1 19 = .ok (.iload_n 1, 1) := by decide +kernel
theorem d_RS_checkpoint_20 : decode M_RS_checkpoint.2.1 20 = .ok (.bipush (16), 2) := by decide +kernel
theorem d_RS_checkpoint_22 : decode M_RS_checkpoint.2.1 22 = .ok (.if_icmp .ge (64), 3) := by decide +kernel
theorem d_RS_checkpoint_25 : decode M_RS_checkpoint.2.1 25 = .ok (.aload_n 0, 1) := by decide +kernel
theorem d_RS_checkpoint_26 : decode M_RS_checkpoint.2.1 26 = .ok (.getfield 23, 3) := by decide +kernel
theorem d_RS_checkpoint_29 : decode M_RS_checkpoint.2.1 29 = .ok (.iload_n 1, 1) := by decide +kernel
theorem d_RS_checkpoint_30 : decode M_RS_checkpoint.2.1 30 = .ok (.invokevirtual 59, 3) := by decide +kernel
theorem d_RS_checkpoint_33 : decode M_RS_checkpoint.2.1 33 = .ok (.ifCond .eq (47), 3) := by decide +kernel
theorem d_RS_checkpoint_36 : decode M_RS_checkpoint.2.1 36 = .ok (.aload_n 0, 1) := by decide +kernel
theorem d_RS_checkpoint_37 : decode M_RS_checkpoint.2.1 37 = .ok (.getfield 43, 3) := by decide +kernel
theorem d_RS_checkpoint_40 : decode M_RS_checkpoint.2.1 40 = .ok (.iload_n 1, 1) := by decide +kernel
theorem d_RS_checkpoint_41 : decode M_RS_checkpoint.2.1 41 = .ok (.aload_n 0, 1) := by decide +kernel
theorem d_RS_checkpoint_42 : decode M_RS_checkpoint.2.1 42 = .ok (.getfield 23, 3) := by decide +kernel
theorem d_RS_checkpoint_45 : decode M_RS_checkpoint.2.1 45 = .ok (.iload_n 1, 1) := by decide +kernel
theorem d_RS_checkpoint_46 : decode M_RS_checkpoint.2.1 46 = .ok (.iconst (0), 1) := by decide +kernel
theorem d_RS_checkpoint_47 : decode M_RS_checkpoint.2.1 47 = .ok (.invokevirtual 113, 3) := by decide +kernel
theorem d_RS_checkpoint_50 : decode M_RS_checkpoint.2.1 50 = .ok (.aload_n 0, 1) := by decide +kernel
theorem d_RS_checkpoint_51 : decode M_RS_checkpoint.2.1 51 = .ok (.getfield 23, 3) := by decide +kernel
theorem d_RS_checkpoint_54 : decode M_RS_checkpoint.2.1 54 = .ok (.iload_n 1, 1) := by decide +kernel
theorem d_RS_checkpoint_55 : decode M_RS_checkpoint.2.1 55 = .ok (.iconst (1), 1) := by decide +kernel
theorem d_RS_checkpoint_56 : decode M_RS_checkpoint.2.1 56 = .ok (.invokevirtual 113, 3) := by decide +kernel
theorem d_RS_checkpoint_59 : decode M_RS_checkpoint.2.1 59 = .ok (.aload_n 0, 1) := by decide +kernel
theorem d_RS_checkpoint_60 : decode M_RS_checkpoint.2.1 60 = .ok (.getfield 23, 3) := by decide +kernel
theorem d_RS_checkpoint_63 : decode M_RS_checkpoint.2.1 63 = .ok (.iload_n 1, 1) := by decide +kernel
theorem d_RS_checkpoint_64 : decode M_RS_checkpoint.2.1 64 = .ok (.iconst (2), 1) := by decide +kernel
theorem d_RS_checkpoint_65 : decode M_RS_checkpoint.2.1 65 = .ok (.invokevirtual 113, 3) := by decide +kernel
theorem d_RS_checkpoint_68 : decode M_RS_checkpoint.2.1 68 = .ok (.aload_n 0, 1) := by decide +kernel
theorem d_RS_checkpoint_69 : decode M_RS_checkpoint.2.1 69 = .ok (.getfield 23, 3) := by decide +kernel
theorem d_RS_checkpoint_72 : decode M_RS_checkpoint.2.1 72 = .ok (.iload_n 1, 1) := by decide +kernel
theorem d_RS_checkpoint_73 : decode M_RS_checkpoint.2.1 73 = .ok (.iconst (3), 1) := by decide +kernel
theorem d_RS_checkpoint_74 : decode M_RS_checkpoint.2.1 74 = .ok (.invokevirtual 113, 3) := by decide +kernel
theorem d_RS_checkpoint_77 : decode M_RS_checkpoint.2.1 77 = .ok (.invokevirtual 117, 3) := by decide +kernel
theorem d_RS_checkpoint_80 : decode M_RS_checkpoint.2.1 80 = .ok (.iinc 1 (1), 3) := by decide +kernel
theorem d_RS_checkpoint_83 : decode M_RS_checkpoint.2.1 83 = .ok (.goto (-64), 3) := by decide +kernel
theorem d_RS_checkpoint_86 : decode M_RS_checkpoint.2.1 86 = .ok (.aload_n 0, 1) := by decide +kernel
theorem d_RS_checkpoint_87 : decode M_RS_checkpoint.2.1 87 = .ok (.aload_n 0, 1) := by decide +kernel
theorem d_RS_checkpoint_88 : decode M_RS_checkpoint.2.1 88 = .ok (.getfield 91, 3) := by decide +kernel
theorem d_RS_checkpoint_91 : decode M_RS_checkpoint.2.1 91 = .ok (.aload_n 0, 1) := by decide +kernel
theorem d_RS_checkpoint_92 : decode M_RS_checkpoint.2.1 92 = .ok (.getfield 121, 3) := by decide +kernel
theorem d_RS_checkpoint_95 : decode M_RS_checkpoint.2.1 95 = .ok (.invokevirtual 124, 3) := by decide +kernel
theorem d_RS_checkpoint_98 : decode M_RS_checkpoint.2.1 98 = .ok (.aload_n 0, 1) := by decide +kernel
theorem d_RS_checkpoint_99 : decode M_RS_checkpoint.2.1 99 = .ok (.getfield 23, 3) := by decide +kernel
theorem d_RS_checkpoint_102 : decode M_RS_checkpoint.2.1 102 = .ok (.invokevirtual 63, 3) := by decide +kernel
theorem d_RS_checkpoint_105 : decode M_RS_checkpoint.2.1 105 = .ok (.ireturn, 1) := by decide +kernel
theorem d_RS_recover_0 : decode M_RS_recover.2.1 0 = .ok (.aload_n 0, 1) := by decide +kernel
theorem d_RS_recover_1 : decode M_RS_recover.2.1 1 = .ok (.getfield 127, 3) := by decide +kernel
theorem d_RS_recover_4 : decode M_RS_recover.2.1 4 = .ok (.ifCond .ne (13), 3) := by decide +kernel
theorem d_RS_recover_7 : decode M_RS_recover.2.1 7 = .ok (.aload_n 0, 1) := by decide +kernel
theorem d_RS_recover_8 : decode M_RS_recover.2.1 8 = .ok (.getfield 43, 3) := by decide +kernel
theorem d_RS_recover_11 : decode M_RS_recover.2.1 11 = .ok (.invokevirtual 131, 3) := by decide +kernel
theorem d_RS_recover_14 : decode M_RS_recover.2.1 14 = .ok (.ifCond .eq (5), 3) := by decide +kernel
theorem d_RS_recover_17 : decode M_RS_recover.2.1 17 = .ok (.iconst (-1), 1) := by decide +kernel
theorem d_RS_recover_18 : decode M_RS_recover.2.1 18 = .ok (.ireturn, 1) := by decide +kernel
theorem d_RS_recover_19 : decode M_RS_recover.2.1 19 = .ok (.aload_n 0, 1) := by decide +kernel
theorem d_RS_recover_20 : decode M_RS_recover.2.1 20 = .ok (.getfield 36, 3) := by decide +kernel
theorem d_RS_recover_23 : decode M_RS_recover.2.1 23 = .ok (.aload_n 0, 1) := by decide +kernel
theorem d_RS_recover_24 : decode M_RS_recover.2.1 24 = .ok (.getfield 12, 3) := by decide +kernel
theorem d_RS_recover_27 : decode M_RS_recover.2.1 27 = .ok (.invokevirtual 134, 3) := by decide +kernel
theorem d_RS_recover_30 : decode M_RS_recover.2.1 30 = .ok (.aload_n 0, 1) := by decide +kernel
theorem d_RS_recover_31 : decode M_RS_recover.2.1 31 = .ok (.getfield 43, 3) := by decide +kernel
theorem d_RS_recover_34 : decode M_RS_recover.2.1 34 = .ok (.iconst (4), 1) := by decide +kernel
theorem d_RS_recover_35 : decode M_RS_recover.2.1 35 = .ok (.invokevirtual 104, 3) := by decide +kernel
theorem d_RS_recover_38 : decode M_RS_recover.2.1 38 = .ok (.iconst (0), 1) := by decide +kernel
theorem d_RS_recover_39 : decode M_RS_recover.2.1 39 = .ok (.istore_n 1, 1) := by decide +kernel
theorem d_RS_recover_40 : decode M_RS_recover.2.1 40 = .ok (.iconst (0), 1) := by decide +kernel
theorem d_RS_recover_41 : decode M_RS_recover.2.1 41 = .ok (.istore_n 2, 1) := by decide +kernel
theorem d_RS_recover_42 : decode M_RS_recover.2.1 42 = .ok (.iload_n 2, 1) := by decide +kernel
theorem d_RS_recover_43 : decode M_RS_recover.2.1 43 = .ok (.aload_n 0, 1) := by decide +kernel
theorem d_RS_recover_44 : decode M_RS_recover.2.1 44 = .ok (.getfield 36, 3) := by decide +kernel
theorem d_RS_recover_47 : decode M_RS_recover.2.1 47 = .ok (.invokevirtual 138, 3) := by decide +kernel
theorem d_RS_recover_50 : decode M_RS_recover.2.1 50 = .ok (.if_icmp .ge (74), 3) := by decide +kernel
theorem d_RS_recover_53 : decode M_RS_recover.2.1 53 = .ok (.aload_n 0, 1) := by decide +kernel
theorem d_RS_recover_54 : decode M_RS_recover.2.1 54 = .ok (.getfield 36, 3) := by decide +kernel
theorem d_RS_recover_57 : decode M_RS_recover.2.1 57 = .ok (.iload_n 2, 1) := by decide +kernel
theorem d_RS_recover_58 : decode M_RS_recover.2.1 58 = .ok (.invokevirtual 139, 3) := by decide +kernel
theorem d_RS_recover_61 : decode M_RS_recover.2.1 61 = .ok (.ifCond .eq (57), 3) := by decide +kernel
theorem d_RS_recover_64 : decode M_RS_recover.2.1 64 = .ok (.aload_n 0, 1) := by decide +kernel
theorem d_RS_recover_65 : decode M_RS_recover.2.1 65 = .ok (.getfield 43, 3) := by decide +kernel
theorem d_RS_recover_68 : decode M_RS_recover.2.1 68 = .ok (.aload_n 0, 1) := by decide +kernel
theorem d_RS_recover_69 : decode M_RS_recover.2.1 69 = .ok (.getfield 36, 3) := by decide +kernel
theorem d_RS_recover_72 : decode M_RS_recover.2.1 72 = .ok (.iload_n 2, 1) := by decide +kernel
theorem d_RS_recover_73 : decode M_RS_recover.2.1 73 = .ok (.invokevirtual 142, 3) := by decide +kernel
theorem d_RS_recover_76 : decode M_RS_recover.2.1 76 = .ok (.aload_n 0, 1) := by decide +kernel
theorem d_RS_recover_77 : decode M_RS_recover.2.1 77 = .ok (.getfield 36, 3) := by decide +kernel
theorem d_RS_recover_80 : decode M_RS_recover.2.1 80 = .ok (.iload_n 2, 1) := by decide +kernel
theorem d_RS_recover_81 : decode M_RS_recover.2.1 81 = .ok (.iconst (0), 1) := by decide +kernel
theorem d_RS_recover_82 : decode M_RS_recover.2.1 82 = .ok (.invokevirtual 146, 3) := by decide +kernel
theorem d_RS_recover_85 : decode M_RS_recover.2.1 85 = .ok (.aload_n 0, 1) := by decide +kernel
theorem d_RS_recover_86 : decode M_RS_recover.2.1 86 = .ok (.getfield 36, 3) := by decide +kernel
theorem d_RS_recover_89 : decode M_RS_recover.2.1 89 = .ok (.iload_n 2, 1) := by decide +kernel
theorem d_RS_recover_90 : decode M_RS_recover.2.1 90 = .ok (.iconst (1), 1) := by decide +kernel
theorem d_RS_recover_91 : decode M_RS_recover.2.1 91 = .ok (.invokevirtual 146, 3) := by decide +kernel
theorem d_RS_recover_94 : decode M_RS_recover.2.1 94 = .ok (.aload_n 0, 1) := by decide +kernel
theorem d_RS_recover_95 : decode M_RS_recover.2.1 95 = .ok (.getfield 36, 3) := by decide +kernel
theorem d_RS_recover_98 : decode M_RS_recover.2.1 98 = .ok (.iload_n 2, 1) := by decide +kernel
theorem d_RS_recover_99 : decode M_RS_recover.2.1 99 = .ok (.iconst (2), 1) := by decide +kernel
theorem d_RS_recover_100 : decode M_RS_recover.2.1 100 = .ok (.invokevirtual 146, 3) := by decide +kernel
theorem d_RS_recover_103 : decode M_RS_recover.2.1 103 = .ok (.aload_n 0, 1) := by decide +kernel
theorem d_RS_recover_104 : decode M_RS_recover.2.1 104 = .ok (.getfield 36, 3) := by decide +kernel
theorem d_RS_recover_107 : decode M_RS_recover.2.1 107 = .ok (.iload_n 2, 1) := by decide +kernel
theorem d_RS_recover_108 : decode M_RS_recover.2.1 108 = .ok (.iconst (3), 1) := by decide +kernel
theorem d_RS_recover_109 : decode M_RS_recover.2.1 109 = .ok (.invokevirtual 146, 3) := by decide +kernel
theorem d_RS_recover_112 : decode M_RS_recover.2.1 112 = .ok (.invokevirtual 117, 3) := by decide +kernel
theorem d_RS_recover_115 : decode M_RS_recover.2.1 115 = .ok (.iinc 1 (1), 3) := by decide +kernel
theorem d_RS_recover_118 : decode M_RS_recover.2.1 118 = .ok (.iinc 2 (1), 3) := by decide +kernel
theorem d_RS_recover_121 : decode M_RS_recover.2.1 121 = .ok (.goto (-79), 3) := by decide +kernel
theorem d_RS_recover_124 : decode M_RS_recover.2.1 124 = .ok (.aload_n 0, 1) := by decide +kernel
theorem d_RS_recover_125 : decode M_RS_recover.2.1 125 = .ok (.aload_n 0, 1) := by decide +kernel
theorem d_RS_recover_126 : decode M_RS_recover.2.1 126 = .ok (.getfield 36, 3) := by decide +kernel
theorem d_RS_recover_129 : decode M_RS_recover.2.1 129 = .ok (.invokevirtual 147, 3) := by decide +kernel
theorem d_RS_recover_132 : decode M_RS_recover.2.1 132 = .ok (.aload_n 0, 1) := by decide +kernel
theorem d_RS_recover_133 : decode M_RS_recover.2.1 133 = .ok (.getfield 36, 3) := by decide +kernel
theorem d_RS_recover_136 : decode M_RS_recover.2.1 136 = .ok (.invokevirtual 150, 3) := by decide +kernel
theorem d_RS_recover_139 : decode M_RS_recover.2.1 139 = .ok (.invokevirtual 124, 3) := by decide +kernel
theorem d_RS_recover_142 : decode M_RS_recover.2.1 142 = .ok (.iload_n 1, 1) := by decide +kernel
theorem d_RS_recover_143 : decode M_RS_recover.2.1 143 = .ok (.ireturn, 1) := by decide +kernel
theorem d_RS_step_0 : decode M_RS_step.2.1 0 = .ok (.aload_n 0, 1) := by decide +kernel
theorem d_RS_step_1 : decode M_RS_step.2.1 1 = .ok (.getfield 43, 3) := by decide +kernel
theorem d_RS_step_4 : decode M_RS_step.2.1 4 = .ok (.invokevirtual 131, 3) := by decide +kernel
theorem d_RS_step_7 : decode M_RS_step.2.1 7 = .ok (.ifCond .eq (14), 3) := by decide +kernel
theorem d_RS_step_10 : decode M_RS_step.2.1 10 = .ok (.iload_n 1, 1) := by decide +kernel
theorem d_RS_step_11 : decode M_RS_step.2.1 11 = .ok (.iconst (1), 1) := by decide +kernel
theorem d_RS_step_12 : decode M_RS_step.2.1 12 = .ok (.if_icmp .lt (9), 3) := by decide +kernel
theorem d_RS_step_15 : decode M_RS_step.2.1 15 = .ok (.iload_n 1, 1) := by decide +kernel
theorem d_RS_step_16 : decode M_RS_step.2.1 16 = .ok (.bipush (10), 2) := by decide +kernel
theorem d_RS_step_18 : decode M_RS_step.2.1 18 = .ok (.if_icmp .le (5), 3) := by decide +kernel
theorem d_RS_step_21 : decode M_RS_step.2.1 21 = .ok (.iconst (-1), 1) := by decide +kernel
theorem d_RS_step_22 : decode M_RS_step.2.1 22 = .ok (.ireturn, 1) := by decide +kernel
theorem d_RS_step_23 : decode M_RS_step.2.1 23 = .ok (.iload_n 1, 1) := by decide +kernel
theorem d_RS_step_24 : decode M_RS_step.2.1 24 = .ok (.aload_n 0, 1) := by decide +kernel
theorem d_RS_step_25 : decode M_RS_step.2.1 25 = .ok (.getfield 43, 3) := by decide +kernel
theorem d_RS_step_28 : decode M_RS_step.2.1 28 = .ok (.invokevirtual 153, 3) := by decide +kernel
theorem d_RS_step_31 : decode M_RS_step.2.1 31 = .ok (.invokestatic 156, 3) := by decide +kernel
theorem d_RS_step_34 : decode M_RS_step.2.1 34 = .ok (.istore_n 2, 1) := by decide +kernel
theorem d_RS_step_35 : decode M_RS_step.2.1 35 = .ok (.iconst (0), 1) := by decide +kernel
theorem d_RS_step_36 : decode M_RS_step.2.1 36 = .ok (.istore_n 3, 1) := by decide +kernel
theorem d_RS_step_37 : decode M_RS_step.2.1 37 = .ok (.iload_n 3, 1) := by decide +kernel
theorem d_RS_step_38 : decode M_RS_step.2.1 38 = .ok (.iload_n 2, 1) := by decide +kernel
theorem d_RS_step_39 : decode M_RS_step.2.1 39 = .ok (.if_icmp .ge (20), 3) := by decide +kernel
theorem d_RS_step_42 : decode M_RS_step.2.1 42 = .ok (.aload_n 0, 1) := by decide +kernel
theorem d_RS_step_43 : decode M_RS_step.2.1 43 = .ok (.getfield 43, 3) := by decide +kernel
theorem d_RS_step_46 : decode M_RS_step.2.1 46 = .ok (.aload_n 0, 1) := by decide +kernel
theorem d_RS_step_47 : decode M_RS_step.2.1 47 = .ok (.getfield 12, 3) := by decide +kernel
theorem d_RS_step_50 : decode M_RS_step.2.1 50 = .ok (.invokevirtual 161, 3) := by decide +kernel
theorem d_RS_step_53 : decode M_RS_step.2.1 53 = .ok (.iinc 3 (1), 3) := by decide +kernel
theorem d_RS_step_56 : decode M_RS_step.2.1 56 = .ok (.goto (-19), 3) := by decide +kernel
theorem d_RS_step_59 : decode M_RS_step.2.1 59 = .ok (.aload_n 0, 1) := by decide +kernel
theorem d_RS_step_60 : decode M_RS_step.2.1 60 = .ok (.getfield 43, 3) := by decide +kernel
theorem d_RS_step_63 : decode M_RS_step.2.1 63 = .ok (.invokevirtual 153, 3) := by decide +kernel
theorem d_RS_step_66 : decode M_RS_step.2.1 66 = .ok (.ifCond .ne (7), 3) := by decide +kernel
theorem d_RS_step_69 : decode M_RS_step.2.1 69 = .ok (.aload_n 0, 1) := by decide +kernel
theorem d_RS_step_70 : decode M_RS_step.2.1 70 = .ok (.invokevirtual 164, 3) := by decide +kernel
theorem d_RS_step_73 : decode M_RS_step.2.1 73 = .ok (.iload_n 2, 1) := by decide +kernel
theorem d_RS_step_74 : decode M_RS_step.2.1 74 = .ok (.ireturn, 1) := by decide +kernel
theorem d_RS_crash_0 : decode M_RS_crash.2.1 0 = .ok (.aload_n 0, 1) := by decide +kernel
theorem d_RS_crash_1 : decode M_RS_crash.2.1 1 = .ok (.iconst (0), 1) := by decide +kernel
theorem d_RS_crash_2 : decode M_RS_crash.2.1 2 = .ok (.putfield 127, 3) := by decide +kernel
theorem d_RS_crash_5 : decode M_RS_crash.2.1 5 = .ok (.aload_n 0, 1) := by decide +kernel
theorem d_RS_crash_6 : decode M_RS_crash.2.1 6 = .ok (.getfield 43, 3) := by decide +kernel
theorem d_RS_crash_9 : decode M_RS_crash.2.1 9 = .ok (.invokevirtual 167, 3) := by decide +kernel
theorem d_RS_crash_12 : decode M_RS_crash.2.1 12 = .ok (.aload_n 0, 1) := by decide +kernel
theorem d_RS_crash_13 : decode M_RS_crash.2.1 13 = .ok (.getfield 12, 3) := by decide +kernel
theorem d_RS_crash_16 : decode M_RS_crash.2.1 16 = .ok (.iload_n 1, 1) := by decide +kernel
theorem d_RS_crash_17 : decode M_RS_crash.2.1 17 = .ok (.iload_n 2, 1) := by decide +kernel
theorem d_RS_crash_18 : decode M_RS_crash.2.1 18 = .ok (.invokevirtual 170, 3) := by decide +kernel
theorem d_RS_crash_21 : decode M_RS_crash.2.1 21 = .ok (.ireturn, 1) := by decide +kernel
theorem d_RS_get_0 : decode M_RS_get.2.1 0 = .ok (.aload_n 0, 1) := by decide +kernel
theorem d_RS_get_1 : decode M_RS_get.2.1 1 = .ok (.getfield 127, 3) := by decide +kernel
theorem d_RS_get_4 : decode M_RS_get.2.1 4 = .ok (.ifCond .eq (20), 3) := by decide +kernel
theorem d_RS_get_7 : decode M_RS_get.2.1 7 = .ok (.iload_n 1, 1) := by decide +kernel
theorem d_RS_get_8 : decode M_RS_get.2.1 8 = .ok (.iload_n 2, 1) := by decide +kernel
theorem d_RS_get_9 : decode M_RS_get.2.1 9 = .ok (.invokestatic 55, 3) := by decide +kernel
theorem d_RS_get_12 : decode M_RS_get.2.1 12 = .ok (.ifCond .eq (12), 3) := by decide +kernel
theorem d_RS_get_15 : decode M_RS_get.2.1 15 = .ok (.aload_n 0, 1) := by decide +kernel
theorem d_RS_get_16 : decode M_RS_get.2.1 16 = .ok (.iload_n 1, 1) := by decide +kernel
theorem d_RS_get_17 : decode M_RS_get.2.1 17 = .ok (.iload_n 2, 1) := by decide +kernel
theorem d_RS_get_18 : decode M_RS_get.2.1 18 = .ok (.invokevirtual 173, 3) := by decide +kernel
theorem d_RS_get_21 : decode M_RS_get.2.1 21 = .ok (.goto (4), 3) := by decide +kernel
theorem d_RS_get_24 : decode M_RS_get.2.1 24 = .ok (.iconst (0), 1) := by decide +kernel
theorem d_RS_get_25 : decode M_RS_get.2.1 25 = .ok (.ireturn, 1) := by decide +kernel
theorem d_RS_read_0 : decode M_RS_read.2.1 0 = .ok (.iload_n 1, 1) := by decide +kernel
theorem d_RS_read_1 : decode M_RS_read.2.1 1 = .ok (.iload_n 2, 1) := by decide +kernel
theorem d_RS_read_2 : decode M_RS_read.2.1 2 = .ok (.invokestatic 176, 3) := by decide +kernel
theorem d_RS_read_5 : decode M_RS_read.2.1 5 = .ok (.ifCond .eq (15), 3) := by decide +kernel
theorem d_RS_read_8 : decode M_RS_read.2.1 8 = .ok (.aload_n 0, 1) := by decide +kernel
theorem d_RS_read_9 : decode M_RS_read.2.1 9 = .ok (.getfield 12, 3) := by decide +kernel
theorem d_RS_read_12 : decode M_RS_read.2.1 12 = .ok (.iload_n 1, 1) := by decide +kernel
theorem d_RS_read_13 : decode M_RS_read.2.1 13 = .ok (.iload_n 2, 1) := by decide +kernel
theorem d_RS_read_14 : decode M_RS_read.2.1 14 = .ok (.invokevirtual 179, 3) := by decide +kernel
theorem d_RS_read_17 : decode M_RS_read.2.1 17 = .ok (.goto (4), 3) := by decide +kernel
theorem d_RS_read_20 : decode M_RS_read.2.1 20 = .ok (.iconst (0), 1) := by decide +kernel
theorem d_RS_read_21 : decode M_RS_read.2.1 21 = .ok (.ireturn, 1) := by decide +kernel
theorem d_RS_isSectorWord_0 : decode M_RS_isSectorWord.2.1 0 = .ok (.iload_n 0, 1) := by decide +kernel
theorem d_RS_isSectorWord_1 : decode M_RS_isSectorWord.2.1 1 = .ok (.ifCond .lt (22), 3) := by decide +kernel
theorem d_RS_isSectorWord_4 : decode M_RS_isSectorWord.2.1 4 = .ok (.iload_n 0, 1) := by decide +kernel
theorem d_RS_isSectorWord_5 : decode M_RS_isSectorWord.2.1 5 = .ok (.bipush (41), 2) := by decide +kernel
theorem d_RS_isSectorWord_7 : decode M_RS_isSectorWord.2.1 7 = .ok (.if_icmp .ge (16), 3) := by decide +kernel
theorem d_RS_isSectorWord_10 : decode M_RS_isSectorWord.2.1 10 = .ok (.iload_n 1, 1) := by decide +kernel
theorem d_RS_isSectorWord_11 : decode M_RS_isSectorWord.2.1 11 = .ok (.ifCond .lt (12), 3) := by decide +kernel
theorem d_RS_isSectorWord_14 : decode M_RS_isSectorWord.2.1 14 = .ok (.iload_n 1, 1) := by decide +kernel
theorem d_RS_isSectorWord_15 : decode M_RS_isSectorWord.2.1 15 = .ok (.iconst (4), 1) := by decide +kernel
theorem d_RS_isSectorWord_16 : decode M_RS_isSectorWord.2.1 16 = .ok (.if_icmp .ge (7), 3) := by decide +kernel
theorem d_RS_isSectorWord_19 : decode M_RS_isSectorWord.2.1 19 = .ok (.iconst (1), 1) := by decide +kernel
theorem d_RS_isSectorWord_20 : decode M_RS_isSectorWord.2.1 20 = .ok (.goto (4), 3) := by decide +kernel
theorem d_RS_isSectorWord_23 : decode M_RS_isSectorWord.2.1 23 = .ok (.iconst (0), 1) := by decide +kernel
theorem d_RS_isSectorWord_24 : decode M_RS_isSectorWord.2.1 24 = .ok (.ireturn, 1) := by decide +kernel
theorem d_RS_stored_0 : decode M_RS_stored.2.1 0 = .ok (.iload_n 1, 1) := by decide +kernel
theorem d_RS_stored_1 : decode M_RS_stored.2.1 1 = .ok (.iload_n 2, 1) := by decide +kernel
theorem d_RS_stored_2 : decode M_RS_stored.2.1 2 = .ok (.invokestatic 176, 3) := by decide +kernel
theorem d_RS_stored_5 : decode M_RS_stored.2.1 5 = .ok (.ifCond .eq (15), 3) := by decide +kernel
theorem d_RS_stored_8 : decode M_RS_stored.2.1 8 = .ok (.aload_n 0, 1) := by decide +kernel
theorem d_RS_stored_9 : decode M_RS_stored.2.1 9 = .ok (.getfield 12, 3) := by decide +kernel
theorem d_RS_stored_12 : decode M_RS_stored.2.1 12 = .ok (.iload_n 1, 1) := by decide +kernel
theorem d_RS_stored_13 : decode M_RS_stored.2.1 13 = .ok (.iload_n 2, 1) := by decide +kernel
theorem d_RS_stored_14 : decode M_RS_stored.2.1 14 = .ok (.invokevirtual 182, 3) := by decide +kernel
theorem d_RS_stored_17 : decode M_RS_stored.2.1 17 = .ok (.goto (4), 3) := by decide +kernel
theorem d_RS_stored_20 : decode M_RS_stored.2.1 20 = .ok (.iconst (0), 1) := by decide +kernel
theorem d_RS_stored_21 : decode M_RS_stored.2.1 21 = .ok (.ireturn, 1) := by decide +kernel
theorem d_RS_cached_0 : decode M_RS_cached.2.1 0 = .ok (.aload_n 0, 1) := by decide +kernel
theorem d_RS_cached_1 : decode M_RS_cached.2.1 1 = .ok (.getfield 12, 3) := by decide +kernel
theorem d_RS_cached_4 : decode M_RS_cached.2.1 4 = .ok (.invokevirtual 85, 3) := by decide +kernel
theorem d_RS_cached_7 : decode M_RS_cached.2.1 7 = .ok (.ireturn, 1) := by decide +kernel
theorem d_RS_state_0 : decode M_RS_state.2.1 0 = .ok (.aload_n 0, 1) := by decide +kernel
theorem d_RS_state_1 : decode M_RS_state.2.1 1 = .ok (.getfield 43, 3) := by decide +kernel
theorem d_RS_state_4 : decode M_RS_state.2.1 4 = .ok (.invokevirtual 131, 3) := by decide +kernel
theorem d_RS_state_7 : decode M_RS_state.2.1 7 = .ok (.ifCond .eq (11), 3) := by decide +kernel
theorem d_RS_state_10 : decode M_RS_state.2.1 10 = .ok (.aload_n 0, 1) := by decide +kernel
theorem d_RS_state_11 : decode M_RS_state.2.1 11 = .ok (.getfield 43, 3) := by decide +kernel
theorem d_RS_state_14 : decode M_RS_state.2.1 14 = .ok (.invokevirtual 185, 3) := by decide +kernel
theorem d_RS_state_17 : decode M_RS_state.2.1 17 = .ok (.ireturn, 1) := by decide +kernel
theorem d_RS_state_18 : decode M_RS_state.2.1 18 = .ok (.aload_n 0, 1) := by decide +kernel
theorem d_RS_state_19 : decode M_RS_state.2.1 19 = .ok (.getfield 127, 3) := by decide +kernel
theorem d_RS_state_22 : decode M_RS_state.2.1 22 = .ok (.ifCond .eq (7), 3) := by decide +kernel
theorem d_RS_state_25 : decode M_RS_state.2.1 25 = .ok (.iconst (1), 1) := by decide +kernel
theorem d_RS_state_26 : decode M_RS_state.2.1 26 = .ok (.goto (4), 3) := by decide +kernel
theorem d_RS_state_29 : decode M_RS_state.2.1 29 = .ok (.iconst (0), 1) := by decide +kernel
theorem d_RS_state_30 : decode M_RS_state.2.1 30 = .ok (.ireturn, 1) := by decide +kernel
theorem d_RS_number_0 : decode M_RS_number.2.1 0 = .ok (.aload_n 0, 1) := by decide +kernel
theorem d_RS_number_1 : decode M_RS_number.2.1 1 = .ok (.getfield 127, 3) := by decide +kernel
theorem d_RS_number_4 : decode M_RS_number.2.1 4 = .ok (.ifCond .eq (10), 3) := by decide +kernel
theorem d_RS_number_7 : decode M_RS_number.2.1 7 = .ok (.aload_n 0, 1) := by decide +kernel
theorem d_RS_number_8 : decode M_RS_number.2.1 8 = .ok (.getfield 91, 3) := by decide +kernel
theorem d_RS_number_11 : decode M_RS_number.2.1 11 = .ok (.goto (4), 3) := by decide +kernel
theorem d_RS_number_14 : decode M_RS_number.2.1 14 = .ok (.iconst (-1), 1) := by decide +kernel
theorem d_RS_number_15 : decode M_RS_number.2.1 15 = .ok (.ireturn, 1) := by decide +kernel
theorem d_RS_used_0 : decode M_RS_used.2.1 0 = .ok (.aload_n 0, 1) := by decide +kernel
theorem d_RS_used_1 : decode M_RS_used.2.1 1 = .ok (.getfield 127, 3) := by decide +kernel
theorem d_RS_used_4 : decode M_RS_used.2.1 4 = .ok (.ifCond .eq (10), 3) := by decide +kernel
theorem d_RS_used_7 : decode M_RS_used.2.1 7 = .ok (.aload_n 0, 1) := by decide +kernel
theorem d_RS_used_8 : decode M_RS_used.2.1 8 = .ok (.getfield 98, 3) := by decide +kernel
theorem d_RS_used_11 : decode M_RS_used.2.1 11 = .ok (.goto (4), 3) := by decide +kernel
theorem d_RS_used_14 : decode M_RS_used.2.1 14 = .ok (.iconst (-1), 1) := by decide +kernel
theorem d_RS_used_15 : decode M_RS_used.2.1 15 = .ok (.ireturn, 1) := by decide +kernel
theorem d_RS_changed_0 : decode M_RS_changed.2.1 0 = .ok (.aload_n 0, 1) := by decide +kernel
theorem d_RS_changed_1 : decode M_RS_changed.2.1 1 = .ok (.getfield 127, 3) := by decide +kernel
theorem d_RS_changed_4 : decode M_RS_changed.2.1 4 = .ok (.ifCond .eq (10), 3) := by decide +kernel
theorem d_RS_changed_7 : decode M_RS_changed.2.1 7 = .ok (.iload_n 1, 1) := by decide +kernel
theorem d_RS_changed_8 : decode M_RS_changed.2.1 8 = .ok (.invokestatic 75, 3) := by decide +kernel
theorem d_RS_changed_11 : decode M_RS_changed.2.1 11 = .ok (.ifCond .ne (5), 3) := by decide +kernel
theorem d_RS_changed_14 : decode M_RS_changed.2.1 14 = .ok (.iconst (-1), 1) := by decide +kernel
theorem d_RS_changed_15 : decode M_RS_changed.2.1 15 = .ok (.ireturn, 1) := by decide +kernel
theorem d_RS_changed_16 : decode M_RS_changed.2.1 16 = .ok (.aload_n 0, 1) := by decide +kernel
theorem d_RS_changed_17 : decode M_RS_changed.2.1 17 = .ok (.getfield 19, 3) := by decide +kernel
theorem d_RS_changed_20 : decode M_RS_changed.2.1 20 = .ok (.iload_n 1, 1) := by decide +kernel
theorem d_RS_changed_21 : decode M_RS_changed.2.1 21 = .ok (.invokevirtual 59, 3) := by decide +kernel
theorem d_RS_changed_24 : decode M_RS_changed.2.1 24 = .ok (.ifCond .eq (7), 3) := by decide +kernel
theorem d_RS_changed_27 : decode M_RS_changed.2.1 27 = .ok (.iconst (1), 1) := by decide +kernel
theorem d_RS_changed_28 : decode M_RS_changed.2.1 28 = .ok (.goto (16), 3) := by decide +kernel
theorem d_RS_changed_31 : decode M_RS_changed.2.1 31 = .ok (.aload_n 0, 1) := by decide +kernel
theorem d_RS_changed_32 : decode M_RS_changed.2.1 32 = .ok (.iload_n 1, 1) := by decide +kernel
theorem d_RS_changed_33 : decode M_RS_changed.2.1 33 = .ok (.invokevirtual 188, 3) := by decide +kernel
theorem d_RS_changed_36 : decode M_RS_changed.2.1 36 = .ok (.ifCond .eq (7), 3) := by decide +kernel
theorem d_RS_changed_39 : decode M_RS_changed.2.1 39 = .ok (.iconst (2), 1) := by decide +kernel
theorem d_RS_changed_40 : decode M_RS_changed.2.1 40 = .ok (.goto (4), 3) := by decide +kernel
theorem d_RS_changed_43 : decode M_RS_changed.2.1 43 = .ok (.iconst (0), 1) := by decide +kernel
theorem d_RS_changed_44 : decode M_RS_changed.2.1 44 = .ok (.istore_n 2, 1) := by decide +kernel
theorem d_RS_changed_45 : decode M_RS_changed.2.1 45 = .ok (.iload_n 2, 1) := by decide +kernel
theorem d_RS_changed_46 : decode M_RS_changed.2.1 46 = .ok (.aload_n 0, 1) := by decide +kernel
theorem d_RS_changed_47 : decode M_RS_changed.2.1 47 = .ok (.getfield 23, 3) := by decide +kernel
theorem d_RS_changed_50 : decode M_RS_changed.2.1 50 = .ok (.iload_n 1, 1) := by decide +kernel
theorem d_RS_changed_51 : decode M_RS_changed.2.1 51 = .ok (.invokevirtual 59, 3) := by decide +kernel
theorem d_RS_changed_54 : decode M_RS_changed.2.1 54 = .ok (.ifCond .eq (7), 3) := by decide +kernel
theorem d_RS_changed_57 : decode M_RS_changed.2.1 57 = .ok (.iconst (4), 1) := by decide +kernel
theorem d_RS_changed_58 : decode M_RS_changed.2.1 58 = .ok (.goto (4), 3) := by decide +kernel
theorem d_RS_changed_61 : decode M_RS_changed.2.1 61 = .ok (.iconst (0), 1) := by decide +kernel
theorem d_RS_changed_62 : decode M_RS_changed.2.1 62 = .ok (.iadd, 1) := by decide +kernel
theorem d_RS_changed_63 : decode M_RS_changed.2.1 63 = .ok (.ireturn, 1) := by decide +kernel
theorem d_RS_isRevoked_0 : decode M_RS_isRevoked.2.1 0 = .ok (.aload_n 0, 1) := by decide +kernel
theorem d_RS_isRevoked_1 : decode M_RS_isRevoked.2.1 1 = .ok (.getfield 81, 3) := by decide +kernel
theorem d_RS_isRevoked_4 : decode M_RS_isRevoked.2.1 4 = .ok (.iload_n 1, 1) := by decide +kernel
theorem d_RS_isRevoked_5 : decode M_RS_isRevoked.2.1 5 = .ok (.iushr, 1) := by decide +kernel
theorem d_RS_isRevoked_6 : decode M_RS_isRevoked.2.1 6 = .ok (.iconst (1), 1) := by decide +kernel
theorem d_RS_isRevoked_7 : decode M_RS_isRevoked.2.1 7 = .ok (.iand, 1) := by decide +kernel
theorem d_RS_isRevoked_8 : decode M_RS_isRevoked.2.1 8 = .ok (.iconst (1), 1) := by decide +kernel
theorem d_RS_isRevoked_9 : decode M_RS_isRevoked.2.1 9 = .ok (.if_icmp .ne (7), 3) := by decide +kernel
theorem d_RS_isRevoked_12 : decode M_RS_isRevoked.2.1 12 = .ok (.iconst (1), 1) := by decide +kernel
theorem d_RS_isRevoked_13 : decode M_RS_isRevoked.2.1 13 = .ok (.goto (4), 3) := by decide +kernel
theorem d_RS_isRevoked_16 : decode M_RS_isRevoked.2.1 16 = .ok (.iconst (0), 1) := by decide +kernel
theorem d_RS_isRevoked_17 : decode M_RS_isRevoked.2.1 17 = .ok (.ireturn, 1) := by decide +kernel
theorem d_RS_left_0 : decode M_RS_left.2.1 0 = .ok (.aload_n 0, 1) := by decide +kernel
theorem d_RS_left_1 : decode M_RS_left.2.1 1 = .ok (.getfield 43, 3) := by decide +kernel
theorem d_RS_left_4 : decode M_RS_left.2.1 4 = .ok (.invokevirtual 153, 3) := by decide +kernel
theorem d_RS_left_7 : decode M_RS_left.2.1 7 = .ok (.ireturn, 1) := by decide +kernel
theorem d_RS_volumeWord_0 : decode M_RS_volumeWord.2.1 0 = .ok (.aload_n 0, 1) := by decide +kernel
theorem d_RS_volumeWord_1 : decode M_RS_volumeWord.2.1 1 = .ok (.getfield 19, 3) := by decide +kernel
theorem d_RS_volumeWord_4 : decode M_RS_volumeWord.2.1 4 = .ok (.iload_n 1, 1) := by decide +kernel
theorem d_RS_volumeWord_5 : decode M_RS_volumeWord.2.1 5 = .ok (.invokevirtual 59, 3) := by decide +kernel
theorem d_RS_volumeWord_8 : decode M_RS_volumeWord.2.1 8 = .ok (.ifCond .eq (13), 3) := by decide +kernel
theorem d_RS_volumeWord_11 : decode M_RS_volumeWord.2.1 11 = .ok (.aload_n 0, 1) := by decide +kernel
theorem d_RS_volumeWord_12 : decode M_RS_volumeWord.2.1 12 = .ok (.getfield 19, 3) := by decide +kernel
theorem d_RS_volumeWord_15 : decode M_RS_volumeWord.2.1 15 = .ok (.iload_n 1, 1) := by decide +kernel
theorem d_RS_volumeWord_16 : decode M_RS_volumeWord.2.1 16 = .ok (.iload_n 2, 1) := by decide +kernel
theorem d_RS_volumeWord_17 : decode M_RS_volumeWord.2.1 17 = .ok (.invokevirtual 113, 3) := by decide +kernel
theorem d_RS_volumeWord_20 : decode M_RS_volumeWord.2.1 20 = .ok (.ireturn, 1) := by decide +kernel
theorem d_RS_volumeWord_21 : decode M_RS_volumeWord.2.1 21 = .ok (.aload_n 0, 1) := by decide +kernel
theorem d_RS_volumeWord_22 : decode M_RS_volumeWord.2.1 22 = .ok (.getfield 23, 3) := by decide +kernel
theorem d_RS_volumeWord_25 : decode M_RS_volumeWord.2.1 25 = .ok (.iload_n 1, 1) := by decide +kernel
theorem d_RS_volumeWord_26 : decode M_RS_volumeWord.2.1 26 = .ok (.invokevirtual 59, 3) := by decide +kernel
theorem d_RS_volumeWord_29 : decode M_RS_volumeWord.2.1 29 = .ok (.ifCond .eq (15), 3) := by decide +kernel
theorem d_RS_volumeWord_32 : decode M_RS_volumeWord.2.1 32 = .ok (.aload_n 0, 1) := by decide +kernel
theorem d_RS_volumeWord_33 : decode M_RS_volumeWord.2.1 33 = .ok (.getfield 23, 3) := by decide +kernel
theorem d_RS_volumeWord_36 : decode M_RS_volumeWord.2.1 36 = .ok (.iload_n 1, 1) := by decide +kernel
theorem d_RS_volumeWord_37 : decode M_RS_volumeWord.2.1 37 = .ok (.iload_n 2, 1) := by decide +kernel
theorem d_RS_volumeWord_38 : decode M_RS_volumeWord.2.1 38 = .ok (.invokevirtual 113, 3) := by decide +kernel
theorem d_RS_volumeWord_41 : decode M_RS_volumeWord.2.1 41 = .ok (.goto (12), 3) := by decide +kernel
theorem d_RS_volumeWord_44 : decode M_RS_volumeWord.2.1 44 = .ok (.aload_n 0, 1) := by decide +kernel
theorem d_RS_volumeWord_45 : decode M_RS_volumeWord.2.1 45 = .ok (.getfield 12, 3) := by decide +kernel
theorem d_RS_volumeWord_48 : decode M_RS_volumeWord.2.1 48 = .ok (.iload_n 1, 1) := by decide +kernel
theorem d_RS_volumeWord_49 : decode M_RS_volumeWord.2.1 49 = .ok (.iload_n 2, 1) := by decide +kernel
theorem d_RS_volumeWord_50 : decode M_RS_volumeWord.2.1 50 = .ok (.invokevirtual 179, 3) := by decide +kernel
theorem d_RS_volumeWord_53 : decode M_RS_volumeWord.2.1 53 = .ok (.ireturn, 1) := by decide +kernel
theorem d_RS_beginImage_0 : decode M_RS_beginImage.2.1 0 = .ok (.iconst (0), 1) := by decide +kernel
theorem d_RS_beginImage_1 : decode M_RS_beginImage.2.1 1 = .ok (.istore_n 2, 1) := by decide +kernel
theorem d_RS_beginImage_2 : decode M_RS_beginImage.2.1 2 = .ok (.iload_n 2, 1) := by decide +kernel
theorem d_RS_beginImage_3 : decode M_RS_beginImage.2.1 3 = .ok (.iconst (4), 1) := by decide +kernel
theorem d_RS_beginImage_4 : decode M_RS_beginImage.2.1 4 = .ok (.if_icmp .ge (24), 3) := by decide +kernel
theorem d_RS_beginImage_7 : decode M_RS_beginImage.2.1 7 = .ok (.aload_n 0, 1) := by decide +kernel
theorem d_RS_beginImage_8 : decode M_RS_beginImage.2.1 8 = .ok (.getfield 19, 3) := by decide +kernel
theorem d_RS_beginImage_11 : decode M_RS_beginImage.2.1 11 = .ok (.iload_n 1, 1) := by decide +kernel
theorem d_RS_beginImage_12 : decode M_RS_beginImage.2.1 12 = .ok (.iload_n 2, 1) := by decide +kernel
theorem d_RS_beginImage_13 : decode M_RS_beginImage.2.1 13 = .ok (.aload_n 0, 1) := by decide +kernel
theorem d_RS_beginImage_14 : decode M_RS_beginImage.2.1 14 = .ok (.iload_n 1, 1) := by decide +kernel
theorem d_RS_beginImage_15 : decode M_RS_beginImage.2.1 15 = .ok (.iload_n 2, 1) := by decide +kernel
theorem d_RS_beginImage_16 : decode M_RS_beginImage.2.1 16 = .ok (.invokevirtual 173, 3) := by decide +kernel
theorem d_RS_beginImage_19 : decode M_RS_beginImage.2.1 19 = .ok (.invokevirtual 71, 3) := by decide +kernel
theorem d_RS_beginImage_22 : decode M_RS_beginImage.2.1 22 = .ok (.iinc 2 (1), 3) := by decide +kernel
theorem d_RS_beginImage_25 : decode M_RS_beginImage.2.1 25 = .ok (.goto (-23), 3) := by decide +kernel
theorem d_RS_beginImage_28 : decode M_RS_beginImage.2.1 28 = .ok (.aload_n 0, 1) := by decide +kernel
theorem d_RS_beginImage_29 : decode M_RS_beginImage.2.1 29 = .ok (.getfield 19, 3) := by decide +kernel
theorem d_RS_beginImage_32 : decode M_RS_beginImage.2.1 32 = .ok (.iload_n 1, 1) := by decide +kernel
theorem d_RS_beginImage_33 : decode M_RS_beginImage.2.1 33 = .ok (.invokevirtual 192, 3) := by decide +kernel
theorem d_RS_beginImage_36 : decode M_RS_beginImage.2.1 36 = .ok (.aload_n 0, 1) := by decide +kernel
theorem d_RS_beginImage_37 : decode M_RS_beginImage.2.1 37 = .ok (.dup, 1) := by decide +kernel
theorem d_RS_beginImage_38 : decode M_RS_beginImage.2.1 38 = .ok (.getfield 81, 3) := by decide +kernel
theorem d_RS_beginImage_41 : decode M_RS_beginImage.2.1 41 = .ok (.iconst (1), 1) := by decide +kernel
theorem d_RS_beginImage_42 : decode M_RS_beginImage.2.1 42 = .ok (.iload_n 1, 1) := by decide +kernel
theorem d_RS_beginImage_43 : decode M_RS_beginImage.2.1 43 = .ok (.ishl, 1) := by decide +kernel
theorem d_RS_beginImage_44 : decode M_RS_beginImage.2.1 44 = .ok (.iconst (-1), 1) := by decide +kernel
theorem d_RS_beginImage_45 : decode M_RS_beginImage.2.1 45 = .ok (.ixor, 1) := by decide +kernel
theorem d_RS_beginImage_46 : decode M_RS_beginImage.2.1 46 = .ok (.iand, 1) := by decide +kernel
theorem d_RS_beginImage_47 : decode M_RS_beginImage.2.1 47 = .ok (.putfield 81, 3) := by decide +kernel
theorem d_RS_beginImage_50 : decode M_RS_beginImage.2.1 50 = .ok (.return_, 1) := by decide +kernel
theorem d_RS_planRowSector_0 : decode M_RS_planRowSector.2.1 0 = .ok (.aload_n 0, 1) := by decide +kernel
theorem d_RS_planRowSector_1 : decode M_RS_planRowSector.2.1 1 = .ok (.getfield 43, 3) := by decide +kernel
theorem d_RS_planRowSector_4 : decode M_RS_planRowSector.2.1 4 = .ok (.aload_n 0, 1) := by decide +kernel
theorem d_RS_planRowSector_5 : decode M_RS_planRowSector.2.1 5 = .ok (.getfield 121, 3) := by decide +kernel
theorem d_RS_planRowSector_8 : decode M_RS_planRowSector.2.1 8 = .ok (.iload_n 1, 1) := by decide +kernel
theorem d_RS_planRowSector_9 : decode M_RS_planRowSector.2.1 9 = .ok (.iadd, 1) := by decide +kernel
theorem d_RS_planRowSector_10 : decode M_RS_planRowSector.2.1 10 = .ok (.invokestatic 195, 3) := by decide +kernel
theorem d_RS_planRowSector_13 : decode M_RS_planRowSector.2.1 13 = .ok (.aload_n 0, 1) := by decide +kernel
theorem d_RS_planRowSector_14 : decode M_RS_planRowSector.2.1 14 = .ok (.getfield 29, 3) := by decide +kernel
theorem d_RS_planRowSector_17 : decode M_RS_planRowSector.2.1 17 = .ok (.iload_n 1, 1) := by decide +kernel
theorem d_RS_planRowSector_18 : decode M_RS_planRowSector.2.1 18 = .ok (.iconst (0), 1) := by decide +kernel
theorem d_RS_planRowSector_19 : decode M_RS_planRowSector.2.1 19 = .ok (.invokevirtual 198, 3) := by decide +kernel
theorem d_RS_planRowSector_22 : decode M_RS_planRowSector.2.1 22 = .ok (.aload_n 0, 1) := by decide +kernel
theorem d_RS_planRowSector_23 : decode M_RS_planRowSector.2.1 23 = .ok (.getfield 29, 3) := by decide +kernel
theorem d_RS_planRowSector_26 : decode M_RS_planRowSector.2.1 26 = .ok (.iload_n 1, 1) := by decide +kernel
theorem d_RS_planRowSector_27 : decode M_RS_planRowSector.2.1 27 = .ok (.iconst (1), 1) := by decide +kernel
theorem d_RS_planRowSector_28 : decode M_RS_planRowSector.2.1 28 = .ok (.invokevirtual 198, 3) := by decide +kernel
theorem d_RS_planRowSector_31 : decode M_RS_planRowSector.2.1 31 = .ok (.aload_n 0, 1) := by decide +kernel
theorem d_RS_planRowSector_32 : decode M_RS_planRowSector.2.1 32 = .ok (.getfield 29, 3) := by decide +kernel
theorem d_RS_planRowSector_35 : decode M_RS_planRowSector.2.1 35 = .ok (.iload_n 1, 1) := by decide +kernel
theorem d_RS_planRowSector_36 : decode M_RS_planRowSector.2.1 36 = .ok (.iconst (2), 1) := by decide +kernel
theorem d_RS_planRowSector_37 : decode M_RS_planRowSector.2.1 37 = .ok (.invokevirtual 198, 3) := by decide +kernel
theorem d_RS_planRowSector_40 : decode M_RS_planRowSector.2.1 40 = .ok (.aload_n 0, 1) := by decide +kernel
theorem d_RS_planRowSector_41 : decode M_RS_planRowSector.2.1 41 = .ok (.getfield 29, 3) := by decide +kernel
theorem d_RS_planRowSector_44 : decode M_RS_planRowSector.2.1 44 = .ok (.iload_n 1, 1) := by decide +kernel
theorem d_RS_planRowSector_45 : decode M_RS_planRowSector.2.1 45 = .ok (.iconst (3), 1) := by decide +kernel
theorem d_RS_planRowSector_46 : decode M_RS_planRowSector.2.1 46 = .ok (.invokevirtual 198, 3) := by decide +kernel
theorem d_RS_planRowSector_49 : decode M_RS_planRowSector.2.1 49 = .ok (.invokevirtual 117, 3) := by decide +kernel
theorem d_RS_planRowSector_52 : decode M_RS_planRowSector.2.1 52 = .ok (.return_, 1) := by decide +kernel
theorem d_RS_planHead_0 : decode M_RS_planHead.2.1 0 = .ok (.aload_n 0, 1) := by decide +kernel
theorem d_RS_planHead_1 : decode M_RS_planHead.2.1 1 = .ok (.getfield 43, 3) := by decide +kernel
theorem d_RS_planHead_4 : decode M_RS_planHead.2.1 4 = .ok (.invokevirtual 110, 3) := by decide +kernel
theorem d_RS_planHead_7 : decode M_RS_planHead.2.1 7 = .ok (.aload_n 0, 1) := by decide +kernel
theorem d_RS_planHead_8 : decode M_RS_planHead.2.1 8 = .ok (.getfield 43, 3) := by decide +kernel
theorem d_RS_planHead_11 : decode M_RS_planHead.2.1 11 = .ok (.bipush (16), 2) := by decide +kernel
theorem d_RS_planHead_13 : decode M_RS_planHead.2.1 13 = .ok (.ldc 199, 2) := by decide +kernel
theorem d_RS_planHead_15 : decode M_RS_planHead.2.1 15 = .ok (.iload_n 1, 1) := by decide +kernel
theorem d_RS_planHead_16 : decode M_RS_planHead.2.1 16 = .ok (.iload_n 2, 1) := by decide +kernel
theorem d_RS_planHead_17 : decode M_RS_planHead.2.1 17 = .ok (.iconst (0), 1) := by decide +kernel
theorem d_RS_planHead_18 : decode M_RS_planHead.2.1 18 = .ok (.invokevirtual 117, 3) := by decide +kernel
theorem d_RS_planHead_21 : decode M_RS_planHead.2.1 21 = .ok (.aload_n 0, 1) := by decide +kernel
theorem d_RS_planHead_22 : decode M_RS_planHead.2.1 22 = .ok (.getfield 43, 3) := by decide +kernel
theorem d_RS_planHead_25 : decode M_RS_planHead.2.1 25 = .ok (.invokevirtual 110, 3) := by decide +kernel
theorem d_RS_planHead_28 : decode M_RS_planHead.2.1 28 = .ok (.return_, 1) := by decide +kernel
theorem d_RS_finishJob_0 : decode M_RS_finishJob.2.1 0 = .ok (.aload_n 0, 1) := by decide +kernel
theorem d_RS_finishJob_1 : decode M_RS_finishJob.2.1 1 = .ok (.getfield 43, 3) := by decide +kernel
theorem d_RS_finishJob_4 : decode M_RS_finishJob.2.1 4 = .ok (.invokevirtual 185, 3) := by decide +kernel
theorem d_RS_finishJob_7 : decode M_RS_finishJob.2.1 7 = .ok (.istore_n 1, 1) := by decide +kernel
theorem d_RS_finishJob_8 : decode M_RS_finishJob.2.1 8 = .ok (.aload_n 0, 1) := by decide +kernel
theorem d_RS_finishJob_9 : decode M_RS_finishJob.2.1 9 = .ok (.getfield 43, 3) := by decide +kernel
theorem d_RS_finishJob_12 : decode M_RS_finishJob.2.1 12 = .ok (.invokevirtual 167, 3) := by decide +kernel
theorem d_RS_finishJob_15 : decode M_RS_finishJob.2.1 15 = .ok (.iload_n 1, 1) := by decide +kernel
theorem d_RS_finishJob_16 : decode M_RS_finishJob.2.1 16 = .ok (.iconst (2), 1) := by decide +kernel
theorem d_RS_finishJob_17 : decode M_RS_finishJob.2.1 17 = .ok (.if_icmp .ne (10), 3) := by decide +kernel
theorem d_RS_finishJob_20 : decode M_RS_finishJob.2.1 20 = .ok (.aload_n 0, 1) := by decide +kernel
theorem d_RS_finishJob_21 : decode M_RS_finishJob.2.1 21 = .ok (.invokevirtual 200, 3) := by decide +kernel
theorem d_RS_finishJob_24 : decode M_RS_finishJob.2.1 24 = .ok (.goto (41), 3) := by decide +kernel
theorem d_RS_finishJob_27 : decode M_RS_finishJob.2.1 27 = .ok (.iload_n 1, 1) := by decide +kernel
theorem d_RS_finishJob_28 : decode M_RS_finishJob.2.1 28 = .ok (.iconst (3), 1) := by decide +kernel
theorem d_RS_finishJob_29 : decode M_RS_finishJob.2.1 29 = .ok (.if_icmp .ne (18), 3) := by decide +kernel
theorem d_RS_finishJob_32 : decode M_RS_finishJob.2.1 32 = .ok (.aload_n 0, 1) := by decide +kernel
theorem d_RS_finishJob_33 : decode M_RS_finishJob.2.1 33 = .ok (.getfield 23, 3) := by decide +kernel
theorem d_RS_finishJob_36 : decode M_RS_finishJob.2.1 36 = .ok (.invokevirtual 203, 3) := by decide +kernel
theorem d_RS_finishJob_39 : decode M_RS_finishJob.2.1 39 = .ok (.aload_n 0, 1) := by decide +kernel
theorem d_RS_finishJob_40 : decode M_RS_finishJob.2.1 40 = .ok (.iconst (0), 1) := by decide +kernel
theorem d_RS_finishJob_41 : decode M_RS_finishJob.2.1 41 = .ok (.putfield 98, 3) := by decide +kernel
theorem d_RS_finishJob_44 : decode M_RS_finishJob.2.1 44 = .ok (.goto (21), 3) := by decide +kernel
theorem d_RS_finishJob_47 : decode M_RS_finishJob.2.1 47 = .ok (.aload_n 0, 1) := by decide +kernel
theorem d_RS_finishJob_48 : decode M_RS_finishJob.2.1 48 = .ok (.aload_n 0, 1) := by decide +kernel
theorem d_RS_finishJob_49 : decode M_RS_finishJob.2.1 49 = .ok (.getfield 36, 3) := by decide +kernel
theorem d_RS_finishJob_52 : decode M_RS_finishJob.2.1 52 = .ok (.invokevirtual 147, 3) := by decide +kernel
theorem d_RS_finishJob_55 : decode M_RS_finishJob.2.1 55 = .ok (.aload_n 0, 1) := by decide +kernel
theorem d_RS_finishJob_56 : decode M_RS_finishJob.2.1 56 = .ok (.getfield 36, 3) := by decide +kernel
theorem d_RS_finishJob_59 : decode M_RS_finishJob.2.1 59 = .ok (.invokevirtual 150, 3) := by decide +kernel
theorem d_RS_finishJob_62 : decode M_RS_finishJob.2.1 62 = .ok (.invokevirtual 47, 3) := by decide +kernel
theorem d_RS_finishJob_65 : decode M_RS_finishJob.2.1 65 = .ok (.return_, 1) := by decide +kernel
theorem d_RS_finishCommit_0 : decode M_RS_finishCommit.2.1 0 = .ok (.aload_n 0, 1) := by decide +kernel
theorem d_RS_finishCommit_1 : decode M_RS_finishCommit.2.1 1 = .ok (.aload_n 0, 1) := by decide +kernel
theorem d_RS_finishCommit_2 : decode M_RS_finishCommit.2.1 2 = .ok (.getfield 121, 3) := by decide +kernel
theorem d_RS_finishCommit_5 : decode M_RS_finishCommit.2.1 5 = .ok (.aload_n 0, 1) := by decide +kernel
theorem d_RS_finishCommit_6 : decode M_RS_finishCommit.2.1 6 = .ok (.getfield 29, 3) := by decide +kernel
theorem d_RS_finishCommit_9 : decode M_RS_finishCommit.2.1 9 = .ok (.invokevirtual 101, 3) := by decide +kernel
theorem d_RS_finishCommit_12 : decode M_RS_finishCommit.2.1 12 = .ok (.iadd, 1) := by decide +kernel
theorem d_RS_finishCommit_13 : decode M_RS_finishCommit.2.1 13 = .ok (.bipush (24), 2) := by decide +kernel
theorem d_RS_finishCommit_15 : decode M_RS_finishCommit.2.1 15 = .ok (.irem, 1) := by decide +kernel
theorem d_RS_finishCommit_16 : decode M_RS_finishCommit.2.1 16 = .ok (.putfield 121, 3) := by decide +kernel
theorem d_RS_finishCommit_19 : decode M_RS_finishCommit.2.1 19 = .ok (.aload_n 0, 1) := by decide +kernel
theorem d_RS_finishCommit_20 : decode M_RS_finishCommit.2.1 20 = .ok (.dup, 1) := by decide +kernel
theorem d_RS_finishCommit_21 : decode M_RS_finishCommit.2.1 21 = .ok (.getfield 98, 3) := by decide +kernel
theorem d_RS_finishCommit_24 : decode M_RS_finishCommit.2.1 24 = .ok (.aload_n 0, 1) := by decide +kernel
theorem d_RS_finishCommit_25 : decode M_RS_finishCommit.2.1 25 = .ok (.getfield 29, 3) := by decide +kernel
theorem d_RS_finishCommit_28 : decode M_RS_finishCommit.2.1 28 = .ok (.invokevirtual 101, 3) := by decide +kernel
theorem d_RS_finishCommit_31 : decode M_RS_finishCommit.2.1 31 = .ok (.iadd, 1) := by decide +kernel
theorem d_RS_finishCommit_32 : decode M_RS_finishCommit.2.1 32 = .ok (.putfield 98, 3) := by decide +kernel
theorem d_RS_finishCommit_35 : decode M_RS_finishCommit.2.1 35 = .ok (.aload_n 0, 1) := by decide +kernel
theorem d_RS_finishCommit_36 : decode M_RS_finishCommit.2.1 36 = .ok (.dup, 1) := by decide +kernel
theorem d_RS_finishCommit_37 : decode M_RS_finishCommit.2.1 37 = .ok (.getfield 91, 3) := by decide +kernel
theorem d_RS_finishCommit_40 : decode M_RS_finishCommit.2.1 40 = .ok (.iconst (1), 1) := by decide +kernel
theorem d_RS_finishCommit_41 : decode M_RS_finishCommit.2.1 41 = .ok (.iadd, 1) := by decide +kernel
theorem d_RS_finishCommit_42 : decode M_RS_finishCommit.2.1 42 = .ok (.putfield 91, 3) := by decide +kernel
theorem d_RS_finishCommit_45 : decode M_RS_finishCommit.2.1 45 = .ok (.iconst (0), 1) := by decide +kernel
theorem d_RS_finishCommit_46 : decode M_RS_finishCommit.2.1 46 = .ok (.istore_n 1, 1) := by decide +kernel
theorem d_RS_finishCommit_47 : decode M_RS_finishCommit.2.1 47 = .ok (.iload_n 1, 1) := by decide +kernel
theorem d_RS_finishCommit_48 : decode M_RS_finishCommit.2.1 48 = .ok (.bipush (16), 2) := by decide +kernel
theorem d_RS_finishCommit_50 : decode M_RS_finishCommit.2.1 50 = .ok (.if_icmp .ge (51), 3) := by decide +kernel
theorem d_RS_finishCommit_53 : decode M_RS_finishCommit.2.1 53 = .ok (.aload_n 0, 1) := by decide +kernel
theorem d_RS_finishCommit_54 : decode M_RS_finishCommit.2.1 54 = .ok (.getfield 19, 3) := by decide +kernel
theorem d_RS_finishCommit_57 : decode M_RS_finishCommit.2.1 57 = .ok (.iload_n 1, 1) := by decide +kernel
theorem d_RS_finishCommit_58 : decode M_RS_finishCommit.2.1 58 = .ok (.invokevirtual 59, 3) := by decide +kernel
theorem d_RS_finishCommit_61 : decode M_RS_finishCommit.2.1 61 = .ok (.ifCond .eq (18), 3) := by decide +kernel
theorem d_RS_finishCommit_64 : decode M_RS_finishCommit.2.1 64 = .ok (.aload_n 0, 1) := by decide +kernel
theorem d_RS_finishCommit_65 : decode M_RS_finishCommit.2.1 65 = .ok (.getfield 23, 3) := by decide +kernel
theorem d_RS_finishCommit_68 : decode M_RS_finishCommit.2.1 68 = .ok (.aload_n 0, 1) := by decide +kernel
theorem d_RS_finishCommit_69 : decode M_RS_finishCommit.2.1 69 = .ok (.getfield 19, 3) := by decide +kernel
theorem d_RS_finishCommit_72 : decode M_RS_finishCommit.2.1 72 = .ok (.iload_n 1, 1) := by decide +kernel
theorem d_RS_finishCommit_73 : decode M_RS_finishCommit.2.1 73 = .ok (.invokevirtual 206, 3) := by decide +kernel
theorem d_RS_finishCommit_76 : decode M_RS_finishCommit.2.1 76 = .ok (.goto (19), 3) := by decide +kernel
theorem d_RS_finishCommit_79 : decode M_RS_finishCommit.2.1 79 = .ok (.aload_n 0, 1) := by decide +kernel
theorem d_RS_finishCommit_80 : decode M_RS_finishCommit.2.1 80 = .ok (.iload_n 1, 1) := by decide +kernel
theorem d_RS_finishCommit_81 : decode M_RS_finishCommit.2.1 81 = .ok (.invokevirtual 188, 3) := by decide +kernel
theorem d_RS_finishCommit_84 : decode M_RS_finishCommit.2.1 84 = .ok (.ifCond .eq (11), 3) := by decide +kernel
theorem d_RS_finishCommit_87 : decode M_RS_finishCommit.2.1 87 = .ok (.aload_n 0, 1) := by decide +kernel
theorem d_RS_finishCommit_88 : decode M_RS_finishCommit.2.1 88 = .ok (.getfield 23, 3) := by decide +kernel
theorem d_RS_finishCommit_91 : decode M_RS_finishCommit.2.1 91 = .ok (.iload_n 1, 1) := by decide +kernel
theorem d_RS_finishCommit_92 : decode M_RS_finishCommit.2.1 92 = .ok (.invokevirtual 78, 3) := by decide +kernel
