theorem d_MD_commit_19 : decode M_MD_commit.2.1 19 = .ok (.aload_n 0, 1) := by decide +kernel
theorem d_MD_commit_20 : decode M_MD_commit.2.1 20 = .ok (.invokevirtual 107, 3) := by decide +kernel
theorem d_MD_commit_23 : decode M_MD_commit.2.1 23 = .ok (.istore_n 1, 1) := by decide +kernel
theorem d_MD_commit_24 : decode M_MD_commit.2.1 24 = .ok (.aload_n 0, 1) := by decide +kernel
theorem d_MD_commit_25 : decode M_MD_commit.2.1 25 = .ok (.getfield 110, 3) := by decide +kernel
theorem d_MD_commit_28 : decode M_MD_commit.2.1 28 = .ok (.iload_n 1, 1) := by decide +kernel
theorem d_MD_commit_29 : decode M_MD_commit.2.1 29 = .ok (.iadd, 1) := by decide +kernel
theorem d_MD_commit_30 : decode M_MD_commit.2.1 30 = .ok (.bipush (23), 2) := by decide +kernel
theorem d_MD_commit_32 : decode M_MD_commit.2.1 32 = .ok (.if_icmp .le (6), 3) := by decide +kernel
theorem d_MD_commit_35 : decode M_MD_commit.2.1 35 = .ok (.bipush (-2), 2) := by decide +kernel
theorem d_MD_commit_37 : decode M_MD_commit.2.1 37 = .ok (.ireturn, 1) := by decide +kernel
theorem d_MD_commit_38 : decode M_MD_commit.2.1 38 = .ok (.aload_n 0, 1) := by decide +kernel
theorem d_MD_commit_39 : decode M_MD_commit.2.1 39 = .ok (.iconst (2), 1) := by decide +kernel
theorem d_MD_commit_40 : decode M_MD_commit.2.1 40 = .ok (.putfield 69, 3) := by decide +kernel
theorem d_MD_commit_43 : decode M_MD_commit.2.1 43 = .ok (.aload_n 0, 1) := by decide +kernel
theorem d_MD_commit_44 : decode M_MD_commit.2.1 44 = .ok (.iconst (0), 1) := by decide +kernel
theorem d_MD_commit_45 : decode M_MD_commit.2.1 45 = .ok (.putfield 113, 3) := by decide +kernel
theorem d_MD_commit_48 : decode M_MD_commit.2.1 48 = .ok (.aload_n 0, 1) := by decide +kernel
theorem d_MD_commit_49 : decode M_MD_commit.2.1 49 = .ok (.iload_n 1, 1) := by decide +kernel
theorem d_MD_commit_50 : decode M_MD_commit.2.1 50 = .ok (.iconst (2), 1) := by decide +kernel
theorem d_MD_commit_51 : decode M_MD_commit.2.1 51 = .ok (.iadd, 1) := by decide +kernel
theorem d_MD_commit_52 : decode M_MD_commit.2.1 52 = .ok (.putfield 116, 3) := by decide +kernel
theorem d_MD_commit_55 : decode M_MD_commit.2.1 55 = .ok (.iload_n 1, 1) := by decide +kernel
theorem d_MD_commit_56 : decode M_MD_commit.2.1 56 = .ok (.ireturn, 1) := by decide +kernel
theorem d_MD_commitAction_0 : decode M_MD_commitAction.2.1 0 = .ok (.aload_n 0, 1) := by decide +kernel
theorem d_MD_commitAction_1 : decode M_MD_commitAction.2.1 1 = .ok (.getfield 116, 3) := by decide +kernel
theorem d_MD_commitAction_4 : decode M_MD_commitAction.2.1 4 = .ok (.iconst (2), 1) := by decide +kernel
theorem d_MD_commitAction_5 : decode M_MD_commitAction.2.1 5 = .ok (.isub, 1) := by decide +kernel
theorem d_MD_commitAction_6 : decode M_MD_commitAction.2.1 6 = .ok (.istore_n 2, 1) := by decide +kernel
theorem d_MD_commitAction_7 : decode M_MD_commitAction.2.1 7 = .ok (.iload_n 1, 1) := by decide +kernel
theorem d_MD_commitAction_8 : decode M_MD_commitAction.2.1 8 = .ok (.iload_n 2, 1) := by decide +kernel
theorem d_MD_commitAction_9 : decode M_MD_commitAction.2.1 9 = .ok (.iconst (1), 1) := by decide +kernel
theorem d_MD_commitAction_10 : decode M_MD_commitAction.2.1 10 = .ok (.isub, 1) := by decide +kernel
theorem d_MD_commitAction_11 : decode M_MD_commitAction.2.1 11 = .ok (.if_icmp .ge (27), 3) := by decide +kernel
theorem d_MD_commitAction_14 : decode M_MD_commitAction.2.1 14 = .ok (.aload_n 0, 1) := by decide +kernel
theorem d_MD_commitAction_15 : decode M_MD_commitAction.2.1 15 = .ok (.iload_n 1, 1) := by decide +kernel
theorem d_MD_commitAction_16 : decode M_MD_commitAction.2.1 16 = .ok (.invokevirtual 101, 3) := by decide +kernel
theorem d_MD_commitAction_19 : decode M_MD_commitAction.2.1 19 = .ok (.aload_n 0, 1) := by decide +kernel
theorem d_MD_commitAction_20 : decode M_MD_commitAction.2.1 20 = .ok (.bipush (17), 2) := by decide +kernel
theorem d_MD_commitAction_22 : decode M_MD_commitAction.2.1 22 = .ok (.aload_n 0, 1) := by decide +kernel
theorem d_MD_commitAction_23 : decode M_MD_commitAction.2.1 23 = .ok (.getfield 119, 3) := by decide +kernel
theorem d_MD_commitAction_26 : decode M_MD_commitAction.2.1 26 = .ok (.iload_n 1, 1) := by decide +kernel
theorem d_MD_commitAction_27 : decode M_MD_commitAction.2.1 27 = .ok (.iadd, 1) := by decide +kernel
theorem d_MD_commitAction_28 : decode M_MD_commitAction.2.1 28 = .ok (.bipush (24), 2) := by decide +kernel
theorem d_MD_commitAction_30 : decode M_MD_commitAction.2.1 30 = .ok (.irem, 1) := by decide +kernel
theorem d_MD_commitAction_31 : decode M_MD_commitAction.2.1 31 = .ok (.iadd, 1) := by decide +kernel
theorem d_MD_commitAction_32 : decode M_MD_commitAction.2.1 32 = .ok (.invokevirtual 83, 3) := by decide +kernel
theorem d_MD_commitAction_35 : decode M_MD_commitAction.2.1 35 = .ok (.goto (53), 3) := by decide +kernel
theorem d_MD_commitAction_38 : decode M_MD_commitAction.2.1 38 = .ok (.iload_n 1, 1) := by decide +kernel
theorem d_MD_commitAction_39 : decode M_MD_commitAction.2.1 39 = .ok (.iload_n 2, 1) := by decide +kernel
theorem d_MD_commitAction_40 : decode M_MD_commitAction.2.1 40 = .ok (.if_icmp .ne (44), 3) := by decide +kernel
theorem d_MD_commitAction_43 : decode M_MD_commitAction.2.1 43 = .ok (.aload_n 0, 1) := by decide +kernel
theorem d_MD_commitAction_44 : decode M_MD_commitAction.2.1 44 = .ok (.iload_n 2, 1) := by decide +kernel
theorem d_MD_commitAction_45 : decode M_MD_commitAction.2.1 45 = .ok (.iconst (1), 1) := by decide +kernel
theorem d_MD_commitAction_46 : decode M_MD_commitAction.2.1 46 = .ok (.isub, 1) := by decide +kernel
theorem d_MD_commitAction_47 : decode M_MD_commitAction.2.1 47 = .ok (.invokevirtual 122, 3) := by decide +kernel
theorem d_MD_commitAction_50 : decode M_MD_commitAction.2.1 50 = .ok (.istore_n 3, 1) := by decide +kernel
theorem d_MD_commitAction_51 : decode M_MD_commitAction.2.1 51 = .ok (.aload_n 0, 1) := by decide +kernel
theorem d_MD_commitAction_52 : decode M_MD_commitAction.2.1 52 = .ok (.ldc 49, 2) := by decide +kernel
theorem d_MD_commitAction_54 : decode M_MD_commitAction.2.1 54 = .ok (.iconst (3), 1) := by decide +kernel
theorem d_MD_commitAction_55 : decode M_MD_commitAction.2.1 55 = .ok (.aload_n 0, 1) := by decide +kernel
theorem d_MD_commitAction_56 : decode M_MD_commitAction.2.1 56 = .ok (.getfield 23, 3) := by decide +kernel
theorem d_MD_commitAction_59 : decode M_MD_commitAction.2.1 59 = .ok (.iload_n 3, 1) := by decide +kernel
theorem d_MD_commitAction_60 : decode M_MD_commitAction.2.1 60 = .ok (.invokevirtual 94, 3) := by decide +kernel
theorem d_MD_commitAction_63 : decode M_MD_commitAction.2.1 63 = .ok (.aload_n 0, 1) := by decide +kernel
theorem d_MD_commitAction_64 : decode M_MD_commitAction.2.1 64 = .ok (.bipush (17), 2) := by decide +kernel
theorem d_MD_commitAction_66 : decode M_MD_commitAction.2.1 66 = .ok (.aload_n 0, 1) := by decide +kernel
theorem d_MD_commitAction_67 : decode M_MD_commitAction.2.1 67 = .ok (.getfield 119, 3) := by decide +kernel
theorem d_MD_commitAction_70 : decode M_MD_commitAction.2.1 70 = .ok (.iload_n 2, 1) := by decide +kernel
theorem d_MD_commitAction_71 : decode M_MD_commitAction.2.1 71 = .ok (.iadd, 1) := by decide +kernel
theorem d_MD_commitAction_72 : decode M_MD_commitAction.2.1 72 = .ok (.iconst (1), 1) := by decide +kernel
theorem d_MD_commitAction_73 : decode M_MD_commitAction.2.1 73 = .ok (.isub, 1) := by decide +kernel
theorem d_MD_commitAction_74 : decode M_MD_commitAction.2.1 74 = .ok (.bipush (24), 2) := by decide +kernel
theorem d_MD_commitAction_76 : decode M_MD_commitAction.2.1 76 = .ok (.irem, 1) := by decide +kernel
theorem d_MD_commitAction_77 : decode M_MD_commitAction.2.1 77 = .ok (.iadd, 1) := by decide +kernel
theorem d_MD_commitAction_78 : decode M_MD_commitAction.2.1 78 = .ok (.invokevirtual 83, 3) := by decide +kernel
theorem d_MD_commitAction_81 : decode M_MD_commitAction.2.1 81 = .ok (.goto (7), 3) := by decide +kernel
theorem d_MD_commitAction_84 : decode M_MD_commitAction.2.1 84 = .ok (.aload_n 0, 1) := by decide +kernel
theorem d_MD_commitAction_85 : decode M_MD_commitAction.2.1 85 = .ok (.invokevirtual 125, 3) := by decide +kernel
theorem d_MD_commitAction_88 : decode M_MD_commitAction.2.1 88 = .ok (.return_, 1) := by decide +kernel
theorem d_MD_committed_0 : decode M_MD_committed.2.1 0 = .ok (.aload_n 0, 1) := by decide +kernel
theorem d_MD_committed_1 : decode M_MD_committed.2.1 1 = .ok (.getfield 116, 3) := by decide +kernel
theorem d_MD_committed_4 : decode M_MD_committed.2.1 4 = .ok (.iconst (2), 1) := by decide +kernel
theorem d_MD_committed_5 : decode M_MD_committed.2.1 5 = .ok (.isub, 1) := by decide +kernel
theorem d_MD_committed_6 : decode M_MD_committed.2.1 6 = .ok (.istore_n 1, 1) := by decide +kernel
theorem d_MD_committed_7 : decode M_MD_committed.2.1 7 = .ok (.aload_n 0, 1) := by decide +kernel
theorem d_MD_committed_8 : decode M_MD_committed.2.1 8 = .ok (.aload_n 0, 1) := by decide +kernel
theorem d_MD_committed_9 : decode M_MD_committed.2.1 9 = .ok (.getfield 119, 3) := by decide +kernel
theorem d_MD_committed_12 : decode M_MD_committed.2.1 12 = .ok (.iload_n 1, 1) := by decide +kernel
theorem d_MD_committed_13 : decode M_MD_committed.2.1 13 = .ok (.iadd, 1) := by decide +kernel
theorem d_MD_committed_14 : decode M_MD_committed.2.1 14 = .ok (.bipush (24), 2) := by decide +kernel
theorem d_MD_committed_16 : decode M_MD_committed.2.1 16 = .ok (.irem, 1) := by decide +kernel
theorem d_MD_committed_17 : decode M_MD_committed.2.1 17 = .ok (.putfield 119, 3) := by decide +kernel
theorem d_MD_committed_20 : decode M_MD_committed.2.1 20 = .ok (.aload_n 0, 1) := by decide +kernel
theorem d_MD_committed_21 : decode M_MD_committed.2.1 21 = .ok (.aload_n 0, 1) := by decide +kernel
theorem d_MD_committed_22 : decode M_MD_committed.2.1 22 = .ok (.getfield 110, 3) := by decide +kernel
theorem d_MD_committed_25 : decode M_MD_committed.2.1 25 = .ok (.iload_n 1, 1) := by decide +kernel
theorem d_MD_committed_26 : decode M_MD_committed.2.1 26 = .ok (.iadd, 1) := by decide +kernel
theorem d_MD_committed_27 : decode M_MD_committed.2.1 27 = .ok (.putfield 110, 3) := by decide +kernel
theorem d_MD_committed_30 : decode M_MD_committed.2.1 30 = .ok (.aload_n 0, 1) := by decide +kernel
theorem d_MD_committed_31 : decode M_MD_committed.2.1 31 = .ok (.aload_n 0, 1) := by decide +kernel
theorem d_MD_committed_32 : decode M_MD_committed.2.1 32 = .ok (.getfield 23, 3) := by decide +kernel
theorem d_MD_committed_35 : decode M_MD_committed.2.1 35 = .ok (.iconst (1), 1) := by decide +kernel
theorem d_MD_committed_36 : decode M_MD_committed.2.1 36 = .ok (.iadd, 1) := by decide +kernel
theorem d_MD_committed_37 : decode M_MD_committed.2.1 37 = .ok (.putfield 23, 3) := by decide +kernel
theorem d_MD_committed_40 : decode M_MD_committed.2.1 40 = .ok (.iconst (0), 1) := by decide +kernel
theorem d_MD_committed_41 : decode M_MD_committed.2.1 41 = .ok (.istore_n 2, 1) := by decide +kernel
theorem d_MD_committed_42 : decode M_MD_committed.2.1 42 = .ok (.iload_n 2, 1) := by decide +kernel
theorem d_MD_committed_43 : decode M_MD_committed.2.1 43 = .ok (.bipush (16), 2) := by decide +kernel
theorem d_MD_committed_45 : decode M_MD_committed.2.1 45 = .ok (.if_icmp .ge (111), 3) := by decide +kernel
theorem d_MD_committed_48 : decode M_MD_committed.2.1 48 = .ok (.iconst (0), 1) := by decide +kernel
theorem d_MD_committed_49 : decode M_MD_committed.2.1 49 = .ok (.istore_n 3, 1) := by decide +kernel
theorem d_MD_committed_50 : decode M_MD_committed.2.1 50 = .ok (.iload_n 3, 1) := by decide +kernel
theorem d_MD_committed_51 : decode M_MD_committed.2.1 51 = .ok (.iconst (4), 1) := by decide +kernel
theorem d_MD_committed_52 : decode M_MD_committed.2.1 52 = .ok (.if_icmp .ge (52), 3) := by decide +kernel
theorem d_MD_committed_55 : decode M_MD_committed.2.1 55 = .ok (.aload_n 0, 1) := by decide +kernel
theorem d_MD_committed_56 : decode M_MD_committed.2.1 56 = .ok (.getfield 37, 3) := by decide +kernel
theorem d_MD_committed_59 : decode M_MD_committed.2.1 59 = .ok (.iconst (4), 1) := by decide +kernel
theorem d_MD_committed_60 : decode M_MD_committed.2.1 60 = .ok (.iload_n 2, 1) := by decide +kernel
theorem d_MD_committed_61 : decode M_MD_committed.2.1 61 = .ok (.imul, 1) := by decide +kernel
theorem d_MD_committed_62 : decode M_MD_committed.2.1 62 = .ok (.iload_n 3, 1) := by decide +kernel
theorem d_MD_committed_63 : decode M_MD_committed.2.1 63 = .ok (.iadd, 1) := by decide +kernel
theorem d_MD_committed_64 : decode M_MD_committed.2.1 64 = .ok (.aload_n 0, 1) := by decide +kernel
theorem d_MD_committed_65 : decode M_MD_committed.2.1 65 = .ok (.getfield 27, 3) := by decide +kernel
theorem d_MD_committed_68 : decode M_MD_committed.2.1 68 = .ok (.iload_n 2, 1) := by decide +kernel
theorem d_MD_committed_69 : decode M_MD_committed.2.1 69 = .ok (.iaload, 1) := by decide +kernel
theorem d_MD_committed_70 : decode M_MD_committed.2.1 70 = .ok (.iconst (1), 1) := by decide +kernel
theorem d_MD_committed_71 : decode M_MD_committed.2.1 71 = .ok (.if_icmp .ne (16), 3) := by decide +kernel
theorem d_MD_committed_74 : decode M_MD_committed.2.1 74 = .ok (.aload_n 0, 1) := by decide +kernel
theorem d_MD_committed_75 : decode M_MD_committed.2.1 75 = .ok (.getfield 30, 3) := by decide +kernel
theorem d_MD_committed_78 : decode M_MD_committed.2.1 78 = .ok (.iconst (4), 1) := by decide +kernel
theorem d_MD_committed_79 : decode M_MD_committed.2.1 79 = .ok (.iload_n 2, 1) := by decide +kernel
theorem d_MD_committed_80 : decode M_MD_committed.2.1 80 = .ok (.imul, 1) := by decide +kernel
theorem d_MD_committed_81 : decode M_MD_committed.2.1 81 = .ok (.iload_n 3, 1) := by decide +kernel
theorem d_MD_committed_82 : decode M_MD_committed.2.1 82 = .ok (.iadd, 1) := by decide +kernel
theorem d_MD_committed_83 : decode M_MD_committed.2.1 83 = .ok (.iaload, 1) := by decide +kernel
theorem d_MD_committed_84 : decode M_MD_committed.2.1 84 = .ok (.goto (13), 3) := by decide +kernel
theorem d_MD_committed_87 : decode M_MD_committed.2.1 87 = .ok (.aload_n 0, 1) := by decide +kernel
theorem d_MD_committed_88 : decode M_MD_committed.2.1 88 = .ok (.getfield 37, 3) := by decide +kernel
theorem d_MD_committed_91 : decode M_MD_committed.2.1 91 = .ok (.iconst (4), 1) := by decide +kernel
theorem d_MD_committed_92 : decode M_MD_committed.2.1 92 = .ok (.iload_n 2, 1) := by decide +kernel
theorem d_MD_committed_93 : decode M_MD_committed.2.1 93 = .ok (.imul, 1) := by decide +kernel
theorem d_MD_committed_94 : decode M_MD_committed.2.1 94 = .ok (.iload_n 3, 1) := by decide +kernel
theorem d_MD_committed_95 : decode M_MD_committed.2.1 95 = .ok (.iadd, 1) := by decide +kernel
theorem d_MD_committed_96 : decode M_MD_committed.2.1 96 = .ok (.iaload, 1) := by decide +kernel
theorem d_MD_committed_97 : decode M_MD_committed.2.1 97 = .ok (.iastore, 1) := by decide +kernel
theorem d_MD_committed_98 : decode M_MD_committed.2.1 98 = .ok (.iinc 3 (1), 3) := by decide +kernel
theorem d_MD_committed_101 : decode M_MD_committed.2.1 101 = .ok (.goto (-51), 3) := by decide +kernel
theorem d_MD_committed_104 : decode M_MD_committed.2.1 104 = .ok (.aload_n 0, 1) := by decide +kernel
theorem d_MD_committed_105 : decode M_MD_committed.2.1 105 = .ok (.getfield 33, 3) := by decide +kernel
theorem d_MD_committed_108 : decode M_MD_committed.2.1 108 = .ok (.iload_n 2, 1) := by decide +kernel
theorem d_MD_committed_109 : decode M_MD_committed.2.1 109 = .ok (.aload_n 0, 1) := by decide +kernel
theorem d_MD_committed_110 : decode M_MD_committed.2.1 110 = .ok (.getfield 27, 3) := by decide +kernel
theorem d_MD_committed_113 : decode M_MD_committed.2.1 113 = .ok (.iload_n 2, 1) := by decide +kernel
theorem d_MD_committed_114 : decode M_MD_committed.2.1 114 = .ok (.iaload, 1) := by decide +kernel
theorem d_MD_committed_115 : decode M_MD_committed.2.1 115 = .ok (.iconst (1), 1) := by decide +kernel
theorem d_MD_committed_116 : decode M_MD_committed.2.1 116 = .ok (.if_icmp .eq (21), 3) := by decide +kernel
theorem d_MD_committed_119 : decode M_MD_committed.2.1 119 = .ok (.aload_n 0, 1) := by decide +kernel
theorem d_MD_committed_120 : decode M_MD_committed.2.1 120 = .ok (.getfield 27, 3) := by decide +kernel
theorem d_MD_committed_123 : decode M_MD_committed.2.1 123 = .ok (.iload_n 2, 1) := by decide +kernel
theorem d_MD_committed_124 : decode M_MD_committed.2.1 124 = .ok (.iaload, 1) := by decide +kernel
theorem d_MD_committed_125 : decode M_MD_committed.2.1 125 = .ok (.ifCond .ne (16), 3) := by decide +kernel
theorem d_MD_committed_128 : decode M_MD_committed.2.1 128 = .ok (.aload_n 0, 1) := by decide +kernel
theorem d_MD_committed_129 : decode M_MD_committed.2.1 129 = .ok (.getfield 33, 3) := by decide +kernel
theorem d_MD_committed_132 : decode M_MD_committed.2.1 132 = .ok (.iload_n 2, 1) := by decide +kernel
theorem d_MD_committed_133 : decode M_MD_committed.2.1 133 = .ok (.baload, 1) := by decide +kernel
theorem d_MD_committed_134 : decode M_MD_committed.2.1 134 = .ok (.ifCond .eq (7), 3) := by decide +kernel
theorem d_MD_committed_137 : decode M_MD_committed.2.1 137 = .ok (.iconst (1), 1) := by decide +kernel
theorem d_MD_committed_138 : decode M_MD_committed.2.1 138 = .ok (.goto (4), 3) := by decide +kernel
theorem d_MD_committed_141 : decode M_MD_committed.2.1 141 = .ok (.iconst (0), 1) := by decide +kernel
theorem d_MD_committed_142 : decode M_MD_committed.2.1 142 = .ok (.bastore, 1) := by decide +kernel
theorem d_MD_committed_143 : decode M_MD_committed.2.1 143 = .ok (.aload_n 0, 1) := by decide +kernel
theorem d_MD_committed_144 : decode M_MD_committed.2.1 144 = .ok (.getfield 27, 3) := by decide +kernel
theorem d_MD_committed_147 : decode M_MD_committed.2.1 147 = .ok (.iload_n 2, 1) := by decide +kernel
theorem d_MD_committed_148 : decode M_MD_committed.2.1 148 = .ok (.iconst (0), 1) := by decide +kernel
theorem d_MD_committed_149 : decode M_MD_committed.2.1 149 = .ok (.iastore, 1) := by decide +kernel
theorem d_MD_committed_150 : decode M_MD_committed.2.1 150 = .ok (.iinc 2 (1), 3) := by decide +kernel
theorem d_MD_committed_153 : decode M_MD_committed.2.1 153 = .ok (.goto (-111), 3) := by decide +kernel
theorem d_MD_committed_156 : decode M_MD_committed.2.1 156 = .ok (.return_, 1) := by decide +kernel
theorem d_MD_countPending_0 : decode M_MD_countPending.2.1 0 = .ok (.iconst (0), 1) := by decide +kernel
theorem d_MD_countPending_1 : decode M_MD_countPending.2.1 1 = .ok (.istore_n 1, 1) := by decide +kernel
theorem d_MD_countPending_2 : decode M_MD_countPending.2.1 2 = .ok (.iconst (0), 1) := by decide +kernel
theorem d_MD_countPending_3 : decode M_MD_countPending.2.1 3 = .ok (.istore_n 2, 1) := by decide +kernel
theorem d_MD_countPending_4 : decode M_MD_countPending.2.1 4 = .ok (.iload_n 2, 1) := by decide +kernel
theorem d_MD_countPending_5 : decode M_MD_countPending.2.1 5 = .ok (.bipush (16), 2) := by decide +kernel
theorem d_MD_countPending_7 : decode M_MD_countPending.2.1 7 = .ok (.if_icmp .ge (26), 3) := by decide +kernel
theorem d_MD_countPending_10 : decode M_MD_countPending.2.1 10 = .ok (.aload_n 0, 1) := by decide +kernel
theorem d_MD_countPending_11 : decode M_MD_countPending.2.1 11 = .ok (.getfield 33, 3) := by decide +kernel
theorem d_MD_countPending_14 : decode M_MD_countPending.2.1 14 = .ok (.iload_n 2, 1) := by decide +kernel
theorem d_MD_countPending_15 : decode M_MD_countPending.2.1 15 = .ok (.baload, 1) := by decide +kernel
theorem d_MD_countPending_16 : decode M_MD_countPending.2.1 16 = .ok (.ifCond .eq (9), 3) := by decide +kernel
theorem d_MD_countPending_19 : decode M_MD_countPending.2.1 19 = .ok (.iload_n 1, 1) := by decide +kernel
theorem d_MD_countPending_20 : decode M_MD_countPending.2.1 20 = .ok (.iconst (1), 1) := by decide +kernel
theorem d_MD_countPending_21 : decode M_MD_countPending.2.1 21 = .ok (.iadd, 1) := by decide +kernel
theorem d_MD_countPending_22 : decode M_MD_countPending.2.1 22 = .ok (.goto (4), 3) := by decide +kernel
theorem d_MD_countPending_25 : decode M_MD_countPending.2.1 25 = .ok (.iload_n 1, 1) := by decide +kernel
theorem d_MD_countPending_26 : decode M_MD_countPending.2.1 26 = .ok (.istore_n 1, 1) := by decide +kernel
theorem d_MD_countPending_27 : decode M_MD_countPending.2.1 27 = .ok (.iinc 2 (1), 3) := by decide +kernel
theorem d_MD_countPending_30 : decode M_MD_countPending.2.1 30 = .ok (.goto (-26), 3) := by decide +kernel
theorem d_MD_countPending_33 : decode M_MD_countPending.2.1 33 = .ok (.iload_n 1, 1) := by decide +kernel
theorem d_MD_countPending_34 : decode M_MD_countPending.2.1 34 = .ok (.ireturn, 1) := by decide +kernel
theorem d_MD_checkpoint_0 : decode M_MD_checkpoint.2.1 0 = .ok (.aload_n 0, 1) := by decide +kernel
theorem d_MD_checkpoint_1 : decode M_MD_checkpoint.2.1 1 = .ok (.invokevirtual 72, 3) := by decide +kernel
theorem d_MD_checkpoint_4 : decode M_MD_checkpoint.2.1 4 = .ok (.ifCond .ne (5), 3) := by decide +kernel
theorem d_MD_checkpoint_7 : decode M_MD_checkpoint.2.1 7 = .ok (.iconst (-1), 1) := by decide +kernel
theorem d_MD_checkpoint_8 : decode M_MD_checkpoint.2.1 8 = .ok (.ireturn, 1) := by decide +kernel
theorem d_MD_checkpoint_9 : decode M_MD_checkpoint.2.1 9 = .ok (.aload_n 0, 1) := by decide +kernel
theorem d_MD_checkpoint_10 : decode M_MD_checkpoint.2.1 10 = .ok (.iconst (3), 1) := by decide +kernel
theorem d_MD_checkpoint_11 : decode M_MD_checkpoint.2.1 11 = .ok (.putfield 69, 3) := by decide +kernel
theorem d_MD_checkpoint_14 : decode M_MD_checkpoint.2.1 14 = .ok (.aload_n 0, 1) := by decide +kernel
theorem d_MD_checkpoint_15 : decode M_MD_checkpoint.2.1 15 = .ok (.iconst (0), 1) := by decide +kernel
theorem d_MD_checkpoint_16 : decode M_MD_checkpoint.2.1 16 = .ok (.putfield 113, 3) := by decide +kernel
theorem d_MD_checkpoint_19 : decode M_MD_checkpoint.2.1 19 = .ok (.aload_n 0, 1) := by decide +kernel
theorem d_MD_checkpoint_20 : decode M_MD_checkpoint.2.1 20 = .ok (.aload_n 0, 1) := by decide +kernel
theorem d_MD_checkpoint_21 : decode M_MD_checkpoint.2.1 21 = .ok (.invokevirtual 128, 3) := by decide +kernel
theorem d_MD_checkpoint_24 : decode M_MD_checkpoint.2.1 24 = .ok (.iconst (3), 1) := by decide +kernel
theorem d_MD_checkpoint_25 : decode M_MD_checkpoint.2.1 25 = .ok (.iadd, 1) := by decide +kernel
theorem d_MD_checkpoint_26 : decode M_MD_checkpoint.2.1 26 = .ok (.putfield 116, 3) := by decide +kernel
theorem d_MD_checkpoint_29 : decode M_MD_checkpoint.2.1 29 = .ok (.aload_n 0, 1) := by decide +kernel
theorem d_MD_checkpoint_30 : decode M_MD_checkpoint.2.1 30 = .ok (.getfield 116, 3) := by decide +kernel
theorem d_MD_checkpoint_33 : decode M_MD_checkpoint.2.1 33 = .ok (.iconst (3), 1) := by decide +kernel
theorem d_MD_checkpoint_34 : decode M_MD_checkpoint.2.1 34 = .ok (.isub, 1) := by decide +kernel
theorem d_MD_checkpoint_35 : decode M_MD_checkpoint.2.1 35 = .ok (.ireturn, 1) := by decide +kernel
theorem d_MD_checkpointAction_0 : decode M_MD_checkpointAction.2.1 0 = .ok (.aload_n 0, 1) := by decide +kernel
theorem d_MD_checkpointAction_1 : decode M_MD_checkpointAction.2.1 1 = .ok (.getfield 116, 3) := by decide +kernel
theorem d_MD_checkpointAction_4 : decode M_MD_checkpointAction.2.1 4 = .ok (.iconst (3), 1) := by decide +kernel
theorem d_MD_checkpointAction_5 : decode M_MD_checkpointAction.2.1 5 = .ok (.isub, 1) := by decide +kernel
theorem d_MD_checkpointAction_6 : decode M_MD_checkpointAction.2.1 6 = .ok (.istore_n 2, 1) := by decide +kernel
theorem d_MD_checkpointAction_7 : decode M_MD_checkpointAction.2.1 7 = .ok (.iload_n 1, 1) := by decide +kernel
theorem d_MD_checkpointAction_8 : decode M_MD_checkpointAction.2.1 8 = .ok (.iload_n 2, 1) := by decide +kernel
theorem d_MD_checkpointAction_9 : decode M_MD_checkpointAction.2.1 9 = .ok (.if_icmp .ge (117), 3) := by decide +kernel
theorem d_MD_checkpointAction_12 : decode M_MD_checkpointAction.2.1 12 = .ok (.iconst (0), 1) := by decide +kernel
theorem d_MD_checkpointAction_13 : decode M_MD_checkpointAction.2.1 13 = .ok (.istore_n 3, 1) := by decide +kernel
theorem d_MD_checkpointAction_14 : decode M_MD_checkpointAction.2.1 14 = .ok (.iconst (0), 1) := by decide +kernel
theorem d_MD_checkpointAction_15 : decode M_MD_checkpointAction.2.1 15 = .ok (.istore 4, 2) := by decide +kernel
theorem d_MD_checkpointAction_17 : decode M_MD_checkpointAction.2.1 17 = .ok (.iload 4, 2) := by decide +kernel
theorem d_MD_checkpointAction_19 : decode M_MD_checkpointAction.2.1 19 = .ok (.bipush (16), 2) := by decide +kernel
theorem d_MD_checkpointAction_21 : decode M_MD_checkpointAction.2.1 21 = .ok (.if_icmp .ge (94), 3) := by decide +kernel
theorem d_MD_checkpointAction_24 : decode M_MD_checkpointAction.2.1 24 = .ok (.aload_n 0, 1) := by decide +kernel
theorem d_MD_checkpointAction_25 : decode M_MD_checkpointAction.2.1 25 = .ok (.getfield 33, 3) := by decide +kernel
theorem d_MD_checkpointAction_28 : decode M_MD_checkpointAction.2.1 28 = .ok (.iload 4, 2) := by decide +kernel
theorem d_MD_checkpointAction_30 : decode M_MD_checkpointAction.2.1 30 = .ok (.baload, 1) := by decide +kernel
theorem d_MD_checkpointAction_31 : decode M_MD_checkpointAction.2.1 31 = .ok (.ifCond .eq (60), 3) := by decide +kernel
theorem d_MD_checkpointAction_34 : decode M_MD_checkpointAction.2.1 34 = .ok (.iload_n 3, 1) := by decide +kernel
theorem d_MD_checkpointAction_35 : decode M_MD_checkpointAction.2.1 35 = .ok (.iload_n 1, 1) := by decide +kernel
theorem d_MD_checkpointAction_36 : decode M_MD_checkpointAction.2.1 36 = .ok (.if_icmp .ne (55), 3) := by decide +kernel
theorem d_MD_checkpointAction_39 : decode M_MD_checkpointAction.2.1 39 = .ok (.aload_n 0, 1) := by decide +kernel
theorem d_MD_checkpointAction_40 : decode M_MD_checkpointAction.2.1 40 = .ok (.aload_n 0, 1) := by decide +kernel
theorem d_MD_checkpointAction_41 : decode M_MD_checkpointAction.2.1 41 = .ok (.getfield 37, 3) := by decide +kernel
theorem d_MD_checkpointAction_44 : decode M_MD_checkpointAction.2.1 44 = .ok (.iconst (4), 1) := by decide +kernel
theorem d_MD_checkpointAction_45 : decode M_MD_checkpointAction.2.1 45 = .ok (.iload 4, 2) := by decide +kernel
theorem d_MD_checkpointAction_47 : decode M_MD_checkpointAction.2.1 47 = .ok (.imul, 1) := by decide +kernel
theorem d_MD_checkpointAction_48 : decode M_MD_checkpointAction.2.1 48 = .ok (.iaload, 1) := by decide +kernel
theorem d_MD_checkpointAction_49 : decode M_MD_checkpointAction.2.1 49 = .ok (.aload_n 0, 1) := by decide +kernel
theorem d_MD_checkpointAction_50 : decode M_MD_checkpointAction.2.1 50 = .ok (.getfield 37, 3) := by decide +kernel
theorem d_MD_checkpointAction_53 : decode M_MD_checkpointAction.2.1 53 = .ok (.iconst (4), 1) := by decide +kernel
theorem d_MD_checkpointAction_54 : decode M_MD_checkpointAction.2.1 54 = .ok (.iload 4, 2) := by decide +kernel
theorem d_MD_checkpointAction_56 : decode M_MD_checkpointAction.2.1 56 = .ok (.imul, 1) := by decide +kernel
theorem d_MD_checkpointAction_57 : decode M_MD_checkpointAction.2.1 57 = .ok (.iconst (1), 1) := by decide +kernel
theorem d_MD_checkpointAction_58 : decode M_MD_checkpointAction.2.1 58 = .ok (.iadd, 1) := by decide +kernel
theorem d_MD_checkpointAction_59 : decode M_MD_checkpointAction.2.1 59 = .ok (.iaload, 1) := by decide +kernel
theorem d_MD_checkpointAction_60 : decode M_MD_checkpointAction.2.1 60 = .ok (.aload_n 0, 1) := by decide +kernel
theorem d_MD_checkpointAction_61 : decode M_MD_checkpointAction.2.1 61 = .ok (.getfield 37, 3) := by decide +kernel
theorem d_MD_checkpointAction_64 : decode M_MD_checkpointAction.2.1 64 = .ok (.iconst (4), 1) := by decide +kernel
theorem d_MD_checkpointAction_65 : decode M_MD_checkpointAction.2.1 65 = .ok (.iload 4, 2) := by decide +kernel
theorem d_MD_checkpointAction_67 : decode M_MD_checkpointAction.2.1 67 = .ok (.imul, 1) := by decide +kernel
theorem d_MD_checkpointAction_68 : decode M_MD_checkpointAction.2.1 68 = .ok (.iconst (2), 1) := by decide +kernel
theorem d_MD_checkpointAction_69 : decode M_MD_checkpointAction.2.1 69 = .ok (.iadd, 1) := by decide +kernel
theorem d_MD_checkpointAction_70 : decode M_MD_checkpointAction.2.1 70 = .ok (.iaload, 1) := by decide +kernel
theorem d_MD_checkpointAction_71 : decode M_MD_checkpointAction.2.1 71 = .ok (.aload_n 0, 1) := by decide +kernel
theorem d_MD_checkpointAction_72 : decode M_MD_checkpointAction.2.1 72 = .ok (.getfield 37, 3) := by decide +kernel
theorem d_MD_checkpointAction_75 : decode M_MD_checkpointAction.2.1 75 = .ok (.iconst (4), 1) := by decide +kernel
theorem d_MD_checkpointAction_76 : decode M_MD_checkpointAction.2.1 76 = .ok (.iload 4, 2) := by decide +kernel
theorem d_MD_checkpointAction_78 : decode M_MD_checkpointAction.2.1 78 = .ok (.imul, 1) := by decide +kernel
theorem d_MD_checkpointAction_79 : decode M_MD_checkpointAction.2.1 79 = .ok (.iconst (3), 1) := by decide +kernel
theorem d_MD_checkpointAction_80 : decode M_MD_checkpointAction.2.1 80 = .ok (.iadd, 1) := by decide +kernel
theorem d_MD_checkpointAction_81 : decode M_MD_checkpointAction.2.1 81 = .ok (.iaload, 1) := by decide +kernel
theorem d_MD_checkpointAction_82 : decode M_MD_checkpointAction.2.1 82 = .ok (.invokevirtual 94, 3) := by decide +kernel
theorem d_MD_checkpointAction_85 : decode M_MD_checkpointAction.2.1 85 = .ok (.aload_n 0, 1) := by decide +kernel
theorem d_MD_checkpointAction_86 : decode M_MD_checkpointAction.2.1 86 = .ok (.iload 4, 2) := by decide +kernel
theorem d_MD_checkpointAction_88 : decode M_MD_checkpointAction.2.1 88 = .ok (.putfield 131, 3) := by decide +kernel
theorem d_MD_checkpointAction_91 : decode M_MD_checkpointAction.2.1 91 = .ok (.aload_n 0, 1) := by decide +kernel
theorem d_MD_checkpointAction_92 : decode M_MD_checkpointAction.2.1 92 = .ok (.getfield 33, 3) := by decide +kernel
theorem d_MD_checkpointAction_95 : decode M_MD_checkpointAction.2.1 95 = .ok (.iload 4, 2) := by decide +kernel
theorem d_MD_checkpointAction_97 : decode M_MD_checkpointAction.2.1 97 = .ok (.baload, 1) := by decide +kernel
theorem d_MD_checkpointAction_98 : decode M_MD_checkpointAction.2.1 98 = .ok (.ifCond .eq (9), 3) := by decide +kernel
theorem d_MD_checkpointAction_101 : decode M_MD_checkpointAction.2.1 101 = .ok (.iload_n 3, 1) := by decide +kernel
theorem d_MD_checkpointAction_102 : decode M_MD_checkpointAction.2.1 102 = .ok (.iconst (1), 1) := by decide +kernel
theorem d_MD_checkpointAction_103 : decode M_MD_checkpointAction.2.1 103 = .ok (.iadd, 1) := by decide +kernel
theorem d_MD_checkpointAction_104 : decode M_MD_checkpointAction.2.1 104 = .ok (.goto (4), 3) := by decide +kernel
theorem d_MD_checkpointAction_107 : decode M_MD_checkpointAction.2.1 107 = .ok (.iload_n 3, 1) := by decide +kernel
theorem d_MD_checkpointAction_108 : decode M_MD_checkpointAction.2.1 108 = .ok (.istore_n 3, 1) := by decide +kernel
theorem d_MD_checkpointAction_109 : decode M_MD_checkpointAction.2.1 109 = .ok (.iinc 4 (1), 3) := by decide +kernel
theorem d_MD_checkpointAction_112 : decode M_MD_checkpointAction.2.1 112 = .ok (.goto (-95), 3) := by decide +kernel
theorem d_MD_checkpointAction_115 : decode M_MD_checkpointAction.2.1 115 = .ok (.aload_n 0, 1) := by decide +kernel
theorem d_MD_checkpointAction_116 : decode M_MD_checkpointAction.2.1 116 = .ok (.aload_n 0, 1) := by decide +kernel
theorem d_MD_checkpointAction_117 : decode M_MD_checkpointAction.2.1 117 = .ok (.getfield 131, 3) := by decide +kernel
theorem d_MD_checkpointAction_120 : decode M_MD_checkpointAction.2.1 120 = .ok (.invokevirtual 83, 3) := by decide +kernel
theorem d_MD_checkpointAction_123 : decode M_MD_checkpointAction.2.1 123 = .ok (.goto (38), 3) := by decide +kernel
theorem d_MD_checkpointAction_126 : decode M_MD_checkpointAction.2.1 126 = .ok (.iload_n 1, 1) := by decide +kernel
theorem d_MD_checkpointAction_127 : decode M_MD_checkpointAction.2.1 127 = .ok (.iload_n 2, 1) := by decide +kernel
theorem d_MD_checkpointAction_128 : decode M_MD_checkpointAction.2.1 128 = .ok (.iconst (1), 1) := by decide +kernel
theorem d_MD_checkpointAction_129 : decode M_MD_checkpointAction.2.1 129 = .ok (.iadd, 1) := by decide +kernel
theorem d_MD_checkpointAction_130 : decode M_MD_checkpointAction.2.1 130 = .ok (.if_icmp .ne (27), 3) := by decide +kernel
theorem d_MD_checkpointAction_133 : decode M_MD_checkpointAction.2.1 133 = .ok (.aload_n 0, 1) := by decide +kernel
theorem d_MD_checkpointAction_134 : decode M_MD_checkpointAction.2.1 134 = .ok (.ldc 49, 2) := by decide +kernel
theorem d_MD_checkpointAction_136 : decode M_MD_checkpointAction.2.1 136 = .ok (.aload_n 0, 1) := by decide +kernel
theorem d_MD_checkpointAction_137 : decode M_MD_checkpointAction.2.1 137 = .ok (.getfield 23, 3) := by decide +kernel
theorem d_MD_checkpointAction_140 : decode M_MD_checkpointAction.2.1 140 = .ok (.aload_n 0, 1) := by decide +kernel
theorem d_MD_checkpointAction_141 : decode M_MD_checkpointAction.2.1 141 = .ok (.getfield 119, 3) := by decide +kernel
theorem d_MD_checkpointAction_144 : decode M_MD_checkpointAction.2.1 144 = .ok (.iconst (0), 1) := by decide +kernel
theorem d_MD_checkpointAction_145 : decode M_MD_checkpointAction.2.1 145 = .ok (.invokevirtual 94, 3) := by decide +kernel
theorem d_MD_checkpointAction_148 : decode M_MD_checkpointAction.2.1 148 = .ok (.aload_n 0, 1) := by decide +kernel
theorem d_MD_checkpointAction_149 : decode M_MD_checkpointAction.2.1 149 = .ok (.bipush (16), 2) := by decide +kernel
theorem d_MD_checkpointAction_151 : decode M_MD_checkpointAction.2.1 151 = .ok (.invokevirtual 83, 3) := by decide +kernel
theorem d_MD_checkpointAction_154 : decode M_MD_checkpointAction.2.1 154 = .ok (.goto (7), 3) := by decide +kernel
theorem d_MD_checkpointAction_157 : decode M_MD_checkpointAction.2.1 157 = .ok (.aload_n 0, 1) := by decide +kernel
theorem d_MD_checkpointAction_158 : decode M_MD_checkpointAction.2.1 158 = .ok (.invokevirtual 125, 3) := by decide +kernel
theorem d_MD_checkpointAction_161 : decode M_MD_checkpointAction.2.1 161 = .ok (.return_, 1) := by decide +kernel
theorem d_MD_checkpointed_0 : decode M_MD_checkpointed.2.1 0 = .ok (.aload_n 0, 1) := by decide +kernel
theorem d_MD_checkpointed_1 : decode M_MD_checkpointed.2.1 1 = .ok (.iconst (0), 1) := by decide +kernel
theorem d_MD_checkpointed_2 : decode M_MD_checkpointed.2.1 2 = .ok (.putfield 110, 3) := by decide +kernel
theorem d_MD_checkpointed_5 : decode M_MD_checkpointed.2.1 5 = .ok (.iconst (0), 1) := by decide +kernel
theorem d_MD_checkpointed_6 : decode M_MD_checkpointed.2.1 6 = .ok (.istore_n 1, 1) := by decide +kernel
theorem d_MD_checkpointed_7 : decode M_MD_checkpointed.2.1 7 = .ok (.iload_n 1, 1) := by decide +kernel
theorem d_MD_checkpointed_8 : decode M_MD_checkpointed.2.1 8 = .ok (.bipush (16), 2) := by decide +kernel
theorem d_MD_checkpointed_10 : decode M_MD_checkpointed.2.1 10 = .ok (.if_icmp .ge (16), 3) := by decide +kernel
theorem d_MD_checkpointed_13 : decode M_MD_checkpointed.2.1 13 = .ok (.aload_n 0, 1) := by decide +kernel
theorem d_MD_checkpointed_14 : decode M_MD_checkpointed.2.1 14 = .ok (.getfield 33, 3) := by decide +kernel
theorem d_MD_checkpointed_17 : decode M_MD_checkpointed.2.1 17 = .ok (.iload_n 1, 1) := by decide +kernel
theorem d_MD_checkpointed_18 : decode M_MD_checkpointed.2.1 18 = .ok (.iconst (0), 1) := by decide +kernel
theorem d_MD_checkpointed_19 : decode M_MD_checkpointed.2.1 19 = .ok (.bastore, 1) := by decide +kernel
theorem d_MD_checkpointed_20 : decode M_MD_checkpointed.2.1 20 = .ok (.iinc 1 (1), 3) := by decide +kernel
theorem d_MD_checkpointed_23 : decode M_MD_checkpointed.2.1 23 = .ok (.goto (-16), 3) := by decide +kernel
theorem d_MD_checkpointed_26 : decode M_MD_checkpointed.2.1 26 = .ok (.return_, 1) := by decide +kernel
theorem d_MD_logWord_0 : decode M_MD_logWord.2.1 0 = .ok (.aload_n 0, 1) := by decide +kernel
theorem d_MD_logWord_1 : decode M_MD_logWord.2.1 1 = .ok (.bipush (17), 2) := by decide +kernel
theorem d_MD_logWord_3 : decode M_MD_logWord.2.1 3 = .ok (.aload_n 0, 1) := by decide +kernel
theorem d_MD_logWord_4 : decode M_MD_logWord.2.1 4 = .ok (.getfield 134, 3) := by decide +kernel
theorem d_MD_logWord_7 : decode M_MD_logWord.2.1 7 = .ok (.iload_n 1, 1) := by decide +kernel
theorem d_MD_logWord_8 : decode M_MD_logWord.2.1 8 = .ok (.iadd, 1) := by decide +kernel
theorem d_MD_logWord_9 : decode M_MD_logWord.2.1 9 = .ok (.bipush (24), 2) := by decide +kernel
theorem d_MD_logWord_11 : decode M_MD_logWord.2.1 11 = .ok (.irem, 1) := by decide +kernel
theorem d_MD_logWord_12 : decode M_MD_logWord.2.1 12 = .ok (.iadd, 1) := by decide +kernel
theorem d_MD_logWord_13 : decode M_MD_logWord.2.1 13 = .ok (.iload_n 2, 1) := by decide +kernel
theorem d_MD_logWord_14 : decode M_MD_logWord.2.1 14 = .ok (.invokevirtual 65, 3) := by decide +kernel
theorem d_MD_logWord_17 : decode M_MD_logWord.2.1 17 = .ok (.ireturn, 1) := by decide +kernel
theorem d_MD_mixSector_0 : decode M_MD_mixSector.2.1 0 = .ok (.iload_n 1, 1) := by decide +kernel
theorem d_MD_mixSector_1 : decode M_MD_mixSector.2.1 1 = .ok (.istore_n 3, 1) := by decide +kernel
theorem d_MD_mixSector_2 : decode M_MD_mixSector.2.1 2 = .ok (.iconst (0), 1) := by decide +kernel
theorem d_MD_mixSector_3 : decode M_MD_mixSector.2.1 3 = .ok (.istore 4, 2) := by decide +kernel
theorem d_MD_mixSector_5 : decode M_MD_mixSector.2.1 5 = .ok (.iload 4, 2) := by decide +kernel
theorem d_MD_mixSector_7 : decode M_MD_mixSector.2.1 7 = .ok (.iconst (4), 1) := by decide +kernel
theorem d_MD_mixSector_8 : decode M_MD_mixSector.2.1 8 = .ok (.if_icmp .ge (21), 3) := by decide +kernel
theorem d_MD_mixSector_11 : decode M_MD_mixSector.2.1 11 = .ok (.iload_n 3, 1) := by decide +kernel
theorem d_MD_mixSector_12 : decode M_MD_mixSector.2.1 12 = .ok (.aload_n 0, 1) := by decide +kernel
theorem d_MD_mixSector_13 : decode M_MD_mixSector.2.1 13 = .ok (.iload_n 2, 1) := by decide +kernel
theorem d_MD_mixSector_14 : decode M_MD_mixSector.2.1 14 = .ok (.iload 4, 2) := by decide +kernel
theorem d_MD_mixSector_16 : decode M_MD_mixSector.2.1 16 = .ok (.invokevirtual 137, 3) := by decide +kernel
theorem d_MD_mixSector_19 : decode M_MD_mixSector.2.1 19 = .ok (.invokestatic 104, 3) := by decide +kernel
theorem d_MD_mixSector_22 : decode M_MD_mixSector.2.1 22 = .ok (.istore_n 3, 1) := by decide +kernel
theorem d_MD_mixSector_23 : decode M_MD_mixSector.2.1 23 = .ok (.iinc 4 (1), 3) := by decide +kernel
theorem d_MD_mixSector_26 : decode M_MD_mixSector.2.1 26 = .ok (.goto (-21), 3) := by decide +kernel
theorem d_MD_mixSector_29 : decode M_MD_mixSector.2.1 29 = .ok (.iload_n 3, 1) := by decide +kernel
theorem d_MD_mixSector_30 : decode M_MD_mixSector.2.1 30 = .ok (.ireturn, 1) := by decide +kernel
theorem d_MD_validAt_0 : decode M_MD_validAt.2.1 0 = .ok (.iload_n 2, 1) := by decide +kernel
theorem d_MD_validAt_1 : decode M_MD_validAt.2.1 1 = .ok (.istore_n 3, 1) := by decide +kernel
theorem d_MD_validAt_2 : decode M_MD_validAt.2.1 2 = .ok (.iload_n 1, 1) := by decide +kernel
theorem d_MD_validAt_3 : decode M_MD_validAt.2.1 3 = .ok (.istore 4, 2) := by decide +kernel
theorem d_MD_validAt_5 : decode M_MD_validAt.2.1 5 = .ok (.iconst (1), 1) := by decide +kernel
theorem d_MD_validAt_6 : decode M_MD_validAt.2.1 6 = .ok (.istore 5, 2) := by decide +kernel
theorem d_MD_validAt_8 : decode M_MD_validAt.2.1 8 = .ok (.iload 4, 2) := by decide +kernel
theorem d_MD_validAt_10 : decode M_MD_validAt.2.1 10 = .ok (.bipush (24), 2) := by decide +kernel
theorem d_MD_validAt_12 : decode M_MD_validAt.2.1 12 = .ok (.if_icmp .ge (189), 3) := by decide +kernel
theorem d_MD_validAt_15 : decode M_MD_validAt.2.1 15 = .ok (.aload_n 0, 1) := by decide +kernel
theorem d_MD_validAt_16 : decode M_MD_validAt.2.1 16 = .ok (.iload 4, 2) := by decide +kernel
theorem d_MD_validAt_18 : decode M_MD_validAt.2.1 18 = .ok (.iconst (0), 1) := by decide +kernel
theorem d_MD_validAt_19 : decode M_MD_validAt.2.1 19 = .ok (.invokevirtual 137, 3) := by decide +kernel
theorem d_MD_validAt_22 : decode M_MD_validAt.2.1 22 = .ok (.ldc 49, 2) := by decide +kernel
theorem d_MD_validAt_24 : decode M_MD_validAt.2.1 24 = .ok (.if_icmp .ne (177), 3) := by decide +kernel
theorem d_MD_validAt_27 : decode M_MD_validAt.2.1 27 = .ok (.aload_n 0, 1) := by decide +kernel
theorem d_MD_validAt_28 : decode M_MD_validAt.2.1 28 = .ok (.iload 4, 2) := by decide +kernel
theorem d_MD_validAt_30 : decode M_MD_validAt.2.1 30 = .ok (.iconst (2), 1) := by decide +kernel
theorem d_MD_validAt_31 : decode M_MD_validAt.2.1 31 = .ok (.invokevirtual 137, 3) := by decide +kernel
theorem d_MD_validAt_34 : decode M_MD_validAt.2.1 34 = .ok (.iload_n 2, 1) := by decide +kernel
theorem d_MD_validAt_35 : decode M_MD_validAt.2.1 35 = .ok (.if_icmp .ne (166), 3) := by decide +kernel
theorem d_MD_validAt_38 : decode M_MD_validAt.2.1 38 = .ok (.aload_n 0, 1) := by decide +kernel
theorem d_MD_validAt_39 : decode M_MD_validAt.2.1 39 = .ok (.iload 4, 2) := by decide +kernel
theorem d_MD_validAt_41 : decode M_MD_validAt.2.1 41 = .ok (.iconst (1), 1) := by decide +kernel
theorem d_MD_validAt_42 : decode M_MD_validAt.2.1 42 = .ok (.invokevirtual 137, 3) := by decide +kernel
theorem d_MD_validAt_45 : decode M_MD_validAt.2.1 45 = .ok (.istore 6, 2) := by decide +kernel
theorem d_MD_validAt_47 : decode M_MD_validAt.2.1 47 = .ok (.aload_n 0, 1) := by decide +kernel
theorem d_MD_validAt_48 : decode M_MD_validAt.2.1 48 = .ok (.iload 4, 2) := by decide +kernel
theorem d_MD_validAt_50 : decode M_MD_validAt.2.1 50 = .ok (.iconst (3), 1) := by decide +kernel
theorem d_MD_validAt_51 : decode M_MD_validAt.2.1 51 = .ok (.invokevirtual 137, 3) := by decide +kernel
theorem d_MD_validAt_54 : decode M_MD_validAt.2.1 54 = .ok (.bipush (7), 2) := by decide +kernel
theorem d_MD_validAt_56 : decode M_MD_validAt.2.1 56 = .ok (.iand, 1) := by decide +kernel
theorem d_MD_validAt_57 : decode M_MD_validAt.2.1 57 = .ok (.istore 7, 2) := by decide +kernel
theorem d_MD_validAt_59 : decode M_MD_validAt.2.1 59 = .ok (.iload 6, 2) := by decide +kernel
theorem d_MD_validAt_61 : decode M_MD_validAt.2.1 61 = .ok (.iconst (3), 1) := by decide +kernel
theorem d_MD_validAt_62 : decode M_MD_validAt.2.1 62 = .ok (.if_icmp .ne (25), 3) := by decide +kernel
theorem d_MD_validAt_65 : decode M_MD_validAt.2.1 65 = .ok (.aload_n 0, 1) := by decide +kernel
theorem d_MD_validAt_66 : decode M_MD_validAt.2.1 66 = .ok (.iload 4, 2) := by decide +kernel
theorem d_MD_validAt_68 : decode M_MD_validAt.2.1 68 = .ok (.iconst (3), 1) := by decide +kernel
theorem d_MD_validAt_69 : decode M_MD_validAt.2.1 69 = .ok (.invokevirtual 137, 3) := by decide +kernel
theorem d_MD_validAt_72 : decode M_MD_validAt.2.1 72 = .ok (.iload_n 3, 1) := by decide +kernel
theorem d_MD_validAt_73 : decode M_MD_validAt.2.1 73 = .ok (.if_icmp .ne (12), 3) := by decide +kernel
theorem d_MD_validAt_76 : decode M_MD_validAt.2.1 76 = .ok (.iload 4, 2) := by decide +kernel
theorem d_MD_validAt_78 : decode M_MD_validAt.2.1 78 = .ok (.iconst (1), 1) := by decide +kernel
theorem d_MD_validAt_79 : decode M_MD_validAt.2.1 79 = .ok (.iadd, 1) := by decide +kernel
theorem d_MD_validAt_80 : decode M_MD_validAt.2.1 80 = .ok (.iload_n 1, 1) := by decide +kernel
theorem d_MD_validAt_81 : decode M_MD_validAt.2.1 81 = .ok (.isub, 1) := by decide +kernel
theorem d_MD_validAt_82 : decode M_MD_validAt.2.1 82 = .ok (.goto (4), 3) := by decide +kernel
theorem d_MD_validAt_85 : decode M_MD_validAt.2.1 85 = .ok (.iconst (0), 1) := by decide +kernel
theorem d_MD_validAt_86 : decode M_MD_validAt.2.1 86 = .ok (.ireturn, 1) := by decide +kernel
theorem d_MD_validAt_87 : decode M_MD_validAt.2.1 87 = .ok (.iload 6, 2) := by decide +kernel
theorem d_MD_validAt_89 : decode M_MD_validAt.2.1 89 = .ok (.iconst (1), 1) := by decide +kernel
theorem d_MD_validAt_90 : decode M_MD_validAt.2.1 90 = .ok (.if_icmp .ne (34), 3) := by decide +kernel
theorem d_MD_validAt_93 : decode M_MD_validAt.2.1 93 = .ok (.iload 5, 2) := by decide +kernel
theorem d_MD_validAt_95 : decode M_MD_validAt.2.1 95 = .ok (.ifCond .eq (29), 3) := by decide +kernel
theorem d_MD_validAt_98 : decode M_MD_validAt.2.1 98 = .ok (.iload 7, 2) := by decide +kernel
theorem d_MD_validAt_100 : decode M_MD_validAt.2.1 100 = .ok (.iconst (1), 1) := by decide +kernel
theorem d_MD_validAt_101 : decode M_MD_validAt.2.1 101 = .ok (.if_icmp .lt (23), 3) := by decide +kernel
theorem d_MD_validAt_104 : decode M_MD_validAt.2.1 104 = .ok (.iload 7, 2) := by decide +kernel
theorem d_MD_validAt_106 : decode M_MD_validAt.2.1 106 = .ok (.iconst (4), 1) := by decide +kernel
theorem d_MD_validAt_107 : decode M_MD_validAt.2.1 107 = .ok (.if_icmp .gt (17), 3) := by decide +kernel
theorem d_MD_validAt_110 : decode M_MD_validAt.2.1 110 = .ok (.iload 4, 2) := by decide +kernel
theorem d_MD_validAt_112 : decode M_MD_validAt.2.1 112 = .ok (.iload 7, 2) := by decide +kernel
theorem d_MD_validAt_114 : decode M_MD_validAt.2.1 114 = .ok (.iadd, 1) := by decide +kernel
theorem d_MD_validAt_115 : decode M_MD_validAt.2.1 115 = .ok (.bipush (24), 2) := by decide +kernel
theorem d_MD_validAt_117 : decode M_MD_validAt.2.1 117 = .ok (.if_icmp .ge (7), 3) := by decide +kernel
theorem d_MD_validAt_120 : decode M_MD_validAt.2.1 120 = .ok (.iconst (1), 1) := by decide +kernel
theorem d_MD_validAt_121 : decode M_MD_validAt.2.1 121 = .ok (.goto (4), 3) := by decide +kernel
theorem d_MD_validAt_124 : decode M_MD_validAt.2.1 124 = .ok (.iconst (0), 1) := by decide +kernel
theorem d_MD_validAt_125 : decode M_MD_validAt.2.1 125 = .ok (.istore 8, 2) := by decide +kernel
theorem d_MD_validAt_127 : decode M_MD_validAt.2.1 127 = .ok (.iload 8, 2) := by decide +kernel
theorem d_MD_validAt_129 : decode M_MD_validAt.2.1 129 = .ok (.ifCond .ne (16), 3) := by decide +kernel
theorem d_MD_validAt_132 : decode M_MD_validAt.2.1 132 = .ok (.iload 6, 2) := by decide +kernel
theorem d_MD_validAt_134 : decode M_MD_validAt.2.1 134 = .ok (.iconst (2), 1) := by decide +kernel
theorem d_MD_validAt_135 : decode M_MD_validAt.2.1 135 = .ok (.if_icmp .ne (8), 3) := by decide +kernel
theorem d_MD_validAt_138 : decode M_MD_validAt.2.1 138 = .ok (.iload 5, 2) := by decide +kernel
theorem d_MD_validAt_140 : decode M_MD_validAt.2.1 140 = .ok (.ifCond .ne (5), 3) := by decide +kernel
theorem d_MD_validAt_143 : decode M_MD_validAt.2.1 143 = .ok (.iconst (0), 1) := by decide +kernel
theorem d_MD_validAt_144 : decode M_MD_validAt.2.1 144 = .ok (.ireturn, 1) := by decide +kernel
theorem d_MD_validAt_145 : decode M_MD_validAt.2.1 145 = .ok (.iload 8, 2) := by decide +kernel
theorem d_MD_validAt_147 : decode M_MD_validAt.2.1 147 = .ok (.ifCond .eq (10), 3) := by decide +kernel
theorem d_MD_validAt_150 : decode M_MD_validAt.2.1 150 = .ok (.iconst (1), 1) := by decide +kernel
theorem d_MD_validAt_151 : decode M_MD_validAt.2.1 151 = .ok (.iload 7, 2) := by decide +kernel
theorem d_MD_validAt_153 : decode M_MD_validAt.2.1 153 = .ok (.iadd, 1) := by decide +kernel
theorem d_MD_validAt_154 : decode M_MD_validAt.2.1 154 = .ok (.goto (4), 3) := by decide +kernel
theorem d_MD_validAt_157 : decode M_MD_validAt.2.1 157 = .ok (.iconst (1), 1) := by decide +kernel
theorem d_MD_validAt_158 : decode M_MD_validAt.2.1 158 = .ok (.istore 9, 2) := by decide +kernel
theorem d_MD_validAt_160 : decode M_MD_validAt.2.1 160 = .ok (.iconst (0), 1) := by decide +kernel
theorem d_MD_validAt_161 : decode M_MD_validAt.2.1 161 = .ok (.istore 10, 2) := by decide +kernel
theorem d_MD_validAt_163 : decode M_MD_validAt.2.1 163 = .ok (.iload 10, 2) := by decide +kernel
theorem d_MD_validAt_165 : decode M_MD_validAt.2.1 165 = .ok (.iload 9, 2) := by decide +kernel
theorem d_MD_validAt_167 : decode M_MD_validAt.2.1 167 = .ok (.if_icmp .ge (20), 3) := by decide +kernel
theorem d_MD_validAt_170 : decode M_MD_validAt.2.1 170 = .ok (.aload_n 0, 1) := by decide +kernel
theorem d_MD_validAt_171 : decode M_MD_validAt.2.1 171 = .ok (.iload_n 3, 1) := by decide +kernel
theorem d_MD_validAt_172 : decode M_MD_validAt.2.1 172 = .ok (.iload 4, 2) := by decide +kernel
theorem d_MD_validAt_174 : decode M_MD_validAt.2.1 174 = .ok (.iload 10, 2) := by decide +kernel
theorem d_MD_validAt_176 : decode M_MD_validAt.2.1 176 = .ok (.iadd, 1) := by decide +kernel
theorem d_MD_validAt_177 : decode M_MD_validAt.2.1 177 = .ok (.invokevirtual 140, 3) := by decide +kernel
theorem d_MD_validAt_180 : decode M_MD_validAt.2.1 180 = .ok (.istore_n 3, 1) := by decide +kernel
theorem d_MD_validAt_181 : decode M_MD_validAt.2.1 181 = .ok (.iinc 10 (1), 3) := by decide +kernel
theorem d_MD_validAt_184 : decode M_MD_validAt.2.1 184 = .ok (.goto (-21), 3) := by decide +kernel
theorem d_MD_validAt_187 : decode M_MD_validAt.2.1 187 = .ok (.iload 4, 2) := by decide +kernel
theorem d_MD_validAt_189 : decode M_MD_validAt.2.1 189 = .ok (.iload 9, 2) := by decide +kernel
theorem d_MD_validAt_191 : decode M_MD_validAt.2.1 191 = .ok (.iadd, 1) := by decide +kernel
theorem d_MD_validAt_192 : decode M_MD_validAt.2.1 192 = .ok (.istore 4, 2) := by decide +kernel
theorem d_MD_validAt_194 : decode M_MD_validAt.2.1 194 = .ok (.iload 8, 2) := by decide +kernel
theorem d_MD_validAt_196 : decode M_MD_validAt.2.1 196 = .ok (.istore 5, 2) := by decide +kernel
theorem d_MD_validAt_198 : decode M_MD_validAt.2.1 198 = .ok (.goto (-190), 3) := by decide +kernel
theorem d_MD_validAt_201 : decode M_MD_validAt.2.1 201 = .ok (.iconst (0), 1) := by decide +kernel
theorem d_MD_validAt_202 : decode M_MD_validAt.2.1 202 = .ok (.ireturn, 1) := by decide +kernel
theorem d_MD_findHead_0 : decode M_MD_findHead.2.1 0 = .ok (.aload_n 0, 1) := by decide +kernel
theorem d_MD_findHead_1 : decode M_MD_findHead.2.1 1 = .ok (.bipush (16), 2) := by decide +kernel
theorem d_MD_findHead_3 : decode M_MD_findHead.2.1 3 = .ok (.iconst (0), 1) := by decide +kernel
theorem d_MD_findHead_4 : decode M_MD_findHead.2.1 4 = .ok (.invokevirtual 65, 3) := by decide +kernel
theorem d_MD_findHead_7 : decode M_MD_findHead.2.1 7 = .ok (.ldc 49, 2) := by decide +kernel
theorem d_MD_findHead_9 : decode M_MD_findHead.2.1 9 = .ok (.if_icmp .ne (29), 3) := by decide +kernel
theorem d_MD_findHead_12 : decode M_MD_findHead.2.1 12 = .ok (.aload_n 0, 1) := by decide +kernel
theorem d_MD_findHead_13 : decode M_MD_findHead.2.1 13 = .ok (.bipush (16), 2) := by decide +kernel
theorem d_MD_findHead_15 : decode M_MD_findHead.2.1 15 = .ok (.iconst (2), 1) := by decide +kernel
theorem d_MD_findHead_16 : decode M_MD_findHead.2.1 16 = .ok (.invokevirtual 65, 3) := by decide +kernel
theorem d_MD_findHead_19 : decode M_MD_findHead.2.1 19 = .ok (.ifCond .lt (19), 3) := by decide +kernel
theorem d_MD_findHead_22 : decode M_MD_findHead.2.1 22 = .ok (.aload_n 0, 1) := by decide +kernel
theorem d_MD_findHead_23 : decode M_MD_findHead.2.1 23 = .ok (.bipush (16), 2) := by decide +kernel
theorem d_MD_findHead_25 : decode M_MD_findHead.2.1 25 = .ok (.iconst (2), 1) := by decide +kernel
theorem d_MD_findHead_26 : decode M_MD_findHead.2.1 26 = .ok (.invokevirtual 65, 3) := by decide +kernel
theorem d_MD_findHead_29 : decode M_MD_findHead.2.1 29 = .ok (.bipush (23), 2) := by decide +kernel
theorem d_MD_findHead_31 : decode M_MD_findHead.2.1 31 = .ok (.if_icmp .gt (7), 3) := by decide +kernel
theorem d_MD_findHead_34 : decode M_MD_findHead.2.1 34 = .ok (.iconst (1), 1) := by decide +kernel
theorem d_MD_findHead_35 : decode M_MD_findHead.2.1 35 = .ok (.goto (4), 3) := by decide +kernel
theorem d_MD_findHead_38 : decode M_MD_findHead.2.1 38 = .ok (.iconst (0), 1) := by decide +kernel
theorem d_MD_findHead_39 : decode M_MD_findHead.2.1 39 = .ok (.istore_n 1, 1) := by decide +kernel
theorem d_MD_findHead_40 : decode M_MD_findHead.2.1 40 = .ok (.aload_n 0, 1) := by decide +kernel
theorem d_MD_findHead_41 : decode M_MD_findHead.2.1 41 = .ok (.iload_n 1, 1) := by decide +kernel
theorem d_MD_findHead_42 : decode M_MD_findHead.2.1 42 = .ok (.ifCond .eq (13), 3) := by decide +kernel
theorem d_MD_findHead_45 : decode M_MD_findHead.2.1 45 = .ok (.aload_n 0, 1) := by decide +kernel
theorem d_MD_findHead_46 : decode M_MD_findHead.2.1 46 = .ok (.bipush (16), 2) := by decide +kernel
theorem d_MD_findHead_48 : decode M_MD_findHead.2.1 48 = .ok (.iconst (2), 1) := by decide +kernel
theorem d_MD_findHead_49 : decode M_MD_findHead.2.1 49 = .ok (.invokevirtual 65, 3) := by decide +kernel
theorem d_MD_findHead_52 : decode M_MD_findHead.2.1 52 = .ok (.goto (4), 3) := by decide +kernel
theorem d_MD_findHead_55 : decode M_MD_findHead.2.1 55 = .ok (.iconst (0), 1) := by decide +kernel
theorem d_MD_findHead_56 : decode M_MD_findHead.2.1 56 = .ok (.putfield 134, 3) := by decide +kernel
theorem d_MD_findHead_59 : decode M_MD_findHead.2.1 59 = .ok (.aload_n 0, 1) := by decide +kernel
theorem d_MD_findHead_60 : decode M_MD_findHead.2.1 60 = .ok (.iload_n 1, 1) := by decide +kernel
theorem d_MD_findHead_61 : decode M_MD_findHead.2.1 61 = .ok (.ifCond .eq (13), 3) := by decide +kernel
theorem d_MD_findHead_64 : decode M_MD_findHead.2.1 64 = .ok (.aload_n 0, 1) := by decide +kernel
theorem d_MD_findHead_65 : decode M_MD_findHead.2.1 65 = .ok (.bipush (16), 2) := by decide +kernel
theorem d_MD_findHead_67 : decode M_MD_findHead.2.1 67 = .ok (.iconst (1), 1) := by decide +kernel
theorem d_MD_findHead_68 : decode M_MD_findHead.2.1 68 = .ok (.invokevirtual 65, 3) := by decide +kernel
theorem d_MD_findHead_71 : decode M_MD_findHead.2.1 71 = .ok (.goto (4), 3) := by decide +kernel
theorem d_MD_findHead_74 : decode M_MD_findHead.2.1 74 = .ok (.iconst (1), 1) := by decide +kernel
theorem d_MD_findHead_75 : decode M_MD_findHead.2.1 75 = .ok (.putfield 143, 3) := by decide +kernel
theorem d_MD_findHead_78 : decode M_MD_findHead.2.1 78 = .ok (.return_, 1) := by decide +kernel
theorem d_MD_findRevocations_0 : decode M_MD_findRevocations.2.1 0 = .ok (.aload_n 0, 1) := by decide +kernel
theorem d_MD_findRevocations_1 : decode M_MD_findRevocations.2.1 1 = .ok (.invokevirtual 146, 3) := by decide +kernel
theorem d_MD_findRevocations_4 : decode M_MD_findRevocations.2.1 4 = .ok (.iconst (0), 1) := by decide +kernel
theorem d_MD_findRevocations_5 : decode M_MD_findRevocations.2.1 5 = .ok (.istore_n 1, 1) := by decide +kernel
theorem d_MD_findRevocations_6 : decode M_MD_findRevocations.2.1 6 = .ok (.iload_n 1, 1) := by decide +kernel
theorem d_MD_findRevocations_7 : decode M_MD_findRevocations.2.1 7 = .ok (.bipush (16), 2) := by decide +kernel
theorem d_MD_findRevocations_9 : decode M_MD_findRevocations.2.1 9 = .ok (.if_icmp .ge (16), 3) := by decide +kernel
theorem d_MD_findRevocations_12 : decode M_MD_findRevocations.2.1 12 = .ok (.aload_n 0, 1) := by decide +kernel
theorem d_MD_findRevocations_13 : decode M_MD_findRevocations.2.1 13 = .ok (.getfield 46, 3) := by decide +kernel
theorem d_MD_findRevocations_16 : decode M_MD_findRevocations.2.1 16 = .ok (.iload_n 1, 1) := by decide +kernel
theorem d_MD_findRevocations_17 : decode M_MD_findRevocations.2.1 17 = .ok (.iconst (0), 1) := by decide +kernel
theorem d_MD_findRevocations_18 : decode M_MD_findRevocations.2.1 18 = .ok (.bastore, 1) := by decide +kernel
theorem d_MD_findRevocations_19 : decode M_MD_findRevocations.2.1 19 = .ok (.iinc 1 (1), 3) := by decide +kernel
theorem d_MD_findRevocations_22 : decode M_MD_findRevocations.2.1 22 = .ok (.goto (-16), 3) := by decide +kernel
theorem d_MD_findRevocations_25 : decode M_MD_findRevocations.2.1 25 = .ok (.aload_n 0, 1) := by decide +kernel
theorem d_MD_findRevocations_26 : decode M_MD_findRevocations.2.1 26 = .ok (.iconst (0), 1) := by decide +kernel
theorem d_MD_findRevocations_27 : decode M_MD_findRevocations.2.1 27 = .ok (.putfield 149, 3) := by decide +kernel
theorem d_MD_findRevocations_30 : decode M_MD_findRevocations.2.1 30 = .ok (.aload_n 0, 1) := by decide +kernel
theorem d_MD_findRevocations_31 : decode M_MD_findRevocations.2.1 31 = .ok (.aload_n 0, 1) := by decide +kernel
theorem d_MD_findRevocations_32 : decode M_MD_findRevocations.2.1 32 = .ok (.getfield 143, 3) := by decide +kernel
theorem d_MD_findRevocations_35 : decode M_MD_findRevocations.2.1 35 = .ok (.putfield 152, 3) := by decide +kernel
theorem d_MD_findRevocations_38 : decode M_MD_findRevocations.2.1 38 = .ok (.aload_n 0, 1) := by decide +kernel
theorem d_MD_findRevocations_39 : decode M_MD_findRevocations.2.1 39 = .ok (.iconst (0), 1) := by decide +kernel
theorem d_MD_findRevocations_40 : decode M_MD_findRevocations.2.1 40 = .ok (.aload_n 0, 1) := by decide +kernel
theorem d_MD_findRevocations_41 : decode M_MD_findRevocations.2.1 41 = .ok (.getfield 152, 3) := by decide +kernel
theorem d_MD_findRevocations_44 : decode M_MD_findRevocations.2.1 44 = .ok (.invokevirtual 155, 3) := by decide +kernel
theorem d_MD_findRevocations_47 : decode M_MD_findRevocations.2.1 47 = .ok (.istore_n 1, 1) := by decide +kernel
theorem d_MD_findRevocations_48 : decode M_MD_findRevocations.2.1 48 = .ok (.iload_n 1, 1) := by decide +kernel
theorem d_MD_findRevocations_49 : decode M_MD_findRevocations.2.1 49 = .ok (.ifCond .le (159), 3) := by decide +kernel
theorem d_MD_findRevocations_52 : decode M_MD_findRevocations.2.1 52 = .ok (.aload_n 0, 1) := by decide +kernel
theorem d_MD_findRevocations_53 : decode M_MD_findRevocations.2.1 53 = .ok (.getfield 149, 3) := by decide +kernel
theorem d_MD_findRevocations_56 : decode M_MD_findRevocations.2.1 56 = .ok (.iload_n 1, 1) := by decide +kernel
theorem d_MD_findRevocations_57 : decode M_MD_findRevocations.2.1 57 = .ok (.iadd, 1) := by decide +kernel
theorem d_MD_findRevocations_58 : decode M_MD_findRevocations.2.1 58 = .ok (.iconst (2), 1) := by decide +kernel
theorem d_MD_findRevocations_59 : decode M_MD_findRevocations.2.1 59 = .ok (.isub, 1) := by decide +kernel
theorem d_MD_findRevocations_60 : decode M_MD_findRevocations.2.1 60 = .ok (.istore_n 2, 1) := by decide +kernel
theorem d_MD_findRevocations_61 : decode M_MD_findRevocations.2.1 61 = .ok (.iload_n 1, 1) := by decide +kernel
theorem d_MD_findRevocations_62 : decode M_MD_findRevocations.2.1 62 = .ok (.iconst (1), 1) := by decide +kernel
theorem d_MD_findRevocations_63 : decode M_MD_findRevocations.2.1 63 = .ok (.if_icmp .le (53), 3) := by decide +kernel
theorem d_MD_findRevocations_66 : decode M_MD_findRevocations.2.1 66 = .ok (.aload_n 0, 1) := by decide +kernel
theorem d_MD_findRevocations_67 : decode M_MD_findRevocations.2.1 67 = .ok (.iload_n 2, 1) := by decide +kernel
theorem d_MD_findRevocations_68 : decode M_MD_findRevocations.2.1 68 = .ok (.iconst (0), 1) := by decide +kernel
theorem d_MD_findRevocations_69 : decode M_MD_findRevocations.2.1 69 = .ok (.invokevirtual 137, 3) := by decide +kernel
theorem d_MD_findRevocations_72 : decode M_MD_findRevocations.2.1 72 = .ok (.ldc 49, 2) := by decide +kernel
theorem d_MD_findRevocations_74 : decode M_MD_findRevocations.2.1 74 = .ok (.if_icmp .ne (42), 3) := by decide +kernel
theorem d_MD_findRevocations_77 : decode M_MD_findRevocations.2.1 77 = .ok (.aload_n 0, 1) := by decide +kernel
theorem d_MD_findRevocations_78 : decode M_MD_findRevocations.2.1 78 = .ok (.iload_n 2, 1) := by decide +kernel
theorem d_MD_findRevocations_79 : decode M_MD_findRevocations.2.1 79 = .ok (.iconst (1), 1) := by decide +kernel
theorem d_MD_findRevocations_80 : decode M_MD_findRevocations.2.1 80 = .ok (.invokevirtual 137, 3) := by decide +kernel
theorem d_MD_findRevocations_83 : decode M_MD_findRevocations.2.1 83 = .ok (.iconst (2), 1) := by decide +kernel
theorem d_MD_findRevocations_84 : decode M_MD_findRevocations.2.1 84 = .ok (.if_icmp .ne (32), 3) := by decide +kernel
theorem d_MD_findRevocations_87 : decode M_MD_findRevocations.2.1 87 = .ok (.aload_n 0, 1) := by decide +kernel
theorem d_MD_findRevocations_88 : decode M_MD_findRevocations.2.1 88 = .ok (.iload_n 2, 1) := by decide +kernel
theorem d_MD_findRevocations_89 : decode M_MD_findRevocations.2.1 89 = .ok (.iconst (2), 1) := by decide +kernel
theorem d_MD_findRevocations_90 : decode M_MD_findRevocations.2.1 90 = .ok (.invokevirtual 137, 3) := by decide +kernel
theorem d_MD_findRevocations_93 : decode M_MD_findRevocations.2.1 93 = .ok (.aload_n 0, 1) := by decide +kernel
theorem d_MD_findRevocations_94 : decode M_MD_findRevocations.2.1 94 = .ok (.getfield 152, 3) := by decide +kernel
theorem d_MD_findRevocations_97 : decode M_MD_findRevocations.2.1 97 = .ok (.if_icmp .ne (19), 3) := by decide +kernel
theorem d_MD_findRevocations_100 : decode M_MD_findRevocations.2.1 100 = .ok (.aload_n 0, 1) := by decide +kernel
theorem d_MD_findRevocations_101 : decode M_MD_findRevocations.2.1 101 = .ok (.aload_n 0, 1) := by decide +kernel
theorem d_MD_findRevocations_102 : decode M_MD_findRevocations.2.1 102 = .ok (.getfield 149, 3) := by decide +kernel
theorem d_MD_findRevocations_105 : decode M_MD_findRevocations.2.1 105 = .ok (.iload_n 2, 1) := by decide +kernel
theorem d_MD_findRevocations_106 : decode M_MD_findRevocations.2.1 106 = .ok (.invokevirtual 158, 3) := by decide +kernel
theorem d_MD_findRevocations_109 : decode M_MD_findRevocations.2.1 109 = .ok (.ifCond .eq (7), 3) := by decide +kernel
theorem d_MD_findRevocations_112 : decode M_MD_findRevocations.2.1 112 = .ok (.iconst (1), 1) := by decide +kernel
theorem d_MD_findRevocations_113 : decode M_MD_findRevocations.2.1 113 = .ok (.goto (4), 3) := by decide +kernel
theorem d_MD_findRevocations_116 : decode M_MD_findRevocations.2.1 116 = .ok (.iconst (0), 1) := by decide +kernel
theorem d_MD_findRevocations_117 : decode M_MD_findRevocations.2.1 117 = .ok (.istore_n 3, 1) := by decide +kernel
theorem d_MD_findRevocations_118 : decode M_MD_findRevocations.2.1 118 = .ok (.iconst (0), 1) := by decide +kernel
theorem d_MD_findRevocations_119 : decode M_MD_findRevocations.2.1 119 = .ok (.istore 4, 2) := by decide +kernel
theorem d_MD_findRevocations_121 : decode M_MD_findRevocations.2.1 121 = .ok (.iload 4, 2) := by decide +kernel
theorem d_MD_findRevocations_123 : decode M_MD_findRevocations.2.1 123 = .ok (.bipush (16), 2) := by decide +kernel
theorem d_MD_findRevocations_125 : decode M_MD_findRevocations.2.1 125 = .ok (.if_icmp .ge (47), 3) := by decide +kernel
theorem d_MD_findRevocations_128 : decode M_MD_findRevocations.2.1 128 = .ok (.iload_n 3, 1) := by decide +kernel
theorem d_MD_findRevocations_129 : decode M_MD_findRevocations.2.1 129 = .ok (.ifCond .eq (43), 3) := by decide +kernel
theorem d_MD_findRevocations_132 : decode M_MD_findRevocations.2.1 132 = .ok (.aload_n 0, 1) := by decide +kernel
theorem d_MD_findRevocations_133 : decode M_MD_findRevocations.2.1 133 = .ok (.iload_n 2, 1) := by decide +kernel
theorem d_MD_findRevocations_134 : decode M_MD_findRevocations.2.1 134 = .ok (.iconst (3), 1) := by decide +kernel
theorem d_MD_findRevocations_135 : decode M_MD_findRevocations.2.1 135 = .ok (.invokevirtual 137, 3) := by decide +kernel
theorem d_MD_findRevocations_138 : decode M_MD_findRevocations.2.1 138 = .ok (.iload 4, 2) := by decide +kernel
theorem d_MD_findRevocations_140 : decode M_MD_findRevocations.2.1 140 = .ok (.ishr, 1) := by decide +kernel
theorem d_MD_findRevocations_141 : decode M_MD_findRevocations.2.1 141 = .ok (.iconst (1), 1) := by decide +kernel
theorem d_MD_findRevocations_142 : decode M_MD_findRevocations.2.1 142 = .ok (.iand, 1) := by decide +kernel
theorem d_MD_findRevocations_143 : decode M_MD_findRevocations.2.1 143 = .ok (.iconst (1), 1) := by decide +kernel
theorem d_MD_findRevocations_144 : decode M_MD_findRevocations.2.1 144 = .ok (.if_icmp .ne (22), 3) := by decide +kernel
theorem d_MD_findRevocations_147 : decode M_MD_findRevocations.2.1 147 = .ok (.aload_n 0, 1) := by decide +kernel
theorem d_MD_findRevocations_148 : decode M_MD_findRevocations.2.1 148 = .ok (.getfield 46, 3) := by decide +kernel
theorem d_MD_findRevocations_151 : decode M_MD_findRevocations.2.1 151 = .ok (.iload 4, 2) := by decide +kernel
theorem d_MD_findRevocations_153 : decode M_MD_findRevocations.2.1 153 = .ok (.iconst (1), 1) := by decide +kernel
theorem d_MD_findRevocations_154 : decode M_MD_findRevocations.2.1 154 = .ok (.bastore, 1) := by decide +kernel
theorem d_MD_findRevocations_155 : decode M_MD_findRevocations.2.1 155 = .ok (.aload_n 0, 1) := by decide +kernel
theorem d_MD_findRevocations_156 : decode M_MD_findRevocations.2.1 156 = .ok (.getfield 43, 3) := by decide +kernel
theorem d_MD_findRevocations_159 : decode M_MD_findRevocations.2.1 159 = .ok (.iload 4, 2) := by decide +kernel
theorem d_MD_findRevocations_161 : decode M_MD_findRevocations.2.1 161 = .ok (.aload_n 0, 1) := by decide +kernel
theorem d_MD_findRevocations_162 : decode M_MD_findRevocations.2.1 162 = .ok (.getfield 152, 3) := by decide +kernel
theorem d_MD_findRevocations_165 : decode M_MD_findRevocations.2.1 165 = .ok (.iastore, 1) := by decide +kernel
theorem d_MD_findRevocations_166 : decode M_MD_findRevocations.2.1 166 = .ok (.iinc 4 (1), 3) := by decide +kernel
theorem d_MD_findRevocations_169 : decode M_MD_findRevocations.2.1 169 = .ok (.goto (-48), 3) := by decide +kernel
theorem d_MD_findRevocations_172 : decode M_MD_findRevocations.2.1 172 = .ok (.aload_n 0, 1) := by decide +kernel
theorem d_MD_findRevocations_173 : decode M_MD_findRevocations.2.1 173 = .ok (.aload_n 0, 1) := by decide +kernel
theorem d_MD_findRevocations_174 : decode M_MD_findRevocations.2.1 174 = .ok (.getfield 149, 3) := by decide +kernel
theorem d_MD_findRevocations_177 : decode M_MD_findRevocations.2.1 177 = .ok (.iload_n 1, 1) := by decide +kernel
theorem d_MD_findRevocations_178 : decode M_MD_findRevocations.2.1 178 = .ok (.iadd, 1) := by decide +kernel
theorem d_MD_findRevocations_179 : decode M_MD_findRevocations.2.1 179 = .ok (.putfield 149, 3) := by decide +kernel
theorem d_MD_findRevocations_182 : decode M_MD_findRevocations.2.1 182 = .ok (.aload_n 0, 1) := by decide +kernel
theorem d_MD_findRevocations_183 : decode M_MD_findRevocations.2.1 183 = .ok (.aload_n 0, 1) := by decide +kernel
theorem d_MD_findRevocations_184 : decode M_MD_findRevocations.2.1 184 = .ok (.getfield 152, 3) := by decide +kernel
theorem d_MD_findRevocations_187 : decode M_MD_findRevocations.2.1 187 = .ok (.iconst (1), 1) := by decide +kernel
theorem d_MD_findRevocations_188 : decode M_MD_findRevocations.2.1 188 = .ok (.iadd, 1) := by decide +kernel
theorem d_MD_findRevocations_189 : decode M_MD_findRevocations.2.1 189 = .ok (.putfield 152, 3) := by decide +kernel
theorem d_MD_findRevocations_192 : decode M_MD_findRevocations.2.1 192 = .ok (.aload_n 0, 1) := by decide +kernel
theorem d_MD_findRevocations_193 : decode M_MD_findRevocations.2.1 193 = .ok (.aload_n 0, 1) := by decide +kernel
theorem d_MD_findRevocations_194 : decode M_MD_findRevocations.2.1 194 = .ok (.getfield 149, 3) := by decide +kernel
theorem d_MD_findRevocations_197 : decode M_MD_findRevocations.2.1 197 = .ok (.aload_n 0, 1) := by decide +kernel
theorem d_MD_findRevocations_198 : decode M_MD_findRevocations.2.1 198 = .ok (.getfield 152, 3) := by decide +kernel
theorem d_MD_findRevocations_201 : decode M_MD_findRevocations.2.1 201 = .ok (.invokevirtual 155, 3) := by decide +kernel
theorem d_MD_findRevocations_204 : decode M_MD_findRevocations.2.1 204 = .ok (.istore_n 1, 1) := by decide +kernel
theorem d_MD_findRevocations_205 : decode M_MD_findRevocations.2.1 205 = .ok (.goto (-157), 3) := by decide +kernel
theorem d_MD_findRevocations_208 : decode M_MD_findRevocations.2.1 208 = .ok (.return_, 1) := by decide +kernel
theorem d_MD_isRevocation_0 : decode M_MD_isRevocation.2.1 0 = .ok (.iload_n 1, 1) := by decide +kernel
theorem d_MD_isRevocation_1 : decode M_MD_isRevocation.2.1 1 = .ok (.istore_n 3, 1) := by decide +kernel
theorem d_MD_isRevocation_2 : decode M_MD_isRevocation.2.1 2 = .ok (.iload_n 3, 1) := by decide +kernel
theorem d_MD_isRevocation_3 : decode M_MD_isRevocation.2.1 3 = .ok (.iload_n 2, 1) := by decide +kernel
theorem d_MD_isRevocation_4 : decode M_MD_isRevocation.2.1 4 = .ok (.if_icmp .ge (30), 3) := by decide +kernel
theorem d_MD_isRevocation_7 : decode M_MD_isRevocation.2.1 7 = .ok (.aload_n 0, 1) := by decide +kernel
theorem d_MD_isRevocation_8 : decode M_MD_isRevocation.2.1 8 = .ok (.iload_n 3, 1) := by decide +kernel
theorem d_MD_isRevocation_9 : decode M_MD_isRevocation.2.1 9 = .ok (.iconst (1), 1) := by decide +kernel
theorem d_MD_isRevocation_10 : decode M_MD_isRevocation.2.1 10 = .ok (.invokevirtual 137, 3) := by decide +kernel
theorem d_MD_isRevocation_13 : decode M_MD_isRevocation.2.1 13 = .ok (.iconst (1), 1) := by decide +kernel
theorem d_MD_isRevocation_14 : decode M_MD_isRevocation.2.1 14 = .ok (.if_icmp .ne (20), 3) := by decide +kernel
theorem d_MD_isRevocation_17 : decode M_MD_isRevocation.2.1 17 = .ok (.iload_n 3, 1) := by decide +kernel
theorem d_MD_isRevocation_18 : decode M_MD_isRevocation.2.1 18 = .ok (.iconst (1), 1) := by decide +kernel
theorem d_MD_isRevocation_19 : decode M_MD_isRevocation.2.1 19 = .ok (.iadd, 1) := by decide +kernel
theorem d_MD_isRevocation_20 : decode M_MD_isRevocation.2.1 20 = .ok (.aload_n 0, 1) := by decide +kernel
theorem d_MD_isRevocation_21 : decode M_MD_isRevocation.2.1 21 = .ok (.iload_n 3, 1) := by decide +kernel
theorem d_MD_isRevocation_22 : decode M_MD_isRevocation.2.1 22 = .ok (.iconst (3), 1) := by decide +kernel
theorem d_MD_isRevocation_23 : decode M_MD_isRevocation.2.1 23 = .ok (.invokevirtual 137, 3) := by decide +kernel
theorem d_MD_isRevocation_26 : decode M_MD_isRevocation.2.1 26 = .ok (.bipush (7), 2) := by decide +kernel
theorem d_MD_isRevocation_28 : decode M_MD_isRevocation.2.1 28 = .ok (.iand, 1) := by decide +kernel
theorem d_MD_isRevocation_29 : decode M_MD_isRevocation.2.1 29 = .ok (.iadd, 1) := by decide +kernel
theorem d_MD_isRevocation_30 : decode M_MD_isRevocation.2.1 30 = .ok (.istore_n 3, 1) := by decide +kernel
theorem d_MD_isRevocation_31 : decode M_MD_isRevocation.2.1 31 = .ok (.goto (-29), 3) := by decide +kernel
theorem d_MD_isRevocation_34 : decode M_MD_isRevocation.2.1 34 = .ok (.iload_n 3, 1) := by decide +kernel
theorem d_MD_isRevocation_35 : decode M_MD_isRevocation.2.1 35 = .ok (.iload_n 2, 1) := by decide +kernel
theorem d_MD_isRevocation_36 : decode M_MD_isRevocation.2.1 36 = .ok (.if_icmp .ne (7), 3) := by decide +kernel
theorem d_MD_isRevocation_39 : decode M_MD_isRevocation.2.1 39 = .ok (.iconst (1), 1) := by decide +kernel
theorem d_MD_isRevocation_40 : decode M_MD_isRevocation.2.1 40 = .ok (.goto (4), 3) := by decide +kernel
theorem d_MD_isRevocation_43 : decode M_MD_isRevocation.2.1 43 = .ok (.iconst (0), 1) := by decide +kernel
theorem d_MD_isRevocation_44 : decode M_MD_isRevocation.2.1 44 = .ok (.ireturn, 1) := by decide +kernel
theorem d_MD_replay_0 : decode M_MD_replay.2.1 0 = .ok (.aload_n 0, 1) := by decide +kernel
theorem d_MD_replay_1 : decode M_MD_replay.2.1 1 = .ok (.invokevirtual 162, 3) := by decide +kernel
theorem d_MD_replay_4 : decode M_MD_replay.2.1 4 = .ok (.iconst (0), 1) := by decide +kernel
theorem d_MD_replay_5 : decode M_MD_replay.2.1 5 = .ok (.istore_n 2, 1) := by decide +kernel
theorem d_MD_replay_6 : decode M_MD_replay.2.1 6 = .ok (.iconst (0), 1) := by decide +kernel
theorem d_MD_replay_7 : decode M_MD_replay.2.1 7 = .ok (.istore_n 3, 1) := by decide +kernel
theorem d_MD_replay_8 : decode M_MD_replay.2.1 8 = .ok (.aload_n 0, 1) := by decide +kernel
theorem d_MD_replay_9 : decode M_MD_replay.2.1 9 = .ok (.getfield 143, 3) := by decide +kernel
theorem d_MD_replay_12 : decode M_MD_replay.2.1 12 = .ok (.istore 4, 2) := by decide +kernel
theorem d_MD_replay_14 : decode M_MD_replay.2.1 14 = .ok (.iload_n 3, 1) := by decide +kernel
theorem d_MD_replay_15 : decode M_MD_replay.2.1 15 = .ok (.aload_n 0, 1) := by decide +kernel
theorem d_MD_replay_16 : decode M_MD_replay.2.1 16 = .ok (.getfield 149, 3) := by decide +kernel
theorem d_MD_replay_19 : decode M_MD_replay.2.1 19 = .ok (.if_icmp .ge (213), 3) := by decide +kernel
theorem d_MD_replay_22 : decode M_MD_replay.2.1 22 = .ok (.aload_n 0, 1) := by decide +kernel
theorem d_MD_replay_23 : decode M_MD_replay.2.1 23 = .ok (.iload_n 3, 1) := by decide +kernel
theorem d_MD_replay_24 : decode M_MD_replay.2.1 24 = .ok (.iconst (1), 1) := by decide +kernel
theorem d_MD_replay_25 : decode M_MD_replay.2.1 25 = .ok (.invokevirtual 137, 3) := by decide +kernel
theorem d_MD_replay_28 : decode M_MD_replay.2.1 28 = .ok (.iconst (1), 1) := by decide +kernel
theorem d_MD_replay_29 : decode M_MD_replay.2.1 29 = .ok (.if_icmp .ne (175), 3) := by decide +kernel
theorem d_MD_replay_32 : decode M_MD_replay.2.1 32 = .ok (.aload_n 0, 1) := by decide +kernel
theorem d_MD_replay_33 : decode M_MD_replay.2.1 33 = .ok (.iload_n 3, 1) := by decide +kernel
theorem d_MD_replay_34 : decode M_MD_replay.2.1 34 = .ok (.iconst (3), 1) := by decide +kernel
theorem d_MD_replay_35 : decode M_MD_replay.2.1 35 = .ok (.invokevirtual 137, 3) := by decide +kernel
theorem d_MD_replay_38 : decode M_MD_replay.2.1 38 = .ok (.istore 5, 2) := by decide +kernel
theorem d_MD_replay_40 : decode M_MD_replay.2.1 40 = .ok (.iconst (0), 1) := by decide +kernel
theorem d_MD_replay_41 : decode M_MD_replay.2.1 41 = .ok (.istore 6, 2) := by decide +kernel
theorem d_MD_replay_43 : decode M_MD_replay.2.1 43 = .ok (.iload 6, 2) := by decide +kernel
theorem d_MD_replay_45 : decode M_MD_replay.2.1 45 = .ok (.iload 5, 2) := by decide +kernel
theorem d_MD_replay_47 : decode M_MD_replay.2.1 47 = .ok (.bipush (7), 2) := by decide +kernel
theorem d_MD_replay_49 : decode M_MD_replay.2.1 49 = .ok (.iand, 1) := by decide +kernel
theorem d_MD_replay_50 : decode M_MD_replay.2.1 50 = .ok (.if_icmp .ge (141), 3) := by decide +kernel
theorem d_MD_replay_53 : decode M_MD_replay.2.1 53 = .ok (.iload 5, 2) := by decide +kernel
theorem d_MD_replay_55 : decode M_MD_replay.2.1 55 = .ok (.iconst (3), 1) := by decide +kernel
theorem d_MD_replay_56 : decode M_MD_replay.2.1 56 = .ok (.iconst (5), 1) := by decide +kernel
