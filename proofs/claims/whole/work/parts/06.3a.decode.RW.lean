theorem d_RW_build_0 : decode M_RW_build.2.1 0 = .ok (.aload_n 0, 1) := by decide +kernel
theorem d_RW_build_1 : decode M_RW_build.2.1 1 = .ok (.iconst (0), 1) := by decide +kernel
theorem d_RW_build_2 : decode M_RW_build.2.1 2 = .ok (.putfield 18, 3) := by decide +kernel
theorem d_RW_build_5 : decode M_RW_build.2.1 5 = .ok (.aload_n 0, 1) := by decide +kernel
theorem d_RW_build_6 : decode M_RW_build.2.1 6 = .ok (.iload_n 3, 1) := by decide +kernel
theorem d_RW_build_7 : decode M_RW_build.2.1 7 = .ok (.putfield 22, 3) := by decide +kernel
theorem d_RW_build_10 : decode M_RW_build.2.1 10 = .ok (.iconst (0), 1) := by decide +kernel
theorem d_RW_build_11 : decode M_RW_build.2.1 11 = .ok (.istore 4, 2) := by decide +kernel
theorem d_RW_build_13 : decode M_RW_build.2.1 13 = .ok (.iconst (0), 1) := by decide +kernel
theorem d_RW_build_14 : decode M_RW_build.2.1 14 = .ok (.istore 5, 2) := by decide +kernel
theorem d_RW_build_16 : decode M_RW_build.2.1 16 = .ok (.iload 5, 2) := by decide +kernel
theorem d_RW_build_18 : decode M_RW_build.2.1 18 = .ok (.bipush (16), 2) := by decide +kernel
theorem d_RW_build_20 : decode M_RW_build.2.1 20 = .ok (.if_icmp .ge (47), 3) := by decide +kernel
theorem d_RW_build_23 : decode M_RW_build.2.1 23 = .ok (.aload_n 1, 1) := by decide +kernel
theorem d_RW_build_24 : decode M_RW_build.2.1 24 = .ok (.iload 5, 2) := by decide +kernel
theorem d_RW_build_26 : decode M_RW_build.2.1 26 = .ok (.invokevirtual 25, 3) := by decide +kernel
theorem d_RW_build_29 : decode M_RW_build.2.1 29 = .ok (.ifCond .eq (15), 3) := by decide +kernel
theorem d_RW_build_32 : decode M_RW_build.2.1 32 = .ok (.aload_n 0, 1) := by decide +kernel
theorem d_RW_build_33 : decode M_RW_build.2.1 33 = .ok (.getfield 15, 3) := by decide +kernel
theorem d_RW_build_36 : decode M_RW_build.2.1 36 = .ok (.iload 4, 2) := by decide +kernel
theorem d_RW_build_38 : decode M_RW_build.2.1 38 = .ok (.iload 5, 2) := by decide +kernel
theorem d_RW_build_40 : decode M_RW_build.2.1 40 = .ok (.iastore, 1) := by decide +kernel
theorem d_RW_build_41 : decode M_RW_build.2.1 41 = .ok (.iinc 4 (1), 3) := by decide +kernel
theorem d_RW_build_44 : decode M_RW_build.2.1 44 = .ok (.iload 4, 2) := by decide +kernel
theorem d_RW_build_46 : decode M_RW_build.2.1 46 = .ok (.iconst (4), 1) := by decide +kernel
theorem d_RW_build_47 : decode M_RW_build.2.1 47 = .ok (.if_icmp .ne (14), 3) := by decide +kernel
theorem d_RW_build_50 : decode M_RW_build.2.1 50 = .ok (.aload_n 0, 1) := by decide +kernel
theorem d_RW_build_51 : decode M_RW_build.2.1 51 = .ok (.aload_n 1, 1) := by decide +kernel
theorem d_RW_build_52 : decode M_RW_build.2.1 52 = .ok (.iload 4, 2) := by decide +kernel
theorem d_RW_build_54 : decode M_RW_build.2.1 54 = .ok (.iload_n 3, 1) := by decide +kernel
theorem d_RW_build_55 : decode M_RW_build.2.1 55 = .ok (.invokevirtual 31, 3) := by decide +kernel
theorem d_RW_build_58 : decode M_RW_build.2.1 58 = .ok (.iconst (0), 1) := by decide +kernel
theorem d_RW_build_59 : decode M_RW_build.2.1 59 = .ok (.istore 4, 2) := by decide +kernel
theorem d_RW_build_61 : decode M_RW_build.2.1 61 = .ok (.iinc 5 (1), 3) := by decide +kernel
theorem d_RW_build_64 : decode M_RW_build.2.1 64 = .ok (.goto (-48), 3) := by decide +kernel
theorem d_RW_build_67 : decode M_RW_build.2.1 67 = .ok (.iload 4, 2) := by decide +kernel
theorem d_RW_build_69 : decode M_RW_build.2.1 69 = .ok (.ifCond .le (11), 3) := by decide +kernel
theorem d_RW_build_72 : decode M_RW_build.2.1 72 = .ok (.aload_n 0, 1) := by decide +kernel
theorem d_RW_build_73 : decode M_RW_build.2.1 73 = .ok (.aload_n 1, 1) := by decide +kernel
theorem d_RW_build_74 : decode M_RW_build.2.1 74 = .ok (.iload 4, 2) := by decide +kernel
theorem d_RW_build_76 : decode M_RW_build.2.1 76 = .ok (.iload_n 3, 1) := by decide +kernel
theorem d_RW_build_77 : decode M_RW_build.2.1 77 = .ok (.invokevirtual 31, 3) := by decide +kernel
theorem d_RW_build_80 : decode M_RW_build.2.1 80 = .ok (.iload_n 2, 1) := by decide +kernel
theorem d_RW_build_81 : decode M_RW_build.2.1 81 = .ok (.ifCond .eq (12), 3) := by decide +kernel
theorem d_RW_build_84 : decode M_RW_build.2.1 84 = .ok (.aload_n 0, 1) := by decide +kernel
theorem d_RW_build_85 : decode M_RW_build.2.1 85 = .ok (.ldc 35, 2) := by decide +kernel
theorem d_RW_build_87 : decode M_RW_build.2.1 87 = .ok (.iconst (2), 1) := by decide +kernel
theorem d_RW_build_88 : decode M_RW_build.2.1 88 = .ok (.iload_n 3, 1) := by decide +kernel
theorem d_RW_build_89 : decode M_RW_build.2.1 89 = .ok (.iload_n 2, 1) := by decide +kernel
theorem d_RW_build_90 : decode M_RW_build.2.1 90 = .ok (.invokevirtual 36, 3) := by decide +kernel
theorem d_RW_build_93 : decode M_RW_build.2.1 93 = .ok (.aload_n 0, 1) := by decide +kernel
theorem d_RW_build_94 : decode M_RW_build.2.1 94 = .ok (.ldc 35, 2) := by decide +kernel
theorem d_RW_build_96 : decode M_RW_build.2.1 96 = .ok (.iconst (3), 1) := by decide +kernel
theorem d_RW_build_97 : decode M_RW_build.2.1 97 = .ok (.iload_n 3, 1) := by decide +kernel
theorem d_RW_build_98 : decode M_RW_build.2.1 98 = .ok (.aload_n 0, 1) := by decide +kernel
theorem d_RW_build_99 : decode M_RW_build.2.1 99 = .ok (.getfield 22, 3) := by decide +kernel
theorem d_RW_build_102 : decode M_RW_build.2.1 102 = .ok (.invokevirtual 36, 3) := by decide +kernel
theorem d_RW_build_105 : decode M_RW_build.2.1 105 = .ok (.return_, 1) := by decide +kernel
theorem d_RW_addGroup_0 : decode M_RW_addGroup.2.1 0 = .ok (.iload_n 2, 1) := by decide +kernel
theorem d_RW_addGroup_1 : decode M_RW_addGroup.2.1 1 = .ok (.istore 4, 2) := by decide +kernel
theorem d_RW_addGroup_3 : decode M_RW_addGroup.2.1 3 = .ok (.iconst (0), 1) := by decide +kernel
theorem d_RW_addGroup_4 : decode M_RW_addGroup.2.1 4 = .ok (.istore 5, 2) := by decide +kernel
theorem d_RW_addGroup_6 : decode M_RW_addGroup.2.1 6 = .ok (.iload 5, 2) := by decide +kernel
theorem d_RW_addGroup_8 : decode M_RW_addGroup.2.1 8 = .ok (.iload_n 2, 1) := by decide +kernel
theorem d_RW_addGroup_9 : decode M_RW_addGroup.2.1 9 = .ok (.if_icmp .ge (56), 3) := by decide +kernel
theorem d_RW_addGroup_12 : decode M_RW_addGroup.2.1 12 = .ok (.aload_n 1, 1) := by decide +kernel
theorem d_RW_addGroup_13 : decode M_RW_addGroup.2.1 13 = .ok (.aload_n 0, 1) := by decide +kernel
theorem d_RW_addGroup_14 : decode M_RW_addGroup.2.1 14 = .ok (.getfield 15, 3) := by decide +kernel
theorem d_RW_addGroup_17 : decode M_RW_addGroup.2.1 17 = .ok (.iload 5, 2) := by decide +kernel
theorem d_RW_addGroup_19 : decode M_RW_addGroup.2.1 19 = .ok (.iaload, 1) := by decide +kernel
theorem d_RW_addGroup_20 : decode M_RW_addGroup.2.1 20 = .ok (.iconst (0), 1) := by decide +kernel
theorem d_RW_addGroup_21 : decode M_RW_addGroup.2.1 21 = .ok (.invokevirtual 40, 3) := by decide +kernel
theorem d_RW_addGroup_24 : decode M_RW_addGroup.2.1 24 = .ok (.ldc 35, 2) := by decide +kernel
theorem d_RW_addGroup_26 : decode M_RW_addGroup.2.1 26 = .ok (.if_icmp .ne (8), 3) := by decide +kernel
theorem d_RW_addGroup_29 : decode M_RW_addGroup.2.1 29 = .ok (.bipush (16), 2) := by decide +kernel
theorem d_RW_addGroup_31 : decode M_RW_addGroup.2.1 31 = .ok (.goto (4), 3) := by decide +kernel
theorem d_RW_addGroup_34 : decode M_RW_addGroup.2.1 34 = .ok (.iconst (0), 1) := by decide +kernel
theorem d_RW_addGroup_35 : decode M_RW_addGroup.2.1 35 = .ok (.istore 6, 2) := by decide +kernel
theorem d_RW_addGroup_37 : decode M_RW_addGroup.2.1 37 = .ok (.iload 4, 2) := by decide +kernel
theorem d_RW_addGroup_39 : decode M_RW_addGroup.2.1 39 = .ok (.aload_n 0, 1) := by decide +kernel
theorem d_RW_addGroup_40 : decode M_RW_addGroup.2.1 40 = .ok (.getfield 15, 3) := by decide +kernel
theorem d_RW_addGroup_43 : decode M_RW_addGroup.2.1 43 = .ok (.iload 5, 2) := by decide +kernel
theorem d_RW_addGroup_45 : decode M_RW_addGroup.2.1 45 = .ok (.iaload, 1) := by decide +kernel
theorem d_RW_addGroup_46 : decode M_RW_addGroup.2.1 46 = .ok (.iload 6, 2) := by decide +kernel
theorem d_RW_addGroup_48 : decode M_RW_addGroup.2.1 48 = .ok (.iadd, 1) := by decide +kernel
theorem d_RW_addGroup_49 : decode M_RW_addGroup.2.1 49 = .ok (.iconst (3), 1) := by decide +kernel
theorem d_RW_addGroup_50 : decode M_RW_addGroup.2.1 50 = .ok (.iconst (5), 1) := by decide +kernel
theorem d_RW_addGroup_51 : decode M_RW_addGroup.2.1 51 = .ok (.iload 5, 2) := by decide +kernel
theorem d_RW_addGroup_53 : decode M_RW_addGroup.2.1 53 = .ok (.imul, 1) := by decide +kernel
theorem d_RW_addGroup_54 : decode M_RW_addGroup.2.1 54 = .ok (.iadd, 1) := by decide +kernel
theorem d_RW_addGroup_55 : decode M_RW_addGroup.2.1 55 = .ok (.ishl, 1) := by decide +kernel
theorem d_RW_addGroup_56 : decode M_RW_addGroup.2.1 56 = .ok (.iadd, 1) := by decide +kernel
theorem d_RW_addGroup_57 : decode M_RW_addGroup.2.1 57 = .ok (.istore 4, 2) := by decide +kernel
theorem d_RW_addGroup_59 : decode M_RW_addGroup.2.1 59 = .ok (.iinc 5 (1), 3) := by decide +kernel
theorem d_RW_addGroup_62 : decode M_RW_addGroup.2.1 62 = .ok (.goto (-56), 3) := by decide +kernel
theorem d_RW_addGroup_65 : decode M_RW_addGroup.2.1 65 = .ok (.aload_n 0, 1) := by decide +kernel
theorem d_RW_addGroup_66 : decode M_RW_addGroup.2.1 66 = .ok (.ldc 35, 2) := by decide +kernel
theorem d_RW_addGroup_68 : decode M_RW_addGroup.2.1 68 = .ok (.iconst (1), 1) := by decide +kernel
theorem d_RW_addGroup_69 : decode M_RW_addGroup.2.1 69 = .ok (.iload_n 3, 1) := by decide +kernel
theorem d_RW_addGroup_70 : decode M_RW_addGroup.2.1 70 = .ok (.iload 4, 2) := by decide +kernel
theorem d_RW_addGroup_72 : decode M_RW_addGroup.2.1 72 = .ok (.invokevirtual 36, 3) := by decide +kernel
theorem d_RW_addGroup_75 : decode M_RW_addGroup.2.1 75 = .ok (.iconst (0), 1) := by decide +kernel
theorem d_RW_addGroup_76 : decode M_RW_addGroup.2.1 76 = .ok (.istore 5, 2) := by decide +kernel
theorem d_RW_addGroup_78 : decode M_RW_addGroup.2.1 78 = .ok (.iload 5, 2) := by decide +kernel
theorem d_RW_addGroup_80 : decode M_RW_addGroup.2.1 80 = .ok (.iload_n 2, 1) := by decide +kernel
theorem d_RW_addGroup_81 : decode M_RW_addGroup.2.1 81 = .ok (.if_icmp .ge (65), 3) := by decide +kernel
theorem d_RW_addGroup_84 : decode M_RW_addGroup.2.1 84 = .ok (.aload_n 0, 1) := by decide +kernel
theorem d_RW_addGroup_85 : decode M_RW_addGroup.2.1 85 = .ok (.getfield 15, 3) := by decide +kernel
theorem d_RW_addGroup_88 : decode M_RW_addGroup.2.1 88 = .ok (.iload 5, 2) := by decide +kernel
theorem d_RW_addGroup_90 : decode M_RW_addGroup.2.1 90 = .ok (.iaload, 1) := by decide +kernel
theorem d_RW_addGroup_91 : decode M_RW_addGroup.2.1 91 = .ok (.istore 6, 2) := by decide +kernel
theorem d_RW_addGroup_93 : decode M_RW_addGroup.2.1 93 = .ok (.aload_n 1, 1) := by decide +kernel
theorem d_RW_addGroup_94 : decode M_RW_addGroup.2.1 94 = .ok (.iload 6, 2) := by decide +kernel
theorem d_RW_addGroup_96 : decode M_RW_addGroup.2.1 96 = .ok (.iconst (0), 1) := by decide +kernel
theorem d_RW_addGroup_97 : decode M_RW_addGroup.2.1 97 = .ok (.invokevirtual 40, 3) := by decide +kernel
theorem d_RW_addGroup_100 : decode M_RW_addGroup.2.1 100 = .ok (.istore 7, 2) := by decide +kernel
theorem d_RW_addGroup_102 : decode M_RW_addGroup.2.1 102 = .ok (.aload_n 0, 1) := by decide +kernel
theorem d_RW_addGroup_103 : decode M_RW_addGroup.2.1 103 = .ok (.iload 7, 2) := by decide +kernel
theorem d_RW_addGroup_105 : decode M_RW_addGroup.2.1 105 = .ok (.ldc 35, 2) := by decide +kernel
theorem d_RW_addGroup_107 : decode M_RW_addGroup.2.1 107 = .ok (.if_icmp .ne (7), 3) := by decide +kernel
theorem d_RW_addGroup_110 : decode M_RW_addGroup.2.1 110 = .ok (.iconst (0), 1) := by decide +kernel
theorem d_RW_addGroup_111 : decode M_RW_addGroup.2.1 111 = .ok (.goto (5), 3) := by decide +kernel
theorem d_RW_addGroup_114 : decode M_RW_addGroup.2.1 114 = .ok (.iload 7, 2) := by decide +kernel
theorem d_RW_addGroup_116 : decode M_RW_addGroup.2.1 116 = .ok (.aload_n 1, 1) := by decide +kernel
theorem d_RW_addGroup_117 : decode M_RW_addGroup.2.1 117 = .ok (.iload 6, 2) := by decide +kernel
theorem d_RW_addGroup_119 : decode M_RW_addGroup.2.1 119 = .ok (.iconst (1), 1) := by decide +kernel
theorem d_RW_addGroup_120 : decode M_RW_addGroup.2.1 120 = .ok (.invokevirtual 40, 3) := by decide +kernel
theorem d_RW_addGroup_123 : decode M_RW_addGroup.2.1 123 = .ok (.aload_n 1, 1) := by decide +kernel
theorem d_RW_addGroup_124 : decode M_RW_addGroup.2.1 124 = .ok (.iload 6, 2) := by decide +kernel
theorem d_RW_addGroup_126 : decode M_RW_addGroup.2.1 126 = .ok (.iconst (2), 1) := by decide +kernel
theorem d_RW_addGroup_127 : decode M_RW_addGroup.2.1 127 = .ok (.invokevirtual 40, 3) := by decide +kernel
theorem d_RW_addGroup_130 : decode M_RW_addGroup.2.1 130 = .ok (.aload_n 1, 1) := by decide +kernel
theorem d_RW_addGroup_131 : decode M_RW_addGroup.2.1 131 = .ok (.iload 6, 2) := by decide +kernel
theorem d_RW_addGroup_133 : decode M_RW_addGroup.2.1 133 = .ok (.iconst (3), 1) := by decide +kernel
theorem d_RW_addGroup_134 : decode M_RW_addGroup.2.1 134 = .ok (.invokevirtual 40, 3) := by decide +kernel
theorem d_RW_addGroup_137 : decode M_RW_addGroup.2.1 137 = .ok (.invokevirtual 36, 3) := by decide +kernel
theorem d_RW_addGroup_140 : decode M_RW_addGroup.2.1 140 = .ok (.iinc 5 (1), 3) := by decide +kernel
theorem d_RW_addGroup_143 : decode M_RW_addGroup.2.1 143 = .ok (.goto (-65), 3) := by decide +kernel
theorem d_RW_addGroup_146 : decode M_RW_addGroup.2.1 146 = .ok (.return_, 1) := by decide +kernel
theorem d_RW_add_0 : decode M_RW_add.2.1 0 = .ok (.aload_n 0, 1) := by decide +kernel
theorem d_RW_add_1 : decode M_RW_add.2.1 1 = .ok (.getfield 18, 3) := by decide +kernel
theorem d_RW_add_4 : decode M_RW_add.2.1 4 = .ok (.bipush (12), 2) := by decide +kernel
theorem d_RW_add_6 : decode M_RW_add.2.1 6 = .ok (.if_icmp .lt (4), 3) := by decide +kernel
theorem d_RW_add_9 : decode M_RW_add.2.1 9 = .ok (.return_, 1) := by decide +kernel
theorem d_RW_add_10 : decode M_RW_add.2.1 10 = .ok (.aload_n 0, 1) := by decide +kernel
theorem d_RW_add_11 : decode M_RW_add.2.1 11 = .ok (.getfield 18, 3) := by decide +kernel
theorem d_RW_add_14 : decode M_RW_add.2.1 14 = .ok (.iconst (4), 1) := by decide +kernel
theorem d_RW_add_15 : decode M_RW_add.2.1 15 = .ok (.imul, 1) := by decide +kernel
theorem d_RW_add_16 : decode M_RW_add.2.1 16 = .ok (.istore 5, 2) := by decide +kernel
theorem d_RW_add_18 : decode M_RW_add.2.1 18 = .ok (.aload_n 0, 1) := by decide +kernel
theorem d_RW_add_19 : decode M_RW_add.2.1 19 = .ok (.getfield 11, 3) := by decide +kernel
theorem d_RW_add_22 : decode M_RW_add.2.1 22 = .ok (.iload 5, 2) := by decide +kernel
theorem d_RW_add_24 : decode M_RW_add.2.1 24 = .ok (.iload_n 1, 1) := by decide +kernel
theorem d_RW_add_25 : decode M_RW_add.2.1 25 = .ok (.iastore, 1) := by decide +kernel
theorem d_RW_add_26 : decode M_RW_add.2.1 26 = .ok (.aload_n 0, 1) := by decide +kernel
theorem d_RW_add_27 : decode M_RW_add.2.1 27 = .ok (.getfield 11, 3) := by decide +kernel
theorem d_RW_add_30 : decode M_RW_add.2.1 30 = .ok (.iload 5, 2) := by decide +kernel
theorem d_RW_add_32 : decode M_RW_add.2.1 32 = .ok (.iconst (1), 1) := by decide +kernel
theorem d_RW_add_33 : decode M_RW_add.2.1 33 = .ok (.iadd, 1) := by decide +kernel
theorem d_RW_add_34 : decode M_RW_add.2.1 34 = .ok (.iload_n 2, 1) := by decide +kernel
theorem d_RW_add_35 : decode M_RW_add.2.1 35 = .ok (.iastore, 1) := by decide +kernel
theorem d_RW_add_36 : decode M_RW_add.2.1 36 = .ok (.aload_n 0, 1) := by decide +kernel
theorem d_RW_add_37 : decode M_RW_add.2.1 37 = .ok (.getfield 11, 3) := by decide +kernel
theorem d_RW_add_40 : decode M_RW_add.2.1 40 = .ok (.iload 5, 2) := by decide +kernel
theorem d_RW_add_42 : decode M_RW_add.2.1 42 = .ok (.iconst (2), 1) := by decide +kernel
theorem d_RW_add_43 : decode M_RW_add.2.1 43 = .ok (.iadd, 1) := by decide +kernel
theorem d_RW_add_44 : decode M_RW_add.2.1 44 = .ok (.iload_n 3, 1) := by decide +kernel
theorem d_RW_add_45 : decode M_RW_add.2.1 45 = .ok (.iastore, 1) := by decide +kernel
theorem d_RW_add_46 : decode M_RW_add.2.1 46 = .ok (.aload_n 0, 1) := by decide +kernel
theorem d_RW_add_47 : decode M_RW_add.2.1 47 = .ok (.getfield 11, 3) := by decide +kernel
theorem d_RW_add_50 : decode M_RW_add.2.1 50 = .ok (.iload 5, 2) := by decide +kernel
theorem d_RW_add_52 : decode M_RW_add.2.1 52 = .ok (.iconst (3), 1) := by decide +kernel
theorem d_RW_add_53 : decode M_RW_add.2.1 53 = .ok (.iadd, 1) := by decide +kernel
theorem d_RW_add_54 : decode M_RW_add.2.1 54 = .ok (.iload 4, 2) := by decide +kernel
theorem d_RW_add_56 : decode M_RW_add.2.1 56 = .ok (.iastore, 1) := by decide +kernel
theorem d_RW_add_57 : decode M_RW_add.2.1 57 = .ok (.aload_n 0, 1) := by decide +kernel
theorem d_RW_add_58 : decode M_RW_add.2.1 58 = .ok (.aload_n 0, 1) := by decide +kernel
theorem d_RW_add_59 : decode M_RW_add.2.1 59 = .ok (.getfield 22, 3) := by decide +kernel
theorem d_RW_add_62 : decode M_RW_add.2.1 62 = .ok (.iload_n 1, 1) := by decide +kernel
theorem d_RW_add_63 : decode M_RW_add.2.1 63 = .ok (.invokestatic 44, 3) := by decide +kernel
theorem d_RW_add_66 : decode M_RW_add.2.1 66 = .ok (.iload_n 2, 1) := by decide +kernel
theorem d_RW_add_67 : decode M_RW_add.2.1 67 = .ok (.invokestatic 44, 3) := by decide +kernel
theorem d_RW_add_70 : decode M_RW_add.2.1 70 = .ok (.iload_n 3, 1) := by decide +kernel
theorem d_RW_add_71 : decode M_RW_add.2.1 71 = .ok (.invokestatic 44, 3) := by decide +kernel
theorem d_RW_add_74 : decode M_RW_add.2.1 74 = .ok (.iload 4, 2) := by decide +kernel
theorem d_RW_add_76 : decode M_RW_add.2.1 76 = .ok (.invokestatic 44, 3) := by decide +kernel
theorem d_RW_add_79 : decode M_RW_add.2.1 79 = .ok (.putfield 22, 3) := by decide +kernel
theorem d_RW_add_82 : decode M_RW_add.2.1 82 = .ok (.aload_n 0, 1) := by decide +kernel
theorem d_RW_add_83 : decode M_RW_add.2.1 83 = .ok (.dup, 1) := by decide +kernel
theorem d_RW_add_84 : decode M_RW_add.2.1 84 = .ok (.getfield 18, 3) := by decide +kernel
theorem d_RW_add_87 : decode M_RW_add.2.1 87 = .ok (.iconst (1), 1) := by decide +kernel
theorem d_RW_add_88 : decode M_RW_add.2.1 88 = .ok (.iadd, 1) := by decide +kernel
theorem d_RW_add_89 : decode M_RW_add.2.1 89 = .ok (.putfield 18, 3) := by decide +kernel
theorem d_RW_add_92 : decode M_RW_add.2.1 92 = .ok (.return_, 1) := by decide +kernel
theorem d_RW_length_0 : decode M_RW_length.2.1 0 = .ok (.aload_n 0, 1) := by decide +kernel
theorem d_RW_length_1 : decode M_RW_length.2.1 1 = .ok (.getfield 18, 3) := by decide +kernel
theorem d_RW_length_4 : decode M_RW_length.2.1 4 = .ok (.ireturn, 1) := by decide +kernel
theorem d_RW_word_0 : decode M_RW_word.2.1 0 = .ok (.aload_n 0, 1) := by decide +kernel
theorem d_RW_word_1 : decode M_RW_word.2.1 1 = .ok (.getfield 11, 3) := by decide +kernel
theorem d_RW_word_4 : decode M_RW_word.2.1 4 = .ok (.iload_n 1, 1) := by decide +kernel
theorem d_RW_word_5 : decode M_RW_word.2.1 5 = .ok (.iconst (4), 1) := by decide +kernel
theorem d_RW_word_6 : decode M_RW_word.2.1 6 = .ok (.imul, 1) := by decide +kernel
theorem d_RW_word_7 : decode M_RW_word.2.1 7 = .ok (.iload_n 2, 1) := by decide +kernel
theorem d_RW_word_8 : decode M_RW_word.2.1 8 = .ok (.iadd, 1) := by decide +kernel
theorem d_RW_word_9 : decode M_RW_word.2.1 9 = .ok (.iaload, 1) := by decide +kernel
theorem d_RW_word_10 : decode M_RW_word.2.1 10 = .ok (.ireturn, 1) := by decide +kernel
