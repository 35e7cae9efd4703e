theorem d_MD_replay_57 : decode M_MD_replay.2.1 57 = .ok (.iload 6, 2) := by decide +kernel
theorem d_MD_replay_59 : decode M_MD_replay.2.1 59 = .ok (.imul, 1) := by decide +kernel
theorem d_MD_replay_60 : decode M_MD_replay.2.1 60 = .ok (.iadd, 1) := by decide +kernel
theorem d_MD_replay_61 : decode M_MD_replay.2.1 61 = .ok (.iushr, 1) := by decide +kernel
theorem d_MD_replay_62 : decode M_MD_replay.2.1 62 = .ok (.bipush (15), 2) := by decide +kernel
theorem d_MD_replay_64 : decode M_MD_replay.2.1 64 = .ok (.iand, 1) := by decide +kernel
theorem d_MD_replay_65 : decode M_MD_replay.2.1 65 = .ok (.istore 7, 2) := by decide +kernel
theorem d_MD_replay_67 : decode M_MD_replay.2.1 67 = .ok (.aload_n 0, 1) := by decide +kernel
theorem d_MD_replay_68 : decode M_MD_replay.2.1 68 = .ok (.getfield 46, 3) := by decide +kernel
theorem d_MD_replay_71 : decode M_MD_replay.2.1 71 = .ok (.iload 7, 2) := by decide +kernel
theorem d_MD_replay_73 : decode M_MD_replay.2.1 73 = .ok (.baload, 1) := by decide +kernel
theorem d_MD_replay_74 : decode M_MD_replay.2.1 74 = .ok (.ifCond .eq (15), 3) := by decide +kernel
theorem d_MD_replay_77 : decode M_MD_replay.2.1 77 = .ok (.aload_n 0, 1) := by decide +kernel
theorem d_MD_replay_78 : decode M_MD_replay.2.1 78 = .ok (.getfield 43, 3) := by decide +kernel
theorem d_MD_replay_81 : decode M_MD_replay.2.1 81 = .ok (.iload 7, 2) := by decide +kernel
theorem d_MD_replay_83 : decode M_MD_replay.2.1 83 = .ok (.iaload, 1) := by decide +kernel
theorem d_MD_replay_84 : decode M_MD_replay.2.1 84 = .ok (.iload 4, 2) := by decide +kernel
theorem d_MD_replay_86 : decode M_MD_replay.2.1 86 = .ok (.if_icmp .gt (99), 3) := by decide +kernel
theorem d_MD_replay_89 : decode M_MD_replay.2.1 89 = .ok (.iload_n 2, 1) := by decide +kernel
theorem d_MD_replay_90 : decode M_MD_replay.2.1 90 = .ok (.iload_n 1, 1) := by decide +kernel
theorem d_MD_replay_91 : decode M_MD_replay.2.1 91 = .ok (.if_icmp .ne (90), 3) := by decide +kernel
theorem d_MD_replay_94 : decode M_MD_replay.2.1 94 = .ok (.iload 5, 2) := by decide +kernel
theorem d_MD_replay_96 : decode M_MD_replay.2.1 96 = .ok (.bipush (7), 2) := by decide +kernel
theorem d_MD_replay_98 : decode M_MD_replay.2.1 98 = .ok (.iconst (5), 1) := by decide +kernel
theorem d_MD_replay_99 : decode M_MD_replay.2.1 99 = .ok (.iload 6, 2) := by decide +kernel
theorem d_MD_replay_101 : decode M_MD_replay.2.1 101 = .ok (.imul, 1) := by decide +kernel
theorem d_MD_replay_102 : decode M_MD_replay.2.1 102 = .ok (.iadd, 1) := by decide +kernel
theorem d_MD_replay_103 : decode M_MD_replay.2.1 103 = .ok (.iushr, 1) := by decide +kernel
theorem d_MD_replay_104 : decode M_MD_replay.2.1 104 = .ok (.iconst (1), 1) := by decide +kernel
theorem d_MD_replay_105 : decode M_MD_replay.2.1 105 = .ok (.iand, 1) := by decide +kernel
theorem d_MD_replay_106 : decode M_MD_replay.2.1 106 = .ok (.iconst (1), 1) := by decide +kernel
theorem d_MD_replay_107 : decode M_MD_replay.2.1 107 = .ok (.if_icmp .ne (7), 3) := by decide +kernel
theorem d_MD_replay_110 : decode M_MD_replay.2.1 110 = .ok (.iconst (1), 1) := by decide +kernel
theorem d_MD_replay_111 : decode M_MD_replay.2.1 111 = .ok (.goto (4), 3) := by decide +kernel
theorem d_MD_replay_114 : decode M_MD_replay.2.1 114 = .ok (.iconst (0), 1) := by decide +kernel
theorem d_MD_replay_115 : decode M_MD_replay.2.1 115 = .ok (.istore 8, 2) := by decide +kernel
theorem d_MD_replay_117 : decode M_MD_replay.2.1 117 = .ok (.aload_n 0, 1) := by decide +kernel
theorem d_MD_replay_118 : decode M_MD_replay.2.1 118 = .ok (.iload 8, 2) := by decide +kernel
theorem d_MD_replay_120 : decode M_MD_replay.2.1 120 = .ok (.ifCond .eq (8), 3) := by decide +kernel
theorem d_MD_replay_123 : decode M_MD_replay.2.1 123 = .ok (.ldc 49, 2) := by decide +kernel
theorem d_MD_replay_125 : decode M_MD_replay.2.1 125 = .ok (.goto (14), 3) := by decide +kernel
theorem d_MD_replay_128 : decode M_MD_replay.2.1 128 = .ok (.aload_n 0, 1) := by decide +kernel
theorem d_MD_replay_129 : decode M_MD_replay.2.1 129 = .ok (.iload_n 3, 1) := by decide +kernel
theorem d_MD_replay_130 : decode M_MD_replay.2.1 130 = .ok (.iconst (1), 1) := by decide +kernel
theorem d_MD_replay_131 : decode M_MD_replay.2.1 131 = .ok (.iadd, 1) := by decide +kernel
theorem d_MD_replay_132 : decode M_MD_replay.2.1 132 = .ok (.iload 6, 2) := by decide +kernel
theorem d_MD_replay_134 : decode M_MD_replay.2.1 134 = .ok (.iadd, 1) := by decide +kernel
theorem d_MD_replay_135 : decode M_MD_replay.2.1 135 = .ok (.iconst (0), 1) := by decide +kernel
theorem d_MD_replay_136 : decode M_MD_replay.2.1 136 = .ok (.invokevirtual 137, 3) := by decide +kernel
theorem d_MD_replay_139 : decode M_MD_replay.2.1 139 = .ok (.aload_n 0, 1) := by decide +kernel
theorem d_MD_replay_140 : decode M_MD_replay.2.1 140 = .ok (.iload_n 3, 1) := by decide +kernel
theorem d_MD_replay_141 : decode M_MD_replay.2.1 141 = .ok (.iconst (1), 1) := by decide +kernel
theorem d_MD_replay_142 : decode M_MD_replay.2.1 142 = .ok (.iadd, 1) := by decide +kernel
theorem d_MD_replay_143 : decode M_MD_replay.2.1 143 = .ok (.iload 6, 2) := by decide +kernel
theorem d_MD_replay_145 : decode M_MD_replay.2.1 145 = .ok (.iadd, 1) := by decide +kernel
theorem d_MD_replay_146 : decode M_MD_replay.2.1 146 = .ok (.iconst (1), 1) := by decide +kernel
theorem d_MD_replay_147 : decode M_MD_replay.2.1 147 = .ok (.invokevirtual 137, 3) := by decide +kernel
theorem d_MD_replay_150 : decode M_MD_replay.2.1 150 = .ok (.aload_n 0, 1) := by decide +kernel
theorem d_MD_replay_151 : decode M_MD_replay.2.1 151 = .ok (.iload_n 3, 1) := by decide +kernel
theorem d_MD_replay_152 : decode M_MD_replay.2.1 152 = .ok (.iconst (1), 1) := by decide +kernel
theorem d_MD_replay_153 : decode M_MD_replay.2.1 153 = .ok (.iadd, 1) := by decide +kernel
theorem d_MD_replay_154 : decode M_MD_replay.2.1 154 = .ok (.iload 6, 2) := by decide +kernel
theorem d_MD_replay_156 : decode M_MD_replay.2.1 156 = .ok (.iadd, 1) := by decide +kernel
theorem d_MD_replay_157 : decode M_MD_replay.2.1 157 = .ok (.iconst (2), 1) := by decide +kernel
theorem d_MD_replay_158 : decode M_MD_replay.2.1 158 = .ok (.invokevirtual 137, 3) := by decide +kernel
theorem d_MD_replay_161 : decode M_MD_replay.2.1 161 = .ok (.aload_n 0, 1) := by decide +kernel
theorem d_MD_replay_162 : decode M_MD_replay.2.1 162 = .ok (.iload_n 3, 1) := by decide +kernel
theorem d_MD_replay_163 : decode M_MD_replay.2.1 163 = .ok (.iconst (1), 1) := by decide +kernel
theorem d_MD_replay_164 : decode M_MD_replay.2.1 164 = .ok (.iadd, 1) := by decide +kernel
theorem d_MD_replay_165 : decode M_MD_replay.2.1 165 = .ok (.iload 6, 2) := by decide +kernel
theorem d_MD_replay_167 : decode M_MD_replay.2.1 167 = .ok (.iadd, 1) := by decide +kernel
theorem d_MD_replay_168 : decode M_MD_replay.2.1 168 = .ok (.iconst (3), 1) := by decide +kernel
theorem d_MD_replay_169 : decode M_MD_replay.2.1 169 = .ok (.invokevirtual 137, 3) := by decide +kernel
theorem d_MD_replay_172 : decode M_MD_replay.2.1 172 = .ok (.invokevirtual 94, 3) := by decide +kernel
theorem d_MD_replay_175 : decode M_MD_replay.2.1 175 = .ok (.aload_n 0, 1) := by decide +kernel
theorem d_MD_replay_176 : decode M_MD_replay.2.1 176 = .ok (.iload 7, 2) := by decide +kernel
theorem d_MD_replay_178 : decode M_MD_replay.2.1 178 = .ok (.putfield 131, 3) := by decide +kernel
theorem d_MD_replay_181 : decode M_MD_replay.2.1 181 = .ok (.iload_n 2, 1) := by decide +kernel
theorem d_MD_replay_182 : decode M_MD_replay.2.1 182 = .ok (.iconst (1), 1) := by decide +kernel
theorem d_MD_replay_183 : decode M_MD_replay.2.1 183 = .ok (.iadd, 1) := by decide +kernel
theorem d_MD_replay_184 : decode M_MD_replay.2.1 184 = .ok (.istore_n 2, 1) := by decide +kernel
theorem d_MD_replay_185 : decode M_MD_replay.2.1 185 = .ok (.iinc 6 (1), 3) := by decide +kernel
theorem d_MD_replay_188 : decode M_MD_replay.2.1 188 = .ok (.goto (-145), 3) := by decide +kernel
theorem d_MD_replay_191 : decode M_MD_replay.2.1 191 = .ok (.iload_n 3, 1) := by decide +kernel
theorem d_MD_replay_192 : decode M_MD_replay.2.1 192 = .ok (.iconst (1), 1) := by decide +kernel
theorem d_MD_replay_193 : decode M_MD_replay.2.1 193 = .ok (.iadd, 1) := by decide +kernel
theorem d_MD_replay_194 : decode M_MD_replay.2.1 194 = .ok (.iload 5, 2) := by decide +kernel
theorem d_MD_replay_196 : decode M_MD_replay.2.1 196 = .ok (.bipush (7), 2) := by decide +kernel
theorem d_MD_replay_198 : decode M_MD_replay.2.1 198 = .ok (.iand, 1) := by decide +kernel
theorem d_MD_replay_199 : decode M_MD_replay.2.1 199 = .ok (.iadd, 1) := by decide +kernel
theorem d_MD_replay_200 : decode M_MD_replay.2.1 200 = .ok (.istore_n 3, 1) := by decide +kernel
theorem d_MD_replay_201 : decode M_MD_replay.2.1 201 = .ok (.goto (-187), 3) := by decide +kernel
theorem d_MD_replay_204 : decode M_MD_replay.2.1 204 = .ok (.aload_n 0, 1) := by decide +kernel
theorem d_MD_replay_205 : decode M_MD_replay.2.1 205 = .ok (.iload_n 3, 1) := by decide +kernel
theorem d_MD_replay_206 : decode M_MD_replay.2.1 206 = .ok (.iconst (1), 1) := by decide +kernel
theorem d_MD_replay_207 : decode M_MD_replay.2.1 207 = .ok (.invokevirtual 137, 3) := by decide +kernel
theorem d_MD_replay_210 : decode M_MD_replay.2.1 210 = .ok (.iconst (3), 1) := by decide +kernel
theorem d_MD_replay_211 : decode M_MD_replay.2.1 211 = .ok (.if_icmp .ne (10), 3) := by decide +kernel
theorem d_MD_replay_214 : decode M_MD_replay.2.1 214 = .ok (.iload 4, 2) := by decide +kernel
theorem d_MD_replay_216 : decode M_MD_replay.2.1 216 = .ok (.iconst (1), 1) := by decide +kernel
theorem d_MD_replay_217 : decode M_MD_replay.2.1 217 = .ok (.iadd, 1) := by decide +kernel
theorem d_MD_replay_218 : decode M_MD_replay.2.1 218 = .ok (.goto (5), 3) := by decide +kernel
theorem d_MD_replay_221 : decode M_MD_replay.2.1 221 = .ok (.iload 4, 2) := by decide +kernel
theorem d_MD_replay_223 : decode M_MD_replay.2.1 223 = .ok (.istore 4, 2) := by decide +kernel
theorem d_MD_replay_225 : decode M_MD_replay.2.1 225 = .ok (.iload_n 3, 1) := by decide +kernel
theorem d_MD_replay_226 : decode M_MD_replay.2.1 226 = .ok (.iconst (1), 1) := by decide +kernel
theorem d_MD_replay_227 : decode M_MD_replay.2.1 227 = .ok (.iadd, 1) := by decide +kernel
theorem d_MD_replay_228 : decode M_MD_replay.2.1 228 = .ok (.istore_n 3, 1) := by decide +kernel
theorem d_MD_replay_229 : decode M_MD_replay.2.1 229 = .ok (.goto (-215), 3) := by decide +kernel
theorem d_MD_replay_232 : decode M_MD_replay.2.1 232 = .ok (.iload_n 2, 1) := by decide +kernel
theorem d_MD_replay_233 : decode M_MD_replay.2.1 233 = .ok (.ireturn, 1) := by decide +kernel
theorem d_MD_recover_0 : decode M_MD_recover.2.1 0 = .ok (.aload_n 0, 1) := by decide +kernel
theorem d_MD_recover_1 : decode M_MD_recover.2.1 1 = .ok (.getfield 19, 3) := by decide +kernel
theorem d_MD_recover_4 : decode M_MD_recover.2.1 4 = .ok (.ifCond .ne (10), 3) := by decide +kernel
theorem d_MD_recover_7 : decode M_MD_recover.2.1 7 = .ok (.aload_n 0, 1) := by decide +kernel
theorem d_MD_recover_8 : decode M_MD_recover.2.1 8 = .ok (.getfield 69, 3) := by decide +kernel
theorem d_MD_recover_11 : decode M_MD_recover.2.1 11 = .ok (.ifCond .eq (5), 3) := by decide +kernel
theorem d_MD_recover_14 : decode M_MD_recover.2.1 14 = .ok (.iconst (-1), 1) := by decide +kernel
theorem d_MD_recover_15 : decode M_MD_recover.2.1 15 = .ok (.ireturn, 1) := by decide +kernel
theorem d_MD_recover_16 : decode M_MD_recover.2.1 16 = .ok (.aload_n 0, 1) := by decide +kernel
theorem d_MD_recover_17 : decode M_MD_recover.2.1 17 = .ok (.iconst (4), 1) := by decide +kernel
theorem d_MD_recover_18 : decode M_MD_recover.2.1 18 = .ok (.putfield 69, 3) := by decide +kernel
theorem d_MD_recover_21 : decode M_MD_recover.2.1 21 = .ok (.aload_n 0, 1) := by decide +kernel
theorem d_MD_recover_22 : decode M_MD_recover.2.1 22 = .ok (.iconst (0), 1) := by decide +kernel
theorem d_MD_recover_23 : decode M_MD_recover.2.1 23 = .ok (.putfield 113, 3) := by decide +kernel
theorem d_MD_recover_26 : decode M_MD_recover.2.1 26 = .ok (.aload_n 0, 1) := by decide +kernel
theorem d_MD_recover_27 : decode M_MD_recover.2.1 27 = .ok (.aload_n 0, 1) := by decide +kernel
theorem d_MD_recover_28 : decode M_MD_recover.2.1 28 = .ok (.iconst (-1), 1) := by decide +kernel
theorem d_MD_recover_29 : decode M_MD_recover.2.1 29 = .ok (.invokevirtual 165, 3) := by decide +kernel
theorem d_MD_recover_32 : decode M_MD_recover.2.1 32 = .ok (.iconst (3), 1) := by decide +kernel
theorem d_MD_recover_33 : decode M_MD_recover.2.1 33 = .ok (.iadd, 1) := by decide +kernel
theorem d_MD_recover_34 : decode M_MD_recover.2.1 34 = .ok (.putfield 116, 3) := by decide +kernel
theorem d_MD_recover_37 : decode M_MD_recover.2.1 37 = .ok (.aload_n 0, 1) := by decide +kernel
theorem d_MD_recover_38 : decode M_MD_recover.2.1 38 = .ok (.getfield 116, 3) := by decide +kernel
theorem d_MD_recover_41 : decode M_MD_recover.2.1 41 = .ok (.iconst (3), 1) := by decide +kernel
theorem d_MD_recover_42 : decode M_MD_recover.2.1 42 = .ok (.isub, 1) := by decide +kernel
theorem d_MD_recover_43 : decode M_MD_recover.2.1 43 = .ok (.ireturn, 1) := by decide +kernel
theorem d_MD_recoveryAction_0 : decode M_MD_recoveryAction.2.1 0 = .ok (.aload_n 0, 1) := by decide +kernel
theorem d_MD_recoveryAction_1 : decode M_MD_recoveryAction.2.1 1 = .ok (.getfield 116, 3) := by decide +kernel
theorem d_MD_recoveryAction_4 : decode M_MD_recoveryAction.2.1 4 = .ok (.iconst (3), 1) := by decide +kernel
theorem d_MD_recoveryAction_5 : decode M_MD_recoveryAction.2.1 5 = .ok (.isub, 1) := by decide +kernel
theorem d_MD_recoveryAction_6 : decode M_MD_recoveryAction.2.1 6 = .ok (.istore_n 2, 1) := by decide +kernel
theorem d_MD_recoveryAction_7 : decode M_MD_recoveryAction.2.1 7 = .ok (.iload_n 1, 1) := by decide +kernel
theorem d_MD_recoveryAction_8 : decode M_MD_recoveryAction.2.1 8 = .ok (.iload_n 2, 1) := by decide +kernel
theorem d_MD_recoveryAction_9 : decode M_MD_recoveryAction.2.1 9 = .ok (.if_icmp .ge (20), 3) := by decide +kernel
theorem d_MD_recoveryAction_12 : decode M_MD_recoveryAction.2.1 12 = .ok (.aload_n 0, 1) := by decide +kernel
theorem d_MD_recoveryAction_13 : decode M_MD_recoveryAction.2.1 13 = .ok (.iload_n 1, 1) := by decide +kernel
theorem d_MD_recoveryAction_14 : decode M_MD_recoveryAction.2.1 14 = .ok (.invokevirtual 165, 3) := by decide +kernel
theorem d_MD_recoveryAction_17 : decode M_MD_recoveryAction.2.1 17 = .ok (.pop, 1) := by decide +kernel
theorem d_MD_recoveryAction_18 : decode M_MD_recoveryAction.2.1 18 = .ok (.aload_n 0, 1) := by decide +kernel
theorem d_MD_recoveryAction_19 : decode M_MD_recoveryAction.2.1 19 = .ok (.aload_n 0, 1) := by decide +kernel
theorem d_MD_recoveryAction_20 : decode M_MD_recoveryAction.2.1 20 = .ok (.getfield 131, 3) := by decide +kernel
theorem d_MD_recoveryAction_23 : decode M_MD_recoveryAction.2.1 23 = .ok (.invokevirtual 83, 3) := by decide +kernel
theorem d_MD_recoveryAction_26 : decode M_MD_recoveryAction.2.1 26 = .ok (.goto (50), 3) := by decide +kernel
theorem d_MD_recoveryAction_29 : decode M_MD_recoveryAction.2.1 29 = .ok (.iload_n 1, 1) := by decide +kernel
theorem d_MD_recoveryAction_30 : decode M_MD_recoveryAction.2.1 30 = .ok (.iload_n 2, 1) := by decide +kernel
theorem d_MD_recoveryAction_31 : decode M_MD_recoveryAction.2.1 31 = .ok (.iconst (1), 1) := by decide +kernel
theorem d_MD_recoveryAction_32 : decode M_MD_recoveryAction.2.1 32 = .ok (.iadd, 1) := by decide +kernel
theorem d_MD_recoveryAction_33 : decode M_MD_recoveryAction.2.1 33 = .ok (.if_icmp .ne (39), 3) := by decide +kernel
theorem d_MD_recoveryAction_36 : decode M_MD_recoveryAction.2.1 36 = .ok (.aload_n 0, 1) := by decide +kernel
theorem d_MD_recoveryAction_37 : decode M_MD_recoveryAction.2.1 37 = .ok (.invokevirtual 162, 3) := by decide +kernel
theorem d_MD_recoveryAction_40 : decode M_MD_recoveryAction.2.1 40 = .ok (.aload_n 0, 1) := by decide +kernel
theorem d_MD_recoveryAction_41 : decode M_MD_recoveryAction.2.1 41 = .ok (.ldc 49, 2) := by decide +kernel
theorem d_MD_recoveryAction_43 : decode M_MD_recoveryAction.2.1 43 = .ok (.aload_n 0, 1) := by decide +kernel
theorem d_MD_recoveryAction_44 : decode M_MD_recoveryAction.2.1 44 = .ok (.getfield 152, 3) := by decide +kernel
theorem d_MD_recoveryAction_47 : decode M_MD_recoveryAction.2.1 47 = .ok (.aload_n 0, 1) := by decide +kernel
theorem d_MD_recoveryAction_48 : decode M_MD_recoveryAction.2.1 48 = .ok (.getfield 134, 3) := by decide +kernel
theorem d_MD_recoveryAction_51 : decode M_MD_recoveryAction.2.1 51 = .ok (.aload_n 0, 1) := by decide +kernel
theorem d_MD_recoveryAction_52 : decode M_MD_recoveryAction.2.1 52 = .ok (.getfield 149, 3) := by decide +kernel
theorem d_MD_recoveryAction_55 : decode M_MD_recoveryAction.2.1 55 = .ok (.iadd, 1) := by decide +kernel
theorem d_MD_recoveryAction_56 : decode M_MD_recoveryAction.2.1 56 = .ok (.bipush (24), 2) := by decide +kernel
theorem d_MD_recoveryAction_58 : decode M_MD_recoveryAction.2.1 58 = .ok (.irem, 1) := by decide +kernel
theorem d_MD_recoveryAction_59 : decode M_MD_recoveryAction.2.1 59 = .ok (.iconst (0), 1) := by decide +kernel
theorem d_MD_recoveryAction_60 : decode M_MD_recoveryAction.2.1 60 = .ok (.invokevirtual 94, 3) := by decide +kernel
theorem d_MD_recoveryAction_63 : decode M_MD_recoveryAction.2.1 63 = .ok (.aload_n 0, 1) := by decide +kernel
theorem d_MD_recoveryAction_64 : decode M_MD_recoveryAction.2.1 64 = .ok (.bipush (16), 2) := by decide +kernel
theorem d_MD_recoveryAction_66 : decode M_MD_recoveryAction.2.1 66 = .ok (.invokevirtual 83, 3) := by decide +kernel
theorem d_MD_recoveryAction_69 : decode M_MD_recoveryAction.2.1 69 = .ok (.goto (7), 3) := by decide +kernel
theorem d_MD_recoveryAction_72 : decode M_MD_recoveryAction.2.1 72 = .ok (.aload_n 0, 1) := by decide +kernel
theorem d_MD_recoveryAction_73 : decode M_MD_recoveryAction.2.1 73 = .ok (.invokevirtual 125, 3) := by decide +kernel
theorem d_MD_recoveryAction_76 : decode M_MD_recoveryAction.2.1 76 = .ok (.return_, 1) := by decide +kernel
theorem d_MD_recovered_0 : decode M_MD_recovered.2.1 0 = .ok (.aload_n 0, 1) := by decide +kernel
theorem d_MD_recovered_1 : decode M_MD_recovered.2.1 1 = .ok (.iconst (1), 1) := by decide +kernel
theorem d_MD_recovered_2 : decode M_MD_recovered.2.1 2 = .ok (.putfield 19, 3) := by decide +kernel
theorem d_MD_recovered_5 : decode M_MD_recovered.2.1 5 = .ok (.aload_n 0, 1) := by decide +kernel
theorem d_MD_recovered_6 : decode M_MD_recovered.2.1 6 = .ok (.aload_n 0, 1) := by decide +kernel
theorem d_MD_recovered_7 : decode M_MD_recovered.2.1 7 = .ok (.bipush (16), 2) := by decide +kernel
theorem d_MD_recovered_9 : decode M_MD_recovered.2.1 9 = .ok (.iconst (1), 1) := by decide +kernel
theorem d_MD_recovered_10 : decode M_MD_recovered.2.1 10 = .ok (.invokevirtual 65, 3) := by decide +kernel
theorem d_MD_recovered_13 : decode M_MD_recovered.2.1 13 = .ok (.putfield 23, 3) := by decide +kernel
theorem d_MD_recovered_16 : decode M_MD_recovered.2.1 16 = .ok (.aload_n 0, 1) := by decide +kernel
theorem d_MD_recovered_17 : decode M_MD_recovered.2.1 17 = .ok (.aload_n 0, 1) := by decide +kernel
theorem d_MD_recovered_18 : decode M_MD_recovered.2.1 18 = .ok (.bipush (16), 2) := by decide +kernel
theorem d_MD_recovered_20 : decode M_MD_recovered.2.1 20 = .ok (.iconst (2), 1) := by decide +kernel
theorem d_MD_recovered_21 : decode M_MD_recovered.2.1 21 = .ok (.invokevirtual 65, 3) := by decide +kernel
theorem d_MD_recovered_24 : decode M_MD_recovered.2.1 24 = .ok (.putfield 119, 3) := by decide +kernel
theorem d_MD_recovered_27 : decode M_MD_recovered.2.1 27 = .ok (.aload_n 0, 1) := by decide +kernel
theorem d_MD_recovered_28 : decode M_MD_recovered.2.1 28 = .ok (.iconst (0), 1) := by decide +kernel
theorem d_MD_recovered_29 : decode M_MD_recovered.2.1 29 = .ok (.putfield 110, 3) := by decide +kernel
theorem d_MD_recovered_32 : decode M_MD_recovered.2.1 32 = .ok (.iconst (0), 1) := by decide +kernel
theorem d_MD_recovered_33 : decode M_MD_recovered.2.1 33 = .ok (.istore_n 1, 1) := by decide +kernel
theorem d_MD_recovered_34 : decode M_MD_recovered.2.1 34 = .ok (.iload_n 1, 1) := by decide +kernel
theorem d_MD_recovered_35 : decode M_MD_recovered.2.1 35 = .ok (.bipush (16), 2) := by decide +kernel
theorem d_MD_recovered_37 : decode M_MD_recovered.2.1 37 = .ok (.if_icmp .ge (23), 3) := by decide +kernel
theorem d_MD_recovered_40 : decode M_MD_recovered.2.1 40 = .ok (.aload_n 0, 1) := by decide +kernel
theorem d_MD_recovered_41 : decode M_MD_recovered.2.1 41 = .ok (.getfield 27, 3) := by decide +kernel
theorem d_MD_recovered_44 : decode M_MD_recovered.2.1 44 = .ok (.iload_n 1, 1) := by decide +kernel
theorem d_MD_recovered_45 : decode M_MD_recovered.2.1 45 = .ok (.iconst (0), 1) := by decide +kernel
theorem d_MD_recovered_46 : decode M_MD_recovered.2.1 46 = .ok (.iastore, 1) := by decide +kernel
theorem d_MD_recovered_47 : decode M_MD_recovered.2.1 47 = .ok (.aload_n 0, 1) := by decide +kernel
theorem d_MD_recovered_48 : decode M_MD_recovered.2.1 48 = .ok (.getfield 33, 3) := by decide +kernel
theorem d_MD_recovered_51 : decode M_MD_recovered.2.1 51 = .ok (.iload_n 1, 1) := by decide +kernel
theorem d_MD_recovered_52 : decode M_MD_recovered.2.1 52 = .ok (.iconst (0), 1) := by decide +kernel
theorem d_MD_recovered_53 : decode M_MD_recovered.2.1 53 = .ok (.bastore, 1) := by decide +kernel
theorem d_MD_recovered_54 : decode M_MD_recovered.2.1 54 = .ok (.iinc 1 (1), 3) := by decide +kernel
theorem d_MD_recovered_57 : decode M_MD_recovered.2.1 57 = .ok (.goto (-23), 3) := by decide +kernel
theorem d_MD_recovered_60 : decode M_MD_recovered.2.1 60 = .ok (.return_, 1) := by decide +kernel
theorem d_MD_finish_0 : decode M_MD_finish.2.1 0 = .ok (.aload_n 0, 1) := by decide +kernel
theorem d_MD_finish_1 : decode M_MD_finish.2.1 1 = .ok (.getfield 69, 3) := by decide +kernel
theorem d_MD_finish_4 : decode M_MD_finish.2.1 4 = .ok (.istore_n 1, 1) := by decide +kernel
theorem d_MD_finish_5 : decode M_MD_finish.2.1 5 = .ok (.aload_n 0, 1) := by decide +kernel
theorem d_MD_finish_6 : decode M_MD_finish.2.1 6 = .ok (.iconst (0), 1) := by decide +kernel
theorem d_MD_finish_7 : decode M_MD_finish.2.1 7 = .ok (.putfield 69, 3) := by decide +kernel
theorem d_MD_finish_10 : decode M_MD_finish.2.1 10 = .ok (.iload_n 1, 1) := by decide +kernel
theorem d_MD_finish_11 : decode M_MD_finish.2.1 11 = .ok (.iconst (2), 1) := by decide +kernel
theorem d_MD_finish_12 : decode M_MD_finish.2.1 12 = .ok (.if_icmp .ne (10), 3) := by decide +kernel
theorem d_MD_finish_15 : decode M_MD_finish.2.1 15 = .ok (.aload_n 0, 1) := by decide +kernel
theorem d_MD_finish_16 : decode M_MD_finish.2.1 16 = .ok (.invokevirtual 168, 3) := by decide +kernel
theorem d_MD_finish_19 : decode M_MD_finish.2.1 19 = .ok (.goto (19), 3) := by decide +kernel
theorem d_MD_finish_22 : decode M_MD_finish.2.1 22 = .ok (.iload_n 1, 1) := by decide +kernel
theorem d_MD_finish_23 : decode M_MD_finish.2.1 23 = .ok (.iconst (3), 1) := by decide +kernel
theorem d_MD_finish_24 : decode M_MD_finish.2.1 24 = .ok (.if_icmp .ne (10), 3) := by decide +kernel
theorem d_MD_finish_27 : decode M_MD_finish.2.1 27 = .ok (.aload_n 0, 1) := by decide +kernel
theorem d_MD_finish_28 : decode M_MD_finish.2.1 28 = .ok (.invokevirtual 171, 3) := by decide +kernel
theorem d_MD_finish_31 : decode M_MD_finish.2.1 31 = .ok (.goto (7), 3) := by decide +kernel
theorem d_MD_finish_34 : decode M_MD_finish.2.1 34 = .ok (.aload_n 0, 1) := by decide +kernel
theorem d_MD_finish_35 : decode M_MD_finish.2.1 35 = .ok (.invokevirtual 174, 3) := by decide +kernel
theorem d_MD_finish_38 : decode M_MD_finish.2.1 38 = .ok (.return_, 1) := by decide +kernel
theorem d_MD_step_0 : decode M_MD_step.2.1 0 = .ok (.aload_n 0, 1) := by decide +kernel
theorem d_MD_step_1 : decode M_MD_step.2.1 1 = .ok (.getfield 69, 3) := by decide +kernel
theorem d_MD_step_4 : decode M_MD_step.2.1 4 = .ok (.ifCond .eq (14), 3) := by decide +kernel
theorem d_MD_step_7 : decode M_MD_step.2.1 7 = .ok (.iload_n 1, 1) := by decide +kernel
theorem d_MD_step_8 : decode M_MD_step.2.1 8 = .ok (.iconst (1), 1) := by decide +kernel
theorem d_MD_step_9 : decode M_MD_step.2.1 9 = .ok (.if_icmp .lt (9), 3) := by decide +kernel
theorem d_MD_step_12 : decode M_MD_step.2.1 12 = .ok (.iload_n 1, 1) := by decide +kernel
theorem d_MD_step_13 : decode M_MD_step.2.1 13 = .ok (.bipush (10), 2) := by decide +kernel
theorem d_MD_step_15 : decode M_MD_step.2.1 15 = .ok (.if_icmp .le (5), 3) := by decide +kernel
theorem d_MD_step_18 : decode M_MD_step.2.1 18 = .ok (.iconst (-1), 1) := by decide +kernel
theorem d_MD_step_19 : decode M_MD_step.2.1 19 = .ok (.ireturn, 1) := by decide +kernel
theorem d_MD_step_20 : decode M_MD_step.2.1 20 = .ok (.iconst (0), 1) := by decide +kernel
theorem d_MD_step_21 : decode M_MD_step.2.1 21 = .ok (.istore_n 2, 1) := by decide +kernel
theorem d_MD_step_22 : decode M_MD_step.2.1 22 = .ok (.iload_n 2, 1) := by decide +kernel
theorem d_MD_step_23 : decode M_MD_step.2.1 23 = .ok (.iload_n 1, 1) := by decide +kernel
theorem d_MD_step_24 : decode M_MD_step.2.1 24 = .ok (.if_icmp .ge (88), 3) := by decide +kernel
theorem d_MD_step_27 : decode M_MD_step.2.1 27 = .ok (.aload_n 0, 1) := by decide +kernel
theorem d_MD_step_28 : decode M_MD_step.2.1 28 = .ok (.getfield 69, 3) := by decide +kernel
theorem d_MD_step_31 : decode M_MD_step.2.1 31 = .ok (.ifCond .eq (81), 3) := by decide +kernel
theorem d_MD_step_34 : decode M_MD_step.2.1 34 = .ok (.aload_n 0, 1) := by decide +kernel
theorem d_MD_step_35 : decode M_MD_step.2.1 35 = .ok (.getfield 69, 3) := by decide +kernel
theorem d_MD_step_38 : decode M_MD_step.2.1 38 = .ok (.iconst (2), 1) := by decide +kernel
theorem d_MD_step_39 : decode M_MD_step.2.1 39 = .ok (.if_icmp .ne (14), 3) := by decide +kernel
theorem d_MD_step_42 : decode M_MD_step.2.1 42 = .ok (.aload_n 0, 1) := by decide +kernel
theorem d_MD_step_43 : decode M_MD_step.2.1 43 = .ok (.aload_n 0, 1) := by decide +kernel
theorem d_MD_step_44 : decode M_MD_step.2.1 44 = .ok (.getfield 113, 3) := by decide +kernel
theorem d_MD_step_47 : decode M_MD_step.2.1 47 = .ok (.invokevirtual 177, 3) := by decide +kernel
theorem d_MD_step_50 : decode M_MD_step.2.1 50 = .ok (.goto (30), 3) := by decide +kernel
theorem d_MD_step_53 : decode M_MD_step.2.1 53 = .ok (.aload_n 0, 1) := by decide +kernel
theorem d_MD_step_54 : decode M_MD_step.2.1 54 = .ok (.getfield 69, 3) := by decide +kernel
theorem d_MD_step_57 : decode M_MD_step.2.1 57 = .ok (.iconst (3), 1) := by decide +kernel
theorem d_MD_step_58 : decode M_MD_step.2.1 58 = .ok (.if_icmp .ne (14), 3) := by decide +kernel
theorem d_MD_step_61 : decode M_MD_step.2.1 61 = .ok (.aload_n 0, 1) := by decide +kernel
theorem d_MD_step_62 : decode M_MD_step.2.1 62 = .ok (.aload_n 0, 1) := by decide +kernel
theorem d_MD_step_63 : decode M_MD_step.2.1 63 = .ok (.getfield 113, 3) := by decide +kernel
theorem d_MD_step_66 : decode M_MD_step.2.1 66 = .ok (.invokevirtual 180, 3) := by decide +kernel
theorem d_MD_step_69 : decode M_MD_step.2.1 69 = .ok (.goto (11), 3) := by decide +kernel
theorem d_MD_step_72 : decode M_MD_step.2.1 72 = .ok (.aload_n 0, 1) := by decide +kernel
theorem d_MD_step_73 : decode M_MD_step.2.1 73 = .ok (.aload_n 0, 1) := by decide +kernel
theorem d_MD_step_74 : decode M_MD_step.2.1 74 = .ok (.getfield 113, 3) := by decide +kernel
theorem d_MD_step_77 : decode M_MD_step.2.1 77 = .ok (.invokevirtual 183, 3) := by decide +kernel
theorem d_MD_step_80 : decode M_MD_step.2.1 80 = .ok (.aload_n 0, 1) := by decide +kernel
theorem d_MD_step_81 : decode M_MD_step.2.1 81 = .ok (.aload_n 0, 1) := by decide +kernel
theorem d_MD_step_82 : decode M_MD_step.2.1 82 = .ok (.getfield 113, 3) := by decide +kernel
theorem d_MD_step_85 : decode M_MD_step.2.1 85 = .ok (.iconst (1), 1) := by decide +kernel
theorem d_MD_step_86 : decode M_MD_step.2.1 86 = .ok (.iadd, 1) := by decide +kernel
theorem d_MD_step_87 : decode M_MD_step.2.1 87 = .ok (.putfield 113, 3) := by decide +kernel
theorem d_MD_step_90 : decode M_MD_step.2.1 90 = .ok (.iload_n 2, 1) := by decide +kernel
theorem d_MD_step_91 : decode M_MD_step.2.1 91 = .ok (.iconst (1), 1) := by decide +kernel
theorem d_MD_step_92 : decode M_MD_step.2.1 92 = .ok (.iadd, 1) := by decide +kernel
theorem d_MD_step_93 : decode M_MD_step.2.1 93 = .ok (.istore_n 2, 1) := by decide +kernel
theorem d_MD_step_94 : decode M_MD_step.2.1 94 = .ok (.aload_n 0, 1) := by decide +kernel
theorem d_MD_step_95 : decode M_MD_step.2.1 95 = .ok (.getfield 113, 3) := by decide +kernel
theorem d_MD_step_98 : decode M_MD_step.2.1 98 = .ok (.aload_n 0, 1) := by decide +kernel
theorem d_MD_step_99 : decode M_MD_step.2.1 99 = .ok (.getfield 116, 3) := by decide +kernel
theorem d_MD_step_102 : decode M_MD_step.2.1 102 = .ok (.if_icmp .ne (-80), 3) := by decide +kernel
theorem d_MD_step_105 : decode M_MD_step.2.1 105 = .ok (.aload_n 0, 1) := by decide +kernel
theorem d_MD_step_106 : decode M_MD_step.2.1 106 = .ok (.invokevirtual 186, 3) := by decide +kernel
theorem d_MD_step_109 : decode M_MD_step.2.1 109 = .ok (.goto (-87), 3) := by decide +kernel
theorem d_MD_step_112 : decode M_MD_step.2.1 112 = .ok (.iload_n 2, 1) := by decide +kernel
theorem d_MD_step_113 : decode M_MD_step.2.1 113 = .ok (.ireturn, 1) := by decide +kernel
theorem d_MD_crash_0 : decode M_MD_crash.2.1 0 = .ok (.iconst (-1), 1) := by decide +kernel
theorem d_MD_crash_1 : decode M_MD_crash.2.1 1 = .ok (.istore_n 3, 1) := by decide +kernel
theorem d_MD_crash_2 : decode M_MD_crash.2.1 2 = .ok (.iconst (0), 1) := by decide +kernel
theorem d_MD_crash_3 : decode M_MD_crash.2.1 3 = .ok (.istore 4, 2) := by decide +kernel
theorem d_MD_crash_5 : decode M_MD_crash.2.1 5 = .ok (.iconst (0), 1) := by decide +kernel
theorem d_MD_crash_6 : decode M_MD_crash.2.1 6 = .ok (.istore 5, 2) := by decide +kernel
theorem d_MD_crash_8 : decode M_MD_crash.2.1 8 = .ok (.iload 5, 2) := by decide +kernel
theorem d_MD_crash_10 : decode M_MD_crash.2.1 10 = .ok (.aload_n 0, 1) := by decide +kernel
theorem d_MD_crash_11 : decode M_MD_crash.2.1 11 = .ok (.getfield 50, 3) := by decide +kernel
theorem d_MD_crash_14 : decode M_MD_crash.2.1 14 = .ok (.if_icmp .ge (54), 3) := by decide +kernel
theorem d_MD_crash_17 : decode M_MD_crash.2.1 17 = .ok (.iload_n 1, 1) := by decide +kernel
theorem d_MD_crash_18 : decode M_MD_crash.2.1 18 = .ok (.iload 5, 2) := by decide +kernel
theorem d_MD_crash_20 : decode M_MD_crash.2.1 20 = .ok (.ishr, 1) := by decide +kernel
theorem d_MD_crash_21 : decode M_MD_crash.2.1 21 = .ok (.iconst (1), 1) := by decide +kernel
theorem d_MD_crash_22 : decode M_MD_crash.2.1 22 = .ok (.iand, 1) := by decide +kernel
theorem d_MD_crash_23 : decode M_MD_crash.2.1 23 = .ok (.iconst (1), 1) := by decide +kernel
theorem d_MD_crash_24 : decode M_MD_crash.2.1 24 = .ok (.if_icmp .ne (7), 3) := by decide +kernel
theorem d_MD_crash_27 : decode M_MD_crash.2.1 27 = .ok (.iconst (1), 1) := by decide +kernel
theorem d_MD_crash_28 : decode M_MD_crash.2.1 28 = .ok (.goto (4), 3) := by decide +kernel
theorem d_MD_crash_31 : decode M_MD_crash.2.1 31 = .ok (.iconst (0), 1) := by decide +kernel
theorem d_MD_crash_32 : decode M_MD_crash.2.1 32 = .ok (.istore 6, 2) := by decide +kernel
theorem d_MD_crash_34 : decode M_MD_crash.2.1 34 = .ok (.iload 6, 2) := by decide +kernel
theorem d_MD_crash_36 : decode M_MD_crash.2.1 36 = .ok (.ifCond .eq (8), 3) := by decide +kernel
theorem d_MD_crash_39 : decode M_MD_crash.2.1 39 = .ok (.iload 5, 2) := by decide +kernel
theorem d_MD_crash_41 : decode M_MD_crash.2.1 41 = .ok (.goto (4), 3) := by decide +kernel
theorem d_MD_crash_44 : decode M_MD_crash.2.1 44 = .ok (.iload_n 3, 1) := by decide +kernel
theorem d_MD_crash_45 : decode M_MD_crash.2.1 45 = .ok (.istore_n 3, 1) := by decide +kernel
theorem d_MD_crash_46 : decode M_MD_crash.2.1 46 = .ok (.iload 6, 2) := by decide +kernel
theorem d_MD_crash_48 : decode M_MD_crash.2.1 48 = .ok (.ifCond .eq (8), 3) := by decide +kernel
theorem d_MD_crash_51 : decode M_MD_crash.2.1 51 = .ok (.iload 4, 2) := by decide +kernel
theorem d_MD_crash_53 : decode M_MD_crash.2.1 53 = .ok (.goto (7), 3) := by decide +kernel
theorem d_MD_crash_56 : decode M_MD_crash.2.1 56 = .ok (.iload 4, 2) := by decide +kernel
theorem d_MD_crash_58 : decode M_MD_crash.2.1 58 = .ok (.iconst (1), 1) := by decide +kernel
theorem d_MD_crash_59 : decode M_MD_crash.2.1 59 = .ok (.iadd, 1) := by decide +kernel
theorem d_MD_crash_60 : decode M_MD_crash.2.1 60 = .ok (.istore 4, 2) := by decide +kernel
theorem d_MD_crash_62 : decode M_MD_crash.2.1 62 = .ok (.iinc 5 (1), 3) := by decide +kernel
theorem d_MD_crash_65 : decode M_MD_crash.2.1 65 = .ok (.goto (-57), 3) := by decide +kernel
theorem d_MD_crash_68 : decode M_MD_crash.2.1 68 = .ok (.iconst (0), 1) := by decide +kernel
theorem d_MD_crash_69 : decode M_MD_crash.2.1 69 = .ok (.istore 5, 2) := by decide +kernel
theorem d_MD_crash_71 : decode M_MD_crash.2.1 71 = .ok (.iload 5, 2) := by decide +kernel
theorem d_MD_crash_73 : decode M_MD_crash.2.1 73 = .ok (.aload_n 0, 1) := by decide +kernel
theorem d_MD_crash_74 : decode M_MD_crash.2.1 74 = .ok (.getfield 50, 3) := by decide +kernel
theorem d_MD_crash_77 : decode M_MD_crash.2.1 77 = .ok (.if_icmp .ge (45), 3) := by decide +kernel
theorem d_MD_crash_80 : decode M_MD_crash.2.1 80 = .ok (.iload_n 1, 1) := by decide +kernel
theorem d_MD_crash_81 : decode M_MD_crash.2.1 81 = .ok (.iload 5, 2) := by decide +kernel
theorem d_MD_crash_83 : decode M_MD_crash.2.1 83 = .ok (.ishr, 1) := by decide +kernel
theorem d_MD_crash_84 : decode M_MD_crash.2.1 84 = .ok (.iconst (1), 1) := by decide +kernel
theorem d_MD_crash_85 : decode M_MD_crash.2.1 85 = .ok (.iand, 1) := by decide +kernel
theorem d_MD_crash_86 : decode M_MD_crash.2.1 86 = .ok (.iconst (1), 1) := by decide +kernel
theorem d_MD_crash_87 : decode M_MD_crash.2.1 87 = .ok (.if_icmp .ne (29), 3) := by decide +kernel
theorem d_MD_crash_90 : decode M_MD_crash.2.1 90 = .ok (.aload_n 0, 1) := by decide +kernel
theorem d_MD_crash_91 : decode M_MD_crash.2.1 91 = .ok (.iload 5, 2) := by decide +kernel
theorem d_MD_crash_93 : decode M_MD_crash.2.1 93 = .ok (.iload 5, 2) := by decide +kernel
theorem d_MD_crash_95 : decode M_MD_crash.2.1 95 = .ok (.iload_n 3, 1) := by decide +kernel
theorem d_MD_crash_96 : decode M_MD_crash.2.1 96 = .ok (.if_icmp .ne (16), 3) := by decide +kernel
theorem d_MD_crash_99 : decode M_MD_crash.2.1 99 = .ok (.iload_n 2, 1) := by decide +kernel
theorem d_MD_crash_100 : decode M_MD_crash.2.1 100 = .ok (.ifCond .lt (12), 3) := by decide +kernel
theorem d_MD_crash_103 : decode M_MD_crash.2.1 103 = .ok (.iload_n 2, 1) := by decide +kernel
theorem d_MD_crash_104 : decode M_MD_crash.2.1 104 = .ok (.iconst (3), 1) := by decide +kernel
theorem d_MD_crash_105 : decode M_MD_crash.2.1 105 = .ok (.if_icmp .gt (7), 3) := by decide +kernel
theorem d_MD_crash_108 : decode M_MD_crash.2.1 108 = .ok (.iload_n 2, 1) := by decide +kernel
theorem d_MD_crash_109 : decode M_MD_crash.2.1 109 = .ok (.goto (4), 3) := by decide +kernel
theorem d_MD_crash_112 : decode M_MD_crash.2.1 112 = .ok (.iconst (4), 1) := by decide +kernel
theorem d_MD_crash_113 : decode M_MD_crash.2.1 113 = .ok (.invokevirtual 53, 3) := by decide +kernel
theorem d_MD_crash_116 : decode M_MD_crash.2.1 116 = .ok (.iinc 5 (1), 3) := by decide +kernel
theorem d_MD_crash_119 : decode M_MD_crash.2.1 119 = .ok (.goto (-48), 3) := by decide +kernel
theorem d_MD_crash_122 : decode M_MD_crash.2.1 122 = .ok (.aload_n 0, 1) := by decide +kernel
theorem d_MD_crash_123 : decode M_MD_crash.2.1 123 = .ok (.iconst (0), 1) := by decide +kernel
theorem d_MD_crash_124 : decode M_MD_crash.2.1 124 = .ok (.putfield 50, 3) := by decide +kernel
theorem d_MD_crash_127 : decode M_MD_crash.2.1 127 = .ok (.aload_n 0, 1) := by decide +kernel
theorem d_MD_crash_128 : decode M_MD_crash.2.1 128 = .ok (.iconst (0), 1) := by decide +kernel
theorem d_MD_crash_129 : decode M_MD_crash.2.1 129 = .ok (.putfield 19, 3) := by decide +kernel
theorem d_MD_crash_132 : decode M_MD_crash.2.1 132 = .ok (.aload_n 0, 1) := by decide +kernel
theorem d_MD_crash_133 : decode M_MD_crash.2.1 133 = .ok (.iconst (0), 1) := by decide +kernel
theorem d_MD_crash_134 : decode M_MD_crash.2.1 134 = .ok (.putfield 69, 3) := by decide +kernel
theorem d_MD_crash_137 : decode M_MD_crash.2.1 137 = .ok (.iload 4, 2) := by decide +kernel
theorem d_MD_crash_139 : decode M_MD_crash.2.1 139 = .ok (.ireturn, 1) := by decide +kernel
theorem d_MD_state_0 : decode M_MD_state.2.1 0 = .ok (.aload_n 0, 1) := by decide +kernel
theorem d_MD_state_1 : decode M_MD_state.2.1 1 = .ok (.getfield 69, 3) := by decide +kernel
theorem d_MD_state_4 : decode M_MD_state.2.1 4 = .ok (.ifCond .eq (10), 3) := by decide +kernel
theorem d_MD_state_7 : decode M_MD_state.2.1 7 = .ok (.aload_n 0, 1) := by decide +kernel
theorem d_MD_state_8 : decode M_MD_state.2.1 8 = .ok (.getfield 69, 3) := by decide +kernel
theorem d_MD_state_11 : decode M_MD_state.2.1 11 = .ok (.goto (15), 3) := by decide +kernel
theorem d_MD_state_14 : decode M_MD_state.2.1 14 = .ok (.aload_n 0, 1) := by decide +kernel
theorem d_MD_state_15 : decode M_MD_state.2.1 15 = .ok (.getfield 19, 3) := by decide +kernel
theorem d_MD_state_18 : decode M_MD_state.2.1 18 = .ok (.ifCond .eq (7), 3) := by decide +kernel
theorem d_MD_state_21 : decode M_MD_state.2.1 21 = .ok (.iconst (1), 1) := by decide +kernel
theorem d_MD_state_22 : decode M_MD_state.2.1 22 = .ok (.goto (4), 3) := by decide +kernel
theorem d_MD_state_25 : decode M_MD_state.2.1 25 = .ok (.iconst (0), 1) := by decide +kernel
theorem d_MD_state_26 : decode M_MD_state.2.1 26 = .ok (.ireturn, 1) := by decide +kernel
theorem d_MD_number_0 : decode M_MD_number.2.1 0 = .ok (.aload_n 0, 1) := by decide +kernel
theorem d_MD_number_1 : decode M_MD_number.2.1 1 = .ok (.getfield 19, 3) := by decide +kernel
theorem d_MD_number_4 : decode M_MD_number.2.1 4 = .ok (.ifCond .eq (10), 3) := by decide +kernel
theorem d_MD_number_7 : decode M_MD_number.2.1 7 = .ok (.aload_n 0, 1) := by decide +kernel
theorem d_MD_number_8 : decode M_MD_number.2.1 8 = .ok (.getfield 23, 3) := by decide +kernel
theorem d_MD_number_11 : decode M_MD_number.2.1 11 = .ok (.goto (4), 3) := by decide +kernel
theorem d_MD_number_14 : decode M_MD_number.2.1 14 = .ok (.iconst (-1), 1) := by decide +kernel
theorem d_MD_number_15 : decode M_MD_number.2.1 15 = .ok (.ireturn, 1) := by decide +kernel
theorem d_MD_used_0 : decode M_MD_used.2.1 0 = .ok (.aload_n 0, 1) := by decide +kernel
theorem d_MD_used_1 : decode M_MD_used.2.1 1 = .ok (.getfield 19, 3) := by decide +kernel
theorem d_MD_used_4 : decode M_MD_used.2.1 4 = .ok (.ifCond .eq (10), 3) := by decide +kernel
theorem d_MD_used_7 : decode M_MD_used.2.1 7 = .ok (.aload_n 0, 1) := by decide +kernel
theorem d_MD_used_8 : decode M_MD_used.2.1 8 = .ok (.getfield 110, 3) := by decide +kernel
theorem d_MD_used_11 : decode M_MD_used.2.1 11 = .ok (.goto (4), 3) := by decide +kernel
theorem d_MD_used_14 : decode M_MD_used.2.1 14 = .ok (.iconst (-1), 1) := by decide +kernel
theorem d_MD_used_15 : decode M_MD_used.2.1 15 = .ok (.ireturn, 1) := by decide +kernel
theorem d_MD_left_0 : decode M_MD_left.2.1 0 = .ok (.aload_n 0, 1) := by decide +kernel
theorem d_MD_left_1 : decode M_MD_left.2.1 1 = .ok (.getfield 69, 3) := by decide +kernel
theorem d_MD_left_4 : decode M_MD_left.2.1 4 = .ok (.ifCond .ne (7), 3) := by decide +kernel
theorem d_MD_left_7 : decode M_MD_left.2.1 7 = .ok (.iconst (0), 1) := by decide +kernel
theorem d_MD_left_8 : decode M_MD_left.2.1 8 = .ok (.goto (12), 3) := by decide +kernel
theorem d_MD_left_11 : decode M_MD_left.2.1 11 = .ok (.aload_n 0, 1) := by decide +kernel
theorem d_MD_left_12 : decode M_MD_left.2.1 12 = .ok (.getfield 116, 3) := by decide +kernel
theorem d_MD_left_15 : decode M_MD_left.2.1 15 = .ok (.aload_n 0, 1) := by decide +kernel
theorem d_MD_left_16 : decode M_MD_left.2.1 16 = .ok (.getfield 113, 3) := by decide +kernel
theorem d_MD_left_19 : decode M_MD_left.2.1 19 = .ok (.isub, 1) := by decide +kernel
theorem d_MD_left_20 : decode M_MD_left.2.1 20 = .ok (.ireturn, 1) := by decide +kernel
