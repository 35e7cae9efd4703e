theorem d_RS_finishCommit_95 : decode M_RS_finishCommit.2.1 95 = .ok (.iinc 1 (1), 3) := by decide +kernel
theorem d_RS_finishCommit_98 : decode M_RS_finishCommit.2.1 98 = .ok (.goto (-51), 3) := by decide +kernel
theorem d_RS_finishCommit_101 : decode M_RS_finishCommit.2.1 101 = .ok (.aload_n 0, 1) := by decide +kernel
theorem d_RS_finishCommit_102 : decode M_RS_finishCommit.2.1 102 = .ok (.getfield 19, 3) := by decide +kernel
theorem d_RS_finishCommit_105 : decode M_RS_finishCommit.2.1 105 = .ok (.invokevirtual 203, 3) := by decide +kernel
theorem d_RS_finishCommit_108 : decode M_RS_finishCommit.2.1 108 = .ok (.aload_n 0, 1) := by decide +kernel
theorem d_RS_finishCommit_109 : decode M_RS_finishCommit.2.1 109 = .ok (.iconst (0), 1) := by decide +kernel
theorem d_RS_finishCommit_110 : decode M_RS_finishCommit.2.1 110 = .ok (.putfield 81, 3) := by decide +kernel
theorem d_RS_finishCommit_113 : decode M_RS_finishCommit.2.1 113 = .ok (.return_, 1) := by decide +kernel
theorem d_RS_comeUp_0 : decode M_RS_comeUp.2.1 0 = .ok (.aload_n 0, 1) := by decide +kernel
theorem d_RS_comeUp_1 : decode M_RS_comeUp.2.1 1 = .ok (.iconst (1), 1) := by decide +kernel
theorem d_RS_comeUp_2 : decode M_RS_comeUp.2.1 2 = .ok (.putfield 127, 3) := by decide +kernel
theorem d_RS_comeUp_5 : decode M_RS_comeUp.2.1 5 = .ok (.aload_n 0, 1) := by decide +kernel
theorem d_RS_comeUp_6 : decode M_RS_comeUp.2.1 6 = .ok (.iload_n 1, 1) := by decide +kernel
theorem d_RS_comeUp_7 : decode M_RS_comeUp.2.1 7 = .ok (.putfield 91, 3) := by decide +kernel
theorem d_RS_comeUp_10 : decode M_RS_comeUp.2.1 10 = .ok (.aload_n 0, 1) := by decide +kernel
theorem d_RS_comeUp_11 : decode M_RS_comeUp.2.1 11 = .ok (.iload_n 2, 1) := by decide +kernel
theorem d_RS_comeUp_12 : decode M_RS_comeUp.2.1 12 = .ok (.putfield 121, 3) := by decide +kernel
theorem d_RS_comeUp_15 : decode M_RS_comeUp.2.1 15 = .ok (.aload_n 0, 1) := by decide +kernel
theorem d_RS_comeUp_16 : decode M_RS_comeUp.2.1 16 = .ok (.iconst (0), 1) := by decide +kernel
theorem d_RS_comeUp_17 : decode M_RS_comeUp.2.1 17 = .ok (.putfield 98, 3) := by decide +kernel
theorem d_RS_comeUp_20 : decode M_RS_comeUp.2.1 20 = .ok (.aload_n 0, 1) := by decide +kernel
theorem d_RS_comeUp_21 : decode M_RS_comeUp.2.1 21 = .ok (.getfield 19, 3) := by decide +kernel
theorem d_RS_comeUp_24 : decode M_RS_comeUp.2.1 24 = .ok (.invokevirtual 203, 3) := by decide +kernel
theorem d_RS_comeUp_27 : decode M_RS_comeUp.2.1 27 = .ok (.aload_n 0, 1) := by decide +kernel
theorem d_RS_comeUp_28 : decode M_RS_comeUp.2.1 28 = .ok (.iconst (0), 1) := by decide +kernel
theorem d_RS_comeUp_29 : decode M_RS_comeUp.2.1 29 = .ok (.putfield 81, 3) := by decide +kernel
theorem d_RS_comeUp_32 : decode M_RS_comeUp.2.1 32 = .ok (.aload_n 0, 1) := by decide +kernel
theorem d_RS_comeUp_33 : decode M_RS_comeUp.2.1 33 = .ok (.getfield 23, 3) := by decide +kernel
theorem d_RS_comeUp_36 : decode M_RS_comeUp.2.1 36 = .ok (.invokevirtual 203, 3) := by decide +kernel
theorem d_RS_comeUp_39 : decode M_RS_comeUp.2.1 39 = .ok (.return_, 1) := by decide +kernel
