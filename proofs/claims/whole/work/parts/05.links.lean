/-! numbers, fields, calls -/
theorem c_bipush_10 : (Int8.ofInt (10)).toInt32 = nI 10 := by decide +kernel
theorem c_bipush_12 : (Int8.ofInt (12)).toInt32 = nI 12 := by decide +kernel
theorem c_bipush_15 : (Int8.ofInt (15)).toInt32 = nI 15 := by decide +kernel
theorem c_bipush_16 : (Int8.ofInt (16)).toInt32 = nI 16 := by decide +kernel
theorem c_bipush_17 : (Int8.ofInt (17)).toInt32 = nI 17 := by decide +kernel
theorem c_bipush_23 : (Int8.ofInt (23)).toInt32 = nI 23 := by decide +kernel
theorem c_bipush_24 : (Int8.ofInt (24)).toInt32 = nI 24 := by decide +kernel
theorem c_bipush_27 : (Int8.ofInt (27)).toInt32 = nI 27 := by decide +kernel
theorem c_bipush_28 : (Int8.ofInt (28)).toInt32 = nI 28 := by decide +kernel
theorem c_bipush_40 : (Int8.ofInt (40)).toInt32 = nI 40 := by decide +kernel
theorem c_bipush_41 : (Int8.ofInt (41)).toInt32 = nI 41 := by decide +kernel
theorem c_bipush_7 : (Int8.ofInt (7)).toInt32 = nI 7 := by decide +kernel
theorem c_bipush_8 : (Int8.ofInt (8)).toInt32 = nI 8 := by decide +kernel
theorem c_bipush_m2 : (Int8.ofInt (-2)).toInt32 = (-2) := by decide +kernel
theorem c_iconst_0 : Int32.ofInt (0) = nI 0 := by decide +kernel
theorem c_iconst_1 : Int32.ofInt (1) = nI 1 := by decide +kernel
theorem c_iconst_2 : Int32.ofInt (2) = nI 2 := by decide +kernel
theorem c_iconst_3 : Int32.ofInt (3) = nI 3 := by decide +kernel
theorem c_iconst_4 : Int32.ofInt (4) = nI 4 := by decide +kernel
theorem c_iconst_5 : Int32.ofInt (5) = nI 5 := by decide +kernel
theorem c_iconst_m1 : Int32.ofInt (-1) = (-1) := by decide +kernel
theorem c_inc_1 (x : Int32) : x + Int32.ofInt (1) = x + nI 1 := by
  rw [show Int32.ofInt (1) = nI 1 by decide +kernel]
theorem c_inc_m1 (x : Int32) : x + Int32.ofInt (-1) = x - nI 1 := by
  rw [show Int32.ofInt (-1) = - nI 1 by decide +kernel]
  exact (Int32.sub_eq_add_neg x (nI 1)).symm
theorem c_lit_40503 : (40503 : Int32) = nI 40503 := by decide +kernel
theorem c_lit_77001 : (77001 : Int32) = nI 77001 := by decide +kernel
theorem ig_RS : ∀ w ∈ u_ws "RedoShelf" T_RS 11, w ∈ gW := fun w h => gW_in (i_RS w h) (by
  obtain ⟨k, hk, rfl⟩ := List.mem_map.mp h
  unfold u_lay
  split <;> rfl)
theorem ig_DV : ∀ w ∈ u_ws "RedoShelf$Device" T_DV 4, w ∈ gW := fun w h => gW_in (i_DV w h) (by
  obtain ⟨k, hk, rfl⟩ := List.mem_map.mp h
  unfold u_lay
  split <;> rfl)
theorem ig_IM : ∀ w ∈ u_ws "RedoShelf$Images" T_IM 3, w ∈ gW := fun w h => gW_in (i_IM w h) (by
  obtain ⟨k, hk, rfl⟩ := List.mem_map.mp h
  unfold u_lay
  split <;> rfl)
theorem ig_RW : ∀ w ∈ u_ws "RedoShelf$Row" T_RW 4, w ∈ gW := fun w h => gW_in (i_RW w h) (by
  obtain ⟨k, hk, rfl⟩ := List.mem_map.mp h
  unfold u_lay
  split <;> rfl)
theorem ig_LR : ∀ w ∈ u_ws "RedoShelf$LogReader" T_LR 13, w ∈ gW := fun w h => gW_in (i_LR w h) (by
  obtain ⟨k, hk, rfl⟩ := List.mem_map.mp h
  unfold u_lay
  split <;> rfl)
theorem ig_JB : ∀ w ∈ u_ws "RedoShelf$Job" T_JB 5, w ∈ gW := fun w h => gW_in (i_JB w h) (by
  obtain ⟨k, hk, rfl⟩ := List.mem_map.mp h
  unfold u_lay
  split <;> rfl)
theorem ig_MD : ∀ w ∈ u_ws "RedoShelfModel" T_MD 23, w ∈ gW := fun w h => gW_in (i_MD w h) (by
  obtain ⟨k, hk, rfl⟩ := List.mem_map.mp h
  unfold u_lay
  split <;> rfl)
theorem fl_DV_15 : FL "RedoShelf$Device" 15 1 1 (.array .int) := ⟨"RedoShelf$Device", T_DV, 4, t_DV, rfl, by decide, ig_DV, rfl, by decide +kernel, t_DV_ok, n_DV, Or.inl gw_1_27⟩
theorem fl_DV_18 : FL "RedoShelf$Device" 18 1 2 (.array .int) := ⟨"RedoShelf$Device", T_DV, 4, t_DV, rfl, by decide, ig_DV, rfl, by decide +kernel, t_DV_ok, n_DV, Or.inl gw_1_28⟩
theorem fl_DV_21 : FL "RedoShelf$Device" 21 1 3 .int := ⟨"RedoShelf$Device", T_DV, 4, t_DV, rfl, by decide, ig_DV, rfl, by decide +kernel, t_DV_ok, n_DV, Or.inl gw_1_29⟩
theorem fl_DV_9 : FL "RedoShelf$Device" 9 1 0 (.array .int) := ⟨"RedoShelf$Device", T_DV, 4, t_DV, rfl, by decide, ig_DV, rfl, by decide +kernel, t_DV_ok, n_DV, Or.inl gw_1_26⟩
theorem fl_IM_15 : FL "RedoShelf$Images" 15 2 1 (.array .int) := ⟨"RedoShelf$Images", T_IM, 3, t_IM, rfl, by decide, ig_IM, rfl, by decide +kernel, t_IM_ok, n_IM, Or.inl gw_1_47⟩
theorem fl_IM_19 : FL "RedoShelf$Images" 19 2 2 .int := ⟨"RedoShelf$Images", T_IM, 3, t_IM, rfl, by decide, ig_IM, rfl, by decide +kernel, t_IM_ok, n_IM, Or.inl gw_1_48⟩
theorem fl_IM_9 : FL "RedoShelf$Images" 9 2 0 (.array .boolean) := ⟨"RedoShelf$Images", T_IM, 3, t_IM, rfl, by decide, ig_IM, rfl, by decide +kernel, t_IM_ok, n_IM, Or.inl gw_1_46⟩
theorem fl_JB_11 : FL "RedoShelf$Job" 11 5 0 (.array .int) := ⟨"RedoShelf$Job", T_JB, 5, t_JB, rfl, by decide, ig_JB, rfl, by decide +kernel, t_JB_ok, n_JB, Or.inl gw_1_128⟩
theorem fl_JB_15 : FL "RedoShelf$Job" 15 5 1 (.array .int) := ⟨"RedoShelf$Job", T_JB, 5, t_JB, rfl, by decide, ig_JB, rfl, by decide +kernel, t_JB_ok, n_JB, Or.inl gw_1_129⟩
theorem fl_JB_18 : FL "RedoShelf$Job" 18 5 2 .int := ⟨"RedoShelf$Job", T_JB, 5, t_JB, rfl, by decide, ig_JB, rfl, by decide +kernel, t_JB_ok, n_JB, Or.inl gw_1_130⟩
theorem fl_JB_22 : FL "RedoShelf$Job" 22 5 3 .int := ⟨"RedoShelf$Job", T_JB, 5, t_JB, rfl, by decide, ig_JB, rfl, by decide +kernel, t_JB_ok, n_JB, Or.inl gw_1_131⟩
theorem fl_JB_25 : FL "RedoShelf$Job" 25 5 4 .int := ⟨"RedoShelf$Job", T_JB, 5, t_JB, rfl, by decide, ig_JB, rfl, by decide +kernel, t_JB_ok, n_JB, Or.inl gw_1_132⟩
theorem fl_LR_15 : FL "RedoShelf$LogReader" 15 4 1 (.array .int) := ⟨"RedoShelf$LogReader", T_LR, 13, t_LR, rfl, by decide, ig_LR, rfl, by decide +kernel, t_LR_ok, n_LR, Or.inl gw_1_83⟩
theorem fl_LR_18 : FL "RedoShelf$LogReader" 18 4 2 (.array .int) := ⟨"RedoShelf$LogReader", T_LR, 13, t_LR, rfl, by decide, ig_LR, rfl, by decide +kernel, t_LR_ok, n_LR, Or.inl gw_1_84⟩
theorem fl_LR_21 : FL "RedoShelf$LogReader" 21 4 3 (.array .boolean) := ⟨"RedoShelf$LogReader", T_LR, 13, t_LR, rfl, by decide, ig_LR, rfl, by decide +kernel, t_LR_ok, n_LR, Or.inl gw_1_85⟩
theorem fl_LR_25 : FL "RedoShelf$LogReader" 25 4 4 (.array .int) := ⟨"RedoShelf$LogReader", T_LR, 13, t_LR, rfl, by decide, ig_LR, rfl, by decide +kernel, t_LR_ok, n_LR, Or.inl gw_1_86⟩
theorem fl_LR_28 : FL "RedoShelf$LogReader" 28 4 5 (.array .int) := ⟨"RedoShelf$LogReader", T_LR, 13, t_LR, rfl, by decide, ig_LR, rfl, by decide +kernel, t_LR_ok, n_LR, Or.inl gw_1_87⟩
theorem fl_LR_31 : FL "RedoShelf$LogReader" 31 4 6 .int := ⟨"RedoShelf$LogReader", T_LR, 13, t_LR, rfl, by decide, ig_LR, rfl, by decide +kernel, t_LR_ok, n_LR, Or.inl gw_1_88⟩
theorem fl_LR_35 : FL "RedoShelf$LogReader" 35 4 7 .int := ⟨"RedoShelf$LogReader", T_LR, 13, t_LR, rfl, by decide, ig_LR, rfl, by decide +kernel, t_LR_ok, n_LR, Or.inl gw_1_89⟩
theorem fl_LR_38 : FL "RedoShelf$LogReader" 38 4 8 .int := ⟨"RedoShelf$LogReader", T_LR, 13, t_LR, rfl, by decide, ig_LR, rfl, by decide +kernel, t_LR_ok, n_LR, Or.inl gw_1_90⟩
theorem fl_LR_41 : FL "RedoShelf$LogReader" 41 4 9 .int := ⟨"RedoShelf$LogReader", T_LR, 13, t_LR, rfl, by decide, ig_LR, rfl, by decide +kernel, t_LR_ok, n_LR, Or.inl gw_1_91⟩
theorem fl_LR_44 : FL "RedoShelf$LogReader" 44 4 10 .int := ⟨"RedoShelf$LogReader", T_LR, 13, t_LR, rfl, by decide, ig_LR, rfl, by decide +kernel, t_LR_ok, n_LR, Or.inl gw_1_92⟩
theorem fl_LR_47 : FL "RedoShelf$LogReader" 47 4 11 .int := ⟨"RedoShelf$LogReader", T_LR, 13, t_LR, rfl, by decide, ig_LR, rfl, by decide +kernel, t_LR_ok, n_LR, Or.inl gw_1_93⟩
theorem fl_LR_50 : FL "RedoShelf$LogReader" 50 4 12 .int := ⟨"RedoShelf$LogReader", T_LR, 13, t_LR, rfl, by decide, ig_LR, rfl, by decide +kernel, t_LR_ok, n_LR, Or.inl gw_1_94⟩
theorem fl_LR_9 : FL "RedoShelf$LogReader" 9 4 0 (.array .int) := ⟨"RedoShelf$LogReader", T_LR, 13, t_LR, rfl, by decide, ig_LR, rfl, by decide +kernel, t_LR_ok, n_LR, Or.inl gw_1_82⟩
theorem fl_MD_110 : FL "RedoShelfModel" 110 6 7 .int := ⟨"RedoShelfModel", T_MD, 23, t_MD, rfl, by decide, ig_MD, rfl, by decide +kernel, t_MD_ok, n_MD, Or.inl gw_3_37⟩
theorem fl_MD_113 : FL "RedoShelfModel" 113 6 13 .int := ⟨"RedoShelfModel", T_MD, 23, t_MD, rfl, by decide, ig_MD, rfl, by decide +kernel, t_MD_ok, n_MD, Or.inl gw_3_43⟩
theorem fl_MD_116 : FL "RedoShelfModel" 116 6 14 .int := ⟨"RedoShelfModel", T_MD, 23, t_MD, rfl, by decide, ig_MD, rfl, by decide +kernel, t_MD_ok, n_MD, Or.inl gw_3_44⟩
theorem fl_MD_119 : FL "RedoShelfModel" 119 6 6 .int := ⟨"RedoShelfModel", T_MD, 23, t_MD, rfl, by decide, ig_MD, rfl, by decide +kernel, t_MD_ok, n_MD, Or.inl gw_3_36⟩
theorem fl_MD_13 : FL "RedoShelfModel" 13 6 2 (.array .int) := ⟨"RedoShelfModel", T_MD, 23, t_MD, rfl, by decide, ig_MD, rfl, by decide +kernel, t_MD_ok, n_MD, Or.inl gw_3_32⟩
theorem fl_MD_131 : FL "RedoShelfModel" 131 6 16 .int := ⟨"RedoShelfModel", T_MD, 23, t_MD, rfl, by decide, ig_MD, rfl, by decide +kernel, t_MD_ok, n_MD, Or.inl gw_3_46⟩
theorem fl_MD_134 : FL "RedoShelfModel" 134 6 17 .int := ⟨"RedoShelfModel", T_MD, 23, t_MD, rfl, by decide, ig_MD, rfl, by decide +kernel, t_MD_ok, n_MD, Or.inl gw_3_47⟩
theorem fl_MD_143 : FL "RedoShelfModel" 143 6 18 .int := ⟨"RedoShelfModel", T_MD, 23, t_MD, rfl, by decide, ig_MD, rfl, by decide +kernel, t_MD_ok, n_MD, Or.inl gw_3_48⟩
theorem fl_MD_149 : FL "RedoShelfModel" 149 6 20 .int := ⟨"RedoShelfModel", T_MD, 23, t_MD, rfl, by decide, ig_MD, rfl, by decide +kernel, t_MD_ok, n_MD, Or.inl gw_3_50⟩
theorem fl_MD_152 : FL "RedoShelfModel" 152 6 19 .int := ⟨"RedoShelfModel", T_MD, 23, t_MD, rfl, by decide, ig_MD, rfl, by decide +kernel, t_MD_ok, n_MD, Or.inl gw_3_49⟩
theorem fl_MD_16 : FL "RedoShelfModel" 16 6 3 (.array .int) := ⟨"RedoShelfModel", T_MD, 23, t_MD, rfl, by decide, ig_MD, rfl, by decide +kernel, t_MD_ok, n_MD, Or.inl gw_3_33⟩
theorem fl_MD_19 : FL "RedoShelfModel" 19 6 4 .boolean := ⟨"RedoShelfModel", T_MD, 23, t_MD, rfl, by decide, ig_MD, rfl, by decide +kernel, t_MD_ok, n_MD, Or.inl gw_3_34⟩
theorem fl_MD_23 : FL "RedoShelfModel" 23 6 5 .int := ⟨"RedoShelfModel", T_MD, 23, t_MD, rfl, by decide, ig_MD, rfl, by decide +kernel, t_MD_ok, n_MD, Or.inl gw_3_35⟩
theorem fl_MD_27 : FL "RedoShelfModel" 27 6 8 (.array .int) := ⟨"RedoShelfModel", T_MD, 23, t_MD, rfl, by decide, ig_MD, rfl, by decide +kernel, t_MD_ok, n_MD, Or.inl gw_3_38⟩
theorem fl_MD_30 : FL "RedoShelfModel" 30 6 9 (.array .int) := ⟨"RedoShelfModel", T_MD, 23, t_MD, rfl, by decide, ig_MD, rfl, by decide +kernel, t_MD_ok, n_MD, Or.inl gw_3_39⟩
theorem fl_MD_33 : FL "RedoShelfModel" 33 6 10 (.array .boolean) := ⟨"RedoShelfModel", T_MD, 23, t_MD, rfl, by decide, ig_MD, rfl, by decide +kernel, t_MD_ok, n_MD, Or.inl gw_3_40⟩
theorem fl_MD_37 : FL "RedoShelfModel" 37 6 11 (.array .int) := ⟨"RedoShelfModel", T_MD, 23, t_MD, rfl, by decide, ig_MD, rfl, by decide +kernel, t_MD_ok, n_MD, Or.inl gw_3_41⟩
theorem fl_MD_40 : FL "RedoShelfModel" 40 6 15 (.array .int) := ⟨"RedoShelfModel", T_MD, 23, t_MD, rfl, by decide, ig_MD, rfl, by decide +kernel, t_MD_ok, n_MD, Or.inl gw_3_45⟩
theorem fl_MD_43 : FL "RedoShelfModel" 43 6 21 (.array .int) := ⟨"RedoShelfModel", T_MD, 23, t_MD, rfl, by decide, ig_MD, rfl, by decide +kernel, t_MD_ok, n_MD, Or.inl gw_3_51⟩
theorem fl_MD_46 : FL "RedoShelfModel" 46 6 22 (.array .boolean) := ⟨"RedoShelfModel", T_MD, 23, t_MD, rfl, by decide, ig_MD, rfl, by decide +kernel, t_MD_ok, n_MD, Or.inl gw_3_52⟩
theorem fl_MD_50 : FL "RedoShelfModel" 50 6 1 .int := ⟨"RedoShelfModel", T_MD, 23, t_MD, rfl, by decide, ig_MD, rfl, by decide +kernel, t_MD_ok, n_MD, Or.inl gw_3_31⟩
theorem fl_MD_69 : FL "RedoShelfModel" 69 6 12 .int := ⟨"RedoShelfModel", T_MD, 23, t_MD, rfl, by decide, ig_MD, rfl, by decide +kernel, t_MD_ok, n_MD, Or.inl gw_3_42⟩
theorem fl_MD_7 : FL "RedoShelfModel" 7 6 0 (.array .int) := ⟨"RedoShelfModel", T_MD, 23, t_MD, rfl, by decide, ig_MD, rfl, by decide +kernel, t_MD_ok, n_MD, Or.inl gw_3_30⟩
theorem fl_RS_12 : FL "RedoShelf" 12 0 0 (.object "RedoShelf$Device") := ⟨"RedoShelf", T_RS, 11, t_RS, rfl, by decide, ig_RS, rfl, by decide +kernel, t_RS_ok, n_RS, Or.inl gw_1_152⟩
theorem fl_RS_121 : FL "RedoShelf" 121 0 9 .int := ⟨"RedoShelf", T_RS, 11, t_RS, rfl, by decide, ig_RS, rfl, by decide +kernel, t_RS_ok, n_RS, Or.inl gw_1_161⟩
theorem fl_RS_127 : FL "RedoShelf" 127 0 6 .boolean := ⟨"RedoShelf", T_RS, 11, t_RS, rfl, by decide, ig_RS, rfl, by decide +kernel, t_RS_ok, n_RS, Or.inl gw_1_158⟩
theorem fl_RS_19 : FL "RedoShelf" 19 0 1 (.object "RedoShelf$Images") := ⟨"RedoShelf", T_RS, 11, t_RS, rfl, by decide, ig_RS, rfl, by decide +kernel, t_RS_ok, n_RS, Or.inl gw_1_153⟩
theorem fl_RS_23 : FL "RedoShelf" 23 0 2 (.object "RedoShelf$Images") := ⟨"RedoShelf", T_RS, 11, t_RS, rfl, by decide, ig_RS, rfl, by decide +kernel, t_RS_ok, n_RS, Or.inl gw_1_154⟩
theorem fl_RS_29 : FL "RedoShelf" 29 0 3 (.object "RedoShelf$Row") := ⟨"RedoShelf", T_RS, 11, t_RS, rfl, by decide, ig_RS, rfl, by decide +kernel, t_RS_ok, n_RS, Or.inl gw_1_155⟩
theorem fl_RS_36 : FL "RedoShelf" 36 0 4 (.object "RedoShelf$LogReader") := ⟨"RedoShelf", T_RS, 11, t_RS, rfl, by decide, ig_RS, rfl, by decide +kernel, t_RS_ok, n_RS, Or.inl gw_1_156⟩
theorem fl_RS_43 : FL "RedoShelf" 43 0 5 (.object "RedoShelf$Job") := ⟨"RedoShelf", T_RS, 11, t_RS, rfl, by decide, ig_RS, rfl, by decide +kernel, t_RS_ok, n_RS, Or.inl gw_1_157⟩
theorem fl_RS_81 : FL "RedoShelf" 81 0 7 .int := ⟨"RedoShelf", T_RS, 11, t_RS, rfl, by decide, ig_RS, rfl, by decide +kernel, t_RS_ok, n_RS, Or.inl gw_1_159⟩
theorem fl_RS_91 : FL "RedoShelf" 91 0 8 .int := ⟨"RedoShelf", T_RS, 11, t_RS, rfl, by decide, ig_RS, rfl, by decide +kernel, t_RS_ok, n_RS, Or.inl gw_1_160⟩
theorem fl_RS_98 : FL "RedoShelf" 98 0 10 .int := ⟨"RedoShelf", T_RS, 11, t_RS, rfl, by decide, ig_RS, rfl, by decide +kernel, t_RS_ok, n_RS, Or.inl gw_1_162⟩
theorem fl_RW_11 : FL "RedoShelf$Row" 11 3 0 (.array .int) := ⟨"RedoShelf$Row", T_RW, 4, t_RW, rfl, by decide, ig_RW, rfl, by decide +kernel, t_RW_ok, n_RW, Or.inl gw_1_63⟩
theorem fl_RW_15 : FL "RedoShelf$Row" 15 3 1 (.array .int) := ⟨"RedoShelf$Row", T_RW, 4, t_RW, rfl, by decide, ig_RW, rfl, by decide +kernel, t_RW_ok, n_RW, Or.inl gw_1_64⟩
theorem fl_RW_18 : FL "RedoShelf$Row" 18 3 2 .int := ⟨"RedoShelf$Row", T_RW, 4, t_RW, rfl, by decide, ig_RW, rfl, by decide +kernel, t_RW_ok, n_RW, Or.inl gw_1_65⟩
theorem fl_RW_22 : FL "RedoShelf$Row" 22 3 3 .int := ⟨"RedoShelf$Row", T_RW, 4, t_RW, rfl, by decide, ig_RW, rfl, by decide +kernel, t_RW_ok, n_RW, Or.inl gw_1_66⟩
theorem fm_DV_21 : FM "RedoShelf$Device" 21 1 3 .int := ⟨fl_DV_21, fun q hq => by cases hq; rfl⟩
theorem fm_IM_19 : FM "RedoShelf$Images" 19 2 2 .int := ⟨fl_IM_19, fun q hq => by cases hq; rfl⟩
theorem fm_JB_18 : FM "RedoShelf$Job" 18 5 2 .int := ⟨fl_JB_18, fun q hq => by cases hq; rfl⟩
theorem fm_JB_22 : FM "RedoShelf$Job" 22 5 3 .int := ⟨fl_JB_22, fun q hq => by cases hq; rfl⟩
theorem fm_JB_25 : FM "RedoShelf$Job" 25 5 4 .int := ⟨fl_JB_25, fun q hq => by cases hq; rfl⟩
theorem fm_LR_31 : FM "RedoShelf$LogReader" 31 4 6 .int := ⟨fl_LR_31, fun q hq => by cases hq; rfl⟩
theorem fm_LR_35 : FM "RedoShelf$LogReader" 35 4 7 .int := ⟨fl_LR_35, fun q hq => by cases hq; rfl⟩
theorem fm_LR_38 : FM "RedoShelf$LogReader" 38 4 8 .int := ⟨fl_LR_38, fun q hq => by cases hq; rfl⟩
theorem fm_LR_41 : FM "RedoShelf$LogReader" 41 4 9 .int := ⟨fl_LR_41, fun q hq => by cases hq; rfl⟩
theorem fm_LR_44 : FM "RedoShelf$LogReader" 44 4 10 .int := ⟨fl_LR_44, fun q hq => by cases hq; rfl⟩
theorem fm_LR_47 : FM "RedoShelf$LogReader" 47 4 11 .int := ⟨fl_LR_47, fun q hq => by cases hq; rfl⟩
theorem fm_LR_50 : FM "RedoShelf$LogReader" 50 4 12 .int := ⟨fl_LR_50, fun q hq => by cases hq; rfl⟩
theorem fm_MD_110 : FM "RedoShelfModel" 110 6 7 .int := ⟨fl_MD_110, fun q hq => by cases hq; rfl⟩
theorem fm_MD_113 : FM "RedoShelfModel" 113 6 13 .int := ⟨fl_MD_113, fun q hq => by cases hq; rfl⟩
theorem fm_MD_116 : FM "RedoShelfModel" 116 6 14 .int := ⟨fl_MD_116, fun q hq => by cases hq; rfl⟩
theorem fm_MD_119 : FM "RedoShelfModel" 119 6 6 .int := ⟨fl_MD_119, fun q hq => by cases hq; rfl⟩
theorem fm_MD_131 : FM "RedoShelfModel" 131 6 16 .int := ⟨fl_MD_131, fun q hq => by cases hq; rfl⟩
theorem fm_MD_134 : FM "RedoShelfModel" 134 6 17 .int := ⟨fl_MD_134, fun q hq => by cases hq; rfl⟩
theorem fm_MD_143 : FM "RedoShelfModel" 143 6 18 .int := ⟨fl_MD_143, fun q hq => by cases hq; rfl⟩
theorem fm_MD_149 : FM "RedoShelfModel" 149 6 20 .int := ⟨fl_MD_149, fun q hq => by cases hq; rfl⟩
theorem fm_MD_152 : FM "RedoShelfModel" 152 6 19 .int := ⟨fl_MD_152, fun q hq => by cases hq; rfl⟩
theorem fm_MD_19 : FM "RedoShelfModel" 19 6 4 .boolean := ⟨fl_MD_19, fun q hq => by cases hq; rfl⟩
theorem fm_MD_23 : FM "RedoShelfModel" 23 6 5 .int := ⟨fl_MD_23, fun q hq => by cases hq; rfl⟩
theorem fm_MD_50 : FM "RedoShelfModel" 50 6 1 .int := ⟨fl_MD_50, fun q hq => by cases hq; rfl⟩
theorem fm_MD_69 : FM "RedoShelfModel" 69 6 12 .int := ⟨fl_MD_69, fun q hq => by cases hq; rfl⟩
theorem fm_RS_121 : FM "RedoShelf" 121 0 9 .int := ⟨fl_RS_121, fun q hq => by cases hq; rfl⟩
theorem fm_RS_127 : FM "RedoShelf" 127 0 6 .boolean := ⟨fl_RS_127, fun q hq => by cases hq; rfl⟩
theorem fm_RS_81 : FM "RedoShelf" 81 0 7 .int := ⟨fl_RS_81, fun q hq => by cases hq; rfl⟩
theorem fm_RS_91 : FM "RedoShelf" 91 0 8 .int := ⟨fl_RS_91, fun q hq => by cases hq; rfl⟩
theorem fm_RS_98 : FM "RedoShelf" 98 0 10 .int := ⟨fl_RS_98, fun q hq => by cases hq; rfl⟩
theorem fm_RW_18 : FM "RedoShelf$Row" 18 3 2 .int := ⟨fl_RW_18, fun q hq => by cases hq; rfl⟩
theorem fm_RW_22 : FM "RedoShelf$Row" 22 3 3 .int := ⟨fl_RW_22, fun q hq => by cases hq; rfl⟩
theorem vb_DV_breakDown_39 : VB M_DV_breakDown M_DV_settle 39 2 := ⟨by decide +kernel, gw_2_177, gw_1_2, ⟨by decide +kernel, by decide +kernel, by decide +kernel⟩, ⟨by decide, by decide⟩, Or.inl gw_2_174⟩
theorem vb_DV_breakDown_43 : VB M_DV_breakDown M_DV_isKept 43 2 := ⟨by decide +kernel, gw_2_222, gw_1_2, ⟨by decide +kernel, by decide +kernel, by decide +kernel⟩, ⟨by decide, by decide⟩, Or.inl gw_2_220⟩
theorem vb_DV_flush_39 : VB M_DV_flush M_DV_settle 39 2 := ⟨by decide +kernel, gw_2_177, gw_1_2, ⟨by decide +kernel, by decide +kernel, by decide +kernel⟩, ⟨by decide, by decide⟩, Or.inl gw_2_174⟩
theorem vb_DV_newestWord_26 : VB M_DV_newestWord M_DV_ownWord 26 2 := ⟨by decide +kernel, gw_1_231, gw_1_2, ⟨by decide +kernel, by decide +kernel, by decide +kernel⟩, ⟨by decide, by decide⟩, Or.inl gw_1_228⟩
theorem vb_DV_writeChanged_36 : VB M_DV_writeChanged M_DV_newestWord 36 2 := ⟨by decide +kernel, gw_1_227, gw_1_2, ⟨by decide +kernel, by decide +kernel, by decide +kernel⟩, ⟨by decide, by decide⟩, Or.inl gw_2_20⟩
theorem vb_IM_copyFrom_29 : VB M_IM_copyFrom M_IM_hold 29 1 := ⟨by decide +kernel, gw_1_239, gw_1_3, ⟨by decide +kernel, by decide +kernel, by decide +kernel⟩, ⟨by decide, by decide⟩, Or.inl gw_2_207⟩
theorem vb_JB_doNext_32 : VB M_JB_doNext M_DV_flush 32 0 := ⟨by decide +kernel, gw_2_173, gw_1_2, ⟨by decide +kernel, by decide +kernel, by decide +kernel⟩, ⟨by decide, by decide⟩, Or.inl gw_2_170⟩
theorem vb_JB_doNext_37 : VB M_JB_doNext M_DV_write 37 3 := ⟨by decide +kernel, gw_2_184, gw_1_2, ⟨by decide +kernel, by decide +kernel, by decide +kernel⟩, ⟨by decide, by decide⟩, Or.inl gw_2_181⟩
theorem vb_JB_end_28 : VB M_JB_end M_JB_begin 28 1 := ⟨by decide +kernel, gw_2_51, gw_1_6, ⟨by decide +kernel, by decide +kernel, by decide +kernel⟩, ⟨by decide, by decide⟩, Or.inl gw_2_197⟩
theorem vb_LR_isOwn_54 : VB M_LR_isOwn M_LR_wordAt 54 2 := ⟨by decide +kernel, gw_2_117, gw_1_5, ⟨by decide +kernel, by decide +kernel, by decide +kernel⟩, ⟨by decide, by decide⟩, Or.inl gw_2_114⟩
theorem vb_LR_passGroups_54 : VB M_LR_passGroups M_LR_wordAt 54 2 := ⟨by decide +kernel, gw_2_117, gw_1_5, ⟨by decide +kernel, by decide +kernel, by decide +kernel⟩, ⟨by decide, by decide⟩, Or.inl gw_2_114⟩
theorem vb_LR_passGroups_92 : VB M_LR_passGroups M_LR_isOwn 92 1 := ⟨by decide +kernel, gw_2_113, gw_1_5, ⟨by decide +kernel, by decide +kernel, by decide +kernel⟩, ⟨by decide, by decide⟩, Or.inl gw_2_110⟩
theorem vb_LR_passGroups_95 : VB M_LR_passGroups M_LR_passSector 95 0 := ⟨by decide +kernel, gw_2_121, gw_1_5, ⟨by decide +kernel, by decide +kernel, by decide +kernel⟩, ⟨by decide, by decide⟩, Or.inl gw_2_118⟩
theorem vb_LR_passGroups_98 : VB M_LR_passGroups M_LR_noteImage 98 2 := ⟨by decide +kernel, gw_2_126, gw_1_5, ⟨by decide +kernel, by decide +kernel, by decide +kernel⟩, ⟨by decide, by decide⟩, Or.inl gw_2_123⟩
theorem vb_LR_passRevocations_54 : VB M_LR_passRevocations M_LR_wordAt 54 2 := ⟨by decide +kernel, gw_2_117, gw_1_5, ⟨by decide +kernel, by decide +kernel, by decide +kernel⟩, ⟨by decide, by decide⟩, Or.inl gw_2_114⟩
theorem vb_LR_passRevocations_92 : VB M_LR_passRevocations M_LR_isOwn 92 1 := ⟨by decide +kernel, gw_2_113, gw_1_5, ⟨by decide +kernel, by decide +kernel, by decide +kernel⟩, ⟨by decide, by decide⟩, Or.inl gw_2_110⟩
theorem vb_LR_passRevocations_95 : VB M_LR_passRevocations M_LR_passSector 95 0 := ⟨by decide +kernel, gw_2_121, gw_1_5, ⟨by decide +kernel, by decide +kernel, by decide +kernel⟩, ⟨by decide, by decide⟩, Or.inl gw_2_118⟩
theorem vb_LR_passSector_102 : VB M_LR_passSector M_RS_mix 102 2 := ⟨by decide +kernel, gw_2_42, gw_1_1, ⟨by decide +kernel, by decide +kernel, by decide +kernel⟩, ⟨by decide, by decide⟩, Or.inr ⟨_, nw_2_122⟩⟩
theorem vb_LR_passSector_54 : VB M_LR_passSector M_LR_wordAt 54 2 := ⟨by decide +kernel, gw_2_117, gw_1_5, ⟨by decide +kernel, by decide +kernel, by decide +kernel⟩, ⟨by decide, by decide⟩, Or.inl gw_2_114⟩
theorem vb_LR_scan_58 : VB M_LR_scan M_LR_takeHead 58 1 := ⟨by decide +kernel, gw_2_91, gw_1_5, ⟨by decide +kernel, by decide +kernel, by decide +kernel⟩, ⟨by decide, by decide⟩, Or.inl gw_2_88⟩
theorem vb_LR_scan_62 : VB M_LR_scan M_LR_takeLog 62 1 := ⟨by decide +kernel, gw_2_97, gw_1_5, ⟨by decide +kernel, by decide +kernel, by decide +kernel⟩, ⟨by decide, by decide⟩, Or.inl gw_2_94⟩
theorem vb_LR_scan_65 : VB M_LR_scan M_JA_fill 65 2 := ⟨by decide +kernel, gw_2_101, gw_1_8, ⟨by decide +kernel, by decide +kernel, by decide +kernel⟩, ⟨by decide, by decide⟩, Or.inl gw_2_99⟩
theorem vb_LR_scan_71 : VB M_LR_scan M_LR_takeTransaction 71 1 := ⟨by decide +kernel, gw_2_105, gw_1_5, ⟨by decide +kernel, by decide +kernel, by decide +kernel⟩, ⟨by decide, by decide⟩, Or.inl gw_2_102⟩
theorem vb_LR_takeHead_75 : VB M_LR_takeHead M_DV_newestWord 75 2 := ⟨by decide +kernel, gw_1_227, gw_1_2, ⟨by decide +kernel, by decide +kernel, by decide +kernel⟩, ⟨by decide, by decide⟩, Or.inl gw_2_92⟩
theorem vb_LR_takeLog_75 : VB M_LR_takeLog M_DV_newestWord 75 2 := ⟨by decide +kernel, gw_1_227, gw_1_2, ⟨by decide +kernel, by decide +kernel, by decide +kernel⟩, ⟨by decide, by decide⟩, Or.inl gw_2_92⟩
theorem vb_LR_takeLog_80 : VB M_LR_takeLog M_RS_logSector 80 1 := ⟨by decide +kernel, gw_2_58, gw_1_1, ⟨by decide +kernel, by decide +kernel, by decide +kernel⟩, ⟨by decide, by decide⟩, Or.inr ⟨_, nw_2_98⟩⟩
theorem vb_LR_takeTransaction_54 : VB M_LR_takeTransaction M_LR_wordAt 54 2 := ⟨by decide +kernel, gw_2_117, gw_1_5, ⟨by decide +kernel, by decide +kernel, by decide +kernel⟩, ⟨by decide, by decide⟩, Or.inl gw_2_114⟩
theorem vb_LR_takeTransaction_84 : VB M_LR_takeTransaction M_LR_passGroups 84 1 := ⟨by decide +kernel, gw_2_109, gw_1_5, ⟨by decide +kernel, by decide +kernel, by decide +kernel⟩, ⟨by decide, by decide⟩, Or.inl gw_2_106⟩
theorem vb_LR_takeTransaction_88 : VB M_LR_takeTransaction M_LR_passRevocations 88 0 := ⟨by decide +kernel, gw_2_130, gw_1_5, ⟨by decide +kernel, by decide +kernel, by decide +kernel⟩, ⟨by decide, by decide⟩, Or.inl gw_2_127⟩
theorem vb_LR_takeTransaction_92 : VB M_LR_takeTransaction M_LR_isOwn 92 1 := ⟨by decide +kernel, gw_2_113, gw_1_5, ⟨by decide +kernel, by decide +kernel, by decide +kernel⟩, ⟨by decide, by decide⟩, Or.inl gw_2_110⟩
theorem vb_LR_word_54 : VB M_LR_word M_LR_wordAt 54 2 := ⟨by decide +kernel, gw_2_117, gw_1_5, ⟨by decide +kernel, by decide +kernel, by decide +kernel⟩, ⟨by decide, by decide⟩, Or.inl gw_2_114⟩
theorem vb_MD_body_76 : VB M_MD_body M_MD_countOf 76 1 := ⟨by decide +kernel, gw_3_134, gw_1_7, ⟨by decide +kernel, by decide +kernel, by decide +kernel⟩, ⟨by decide, by decide⟩, Or.inl gw_3_131⟩
theorem vb_MD_body_87 : VB M_MD_body M_MD_imageBlock 87 1 := ⟨by decide +kernel, gw_3_231, gw_1_7, ⟨by decide +kernel, by decide +kernel, by decide +kernel⟩, ⟨by decide, by decide⟩, Or.inl gw_3_228⟩
theorem vb_MD_body_90 : VB M_MD_body M_MD_revocationWord 90 0 := ⟨by decide +kernel, gw_3_223, gw_1_7, ⟨by decide +kernel, by decide +kernel, by decide +kernel⟩, ⟨by decide, by decide⟩, Or.inl gw_3_220⟩
theorem vb_MD_body_94 : VB M_MD_body M_MD_say 94 4 := ⟨by decide +kernel, gw_3_207, gw_1_7, ⟨by decide +kernel, by decide +kernel, by decide +kernel⟩, ⟨by decide, by decide⟩, Or.inl gw_3_204⟩
theorem vb_MD_body_98 : VB M_MD_body M_MD_groupWord 98 2 := ⟨by decide +kernel, gw_3_227, gw_1_7, ⟨by decide +kernel, by decide +kernel, by decide +kernel⟩, ⟨by decide, by decide⟩, Or.inl gw_3_224⟩
theorem vb_MD_changed_58 : VB M_MD_changed M_MD_isBlock 58 1 := ⟨by decide +kernel, gw_3_118, gw_1_7, ⟨by decide +kernel, by decide +kernel, by decide +kernel⟩, ⟨by decide, by decide⟩, Or.inl gw_3_116⟩
theorem vb_MD_checkpointAction_125 : VB M_MD_checkpointAction M_MD_flush 125 0 := ⟨by decide +kernel, gw_3_239, gw_1_7, ⟨by decide +kernel, by decide +kernel, by decide +kernel⟩, ⟨by decide, by decide⟩, Or.inl gw_3_236⟩
theorem vb_MD_checkpointAction_83 : VB M_MD_checkpointAction M_MD_writeOut 83 1 := ⟨by decide +kernel, gw_3_147, gw_1_7, ⟨by decide +kernel, by decide +kernel, by decide +kernel⟩, ⟨by decide, by decide⟩, Or.inl gw_3_144⟩
theorem vb_MD_checkpointAction_94 : VB M_MD_checkpointAction M_MD_say 94 4 := ⟨by decide +kernel, gw_3_207, gw_1_7, ⟨by decide +kernel, by decide +kernel, by decide +kernel⟩, ⟨by decide, by decide⟩, Or.inl gw_3_204⟩
theorem vb_MD_checkpoint_128 : VB M_MD_checkpoint M_MD_countPending 128 0 := ⟨by decide +kernel, gw_3_167, gw_1_7, ⟨by decide +kernel, by decide +kernel, by decide +kernel⟩, ⟨by decide, by decide⟩, Or.inl gw_3_164⟩
theorem vb_MD_checkpoint_72 : VB M_MD_checkpoint M_MD_idle 72 0 := ⟨by decide +kernel, gw_3_130, gw_1_7, ⟨by decide +kernel, by decide +kernel, by decide +kernel⟩, ⟨by decide, by decide⟩, Or.inl gw_3_127⟩
theorem vb_MD_commitAction_101 : VB M_MD_commitAction M_MD_body 101 1 := ⟨by decide +kernel, gw_3_219, gw_1_7, ⟨by decide +kernel, by decide +kernel, by decide +kernel⟩, ⟨by decide, by decide⟩, Or.inl gw_3_216⟩
theorem vb_MD_commitAction_122 : VB M_MD_commitAction M_MD_sum 122 1 := ⟨by decide +kernel, gw_3_235, gw_1_7, ⟨by decide +kernel, by decide +kernel, by decide +kernel⟩, ⟨by decide, by decide⟩, Or.inl gw_3_232⟩
theorem vb_MD_commitAction_125 : VB M_MD_commitAction M_MD_flush 125 0 := ⟨by decide +kernel, gw_3_239, gw_1_7, ⟨by decide +kernel, by decide +kernel, by decide +kernel⟩, ⟨by decide, by decide⟩, Or.inl gw_3_236⟩
theorem vb_MD_commitAction_83 : VB M_MD_commitAction M_MD_writeOut 83 1 := ⟨by decide +kernel, gw_3_147, gw_1_7, ⟨by decide +kernel, by decide +kernel, by decide +kernel⟩, ⟨by decide, by decide⟩, Or.inl gw_3_144⟩
theorem vb_MD_commitAction_94 : VB M_MD_commitAction M_MD_say 94 4 := ⟨by decide +kernel, gw_3_207, gw_1_7, ⟨by decide +kernel, by decide +kernel, by decide +kernel⟩, ⟨by decide, by decide⟩, Or.inl gw_3_204⟩
theorem vb_MD_commit_107 : VB M_MD_commit M_MD_rowLength 107 0 := ⟨by decide +kernel, gw_3_159, gw_1_7, ⟨by decide +kernel, by decide +kernel, by decide +kernel⟩, ⟨by decide, by decide⟩, Or.inl gw_3_156⟩
theorem vb_MD_commit_72 : VB M_MD_commit M_MD_idle 72 0 := ⟨by decide +kernel, gw_3_130, gw_1_7, ⟨by decide +kernel, by decide +kernel, by decide +kernel⟩, ⟨by decide, by decide⟩, Or.inl gw_3_127⟩
theorem vb_MD_commit_76 : VB M_MD_commit M_MD_countOf 76 1 := ⟨by decide +kernel, gw_3_134, gw_1_7, ⟨by decide +kernel, by decide +kernel, by decide +kernel⟩, ⟨by decide, by decide⟩, Or.inl gw_3_131⟩
theorem vb_MD_crash_53 : VB M_MD_crash M_MD_settle 53 2 := ⟨by decide +kernel, gw_4_3, gw_1_7, ⟨by decide +kernel, by decide +kernel, by decide +kernel⟩, ⟨by decide, by decide⟩, Or.inl gw_4_0⟩
theorem vb_MD_direct_58 : VB M_MD_direct M_MD_isBlock 58 1 := ⟨by decide +kernel, gw_3_118, gw_1_7, ⟨by decide +kernel, by decide +kernel, by decide +kernel⟩, ⟨by decide, by decide⟩, Or.inl gw_3_116⟩
theorem vb_MD_direct_62 : VB M_MD_direct M_MD_isWord 62 1 := ⟨by decide +kernel, gw_3_121, gw_1_7, ⟨by decide +kernel, by decide +kernel, by decide +kernel⟩, ⟨by decide, by decide⟩, Or.inl gw_3_119⟩
theorem vb_MD_direct_65 : VB M_MD_direct M_MD_read 65 2 := ⟨by decide +kernel, gw_3_103, gw_1_7, ⟨by decide +kernel, by decide +kernel, by decide +kernel⟩, ⟨by decide, by decide⟩, Or.inl gw_3_122⟩
theorem vb_MD_direct_72 : VB M_MD_direct M_MD_idle 72 0 := ⟨by decide +kernel, gw_3_130, gw_1_7, ⟨by decide +kernel, by decide +kernel, by decide +kernel⟩, ⟨by decide, by decide⟩, Or.inl gw_3_127⟩
theorem vb_MD_direct_83 : VB M_MD_direct M_MD_writeOut 83 1 := ⟨by decide +kernel, gw_3_147, gw_1_7, ⟨by decide +kernel, by decide +kernel, by decide +kernel⟩, ⟨by decide, by decide⟩, Or.inl gw_3_144⟩
theorem vb_MD_findHead_65 : VB M_MD_findHead M_MD_read 65 2 := ⟨by decide +kernel, gw_3_103, gw_1_7, ⟨by decide +kernel, by decide +kernel, by decide +kernel⟩, ⟨by decide, by decide⟩, Or.inl gw_3_122⟩
theorem vb_MD_findRevocations_137 : VB M_MD_findRevocations M_MD_logWord 137 2 := ⟨by decide +kernel, gw_3_191, gw_1_7, ⟨by decide +kernel, by decide +kernel, by decide +kernel⟩, ⟨by decide, by decide⟩, Or.inl gw_3_188⟩
theorem vb_MD_findRevocations_146 : VB M_MD_findRevocations M_MD_findHead 146 0 := ⟨by decide +kernel, gw_3_183, gw_1_7, ⟨by decide +kernel, by decide +kernel, by decide +kernel⟩, ⟨by decide, by decide⟩, Or.inl gw_3_180⟩
theorem vb_MD_findRevocations_155 : VB M_MD_findRevocations M_MD_validAt 155 2 := ⟨by decide +kernel, gw_3_187, gw_1_7, ⟨by decide +kernel, by decide +kernel, by decide +kernel⟩, ⟨by decide, by decide⟩, Or.inl gw_3_184⟩
theorem vb_MD_findRevocations_158 : VB M_MD_findRevocations M_MD_isRevocation 158 2 := ⟨by decide +kernel, gw_3_203, gw_1_7, ⟨by decide +kernel, by decide +kernel, by decide +kernel⟩, ⟨by decide, by decide⟩, Or.inl gw_3_200⟩
theorem vb_MD_finish_168 : VB M_MD_finish M_MD_committed 168 0 := ⟨by decide +kernel, gw_4_19, gw_1_7, ⟨by decide +kernel, by decide +kernel, by decide +kernel⟩, ⟨by decide, by decide⟩, Or.inl gw_4_16⟩
theorem vb_MD_finish_171 : VB M_MD_finish M_MD_checkpointed 171 0 := ⟨by decide +kernel, gw_4_23, gw_1_7, ⟨by decide +kernel, by decide +kernel, by decide +kernel⟩, ⟨by decide, by decide⟩, Or.inl gw_4_20⟩
theorem vb_MD_finish_174 : VB M_MD_finish M_MD_recovered 174 0 := ⟨by decide +kernel, gw_4_27, gw_1_7, ⟨by decide +kernel, by decide +kernel, by decide +kernel⟩, ⟨by decide, by decide⟩, Or.inl gw_4_24⟩
theorem vb_MD_flush_53 : VB M_MD_flush M_MD_settle 53 2 := ⟨by decide +kernel, gw_4_3, gw_1_7, ⟨by decide +kernel, by decide +kernel, by decide +kernel⟩, ⟨by decide, by decide⟩, Or.inl gw_4_0⟩
theorem vb_MD_get_58 : VB M_MD_get M_MD_isBlock 58 1 := ⟨by decide +kernel, gw_3_118, gw_1_7, ⟨by decide +kernel, by decide +kernel, by decide +kernel⟩, ⟨by decide, by decide⟩, Or.inl gw_3_116⟩
theorem vb_MD_get_62 : VB M_MD_get M_MD_isWord 62 1 := ⟨by decide +kernel, gw_3_121, gw_1_7, ⟨by decide +kernel, by decide +kernel, by decide +kernel⟩, ⟨by decide, by decide⟩, Or.inl gw_3_119⟩
theorem vb_MD_get_65 : VB M_MD_get M_MD_read 65 2 := ⟨by decide +kernel, gw_3_103, gw_1_7, ⟨by decide +kernel, by decide +kernel, by decide +kernel⟩, ⟨by decide, by decide⟩, Or.inl gw_3_122⟩
theorem vb_MD_groupWord_87 : VB M_MD_groupWord M_MD_imageBlock 87 1 := ⟨by decide +kernel, gw_3_231, gw_1_7, ⟨by decide +kernel, by decide +kernel, by decide +kernel⟩, ⟨by decide, by decide⟩, Or.inl gw_3_228⟩
theorem vb_MD_isRevocation_137 : VB M_MD_isRevocation M_MD_logWord 137 2 := ⟨by decide +kernel, gw_3_191, gw_1_7, ⟨by decide +kernel, by decide +kernel, by decide +kernel⟩, ⟨by decide, by decide⟩, Or.inl gw_3_188⟩
theorem vb_MD_logWord_65 : VB M_MD_logWord M_MD_read 65 2 := ⟨by decide +kernel, gw_3_103, gw_1_7, ⟨by decide +kernel, by decide +kernel, by decide +kernel⟩, ⟨by decide, by decide⟩, Or.inl gw_3_122⟩
theorem vb_MD_mixSector_104 : VB M_MD_mixSector M_MD_mix 104 2 := ⟨by decide +kernel, gw_3_198, gw_1_7, ⟨by decide +kernel, by decide +kernel, by decide +kernel⟩, ⟨by decide, by decide⟩, Or.inl gw_3_196⟩
theorem vb_MD_mixSector_137 : VB M_MD_mixSector M_MD_logWord 137 2 := ⟨by decide +kernel, gw_3_191, gw_1_7, ⟨by decide +kernel, by decide +kernel, by decide +kernel⟩, ⟨by decide, by decide⟩, Or.inl gw_3_188⟩
theorem vb_MD_put_58 : VB M_MD_put M_MD_isBlock 58 1 := ⟨by decide +kernel, gw_3_118, gw_1_7, ⟨by decide +kernel, by decide +kernel, by decide +kernel⟩, ⟨by decide, by decide⟩, Or.inl gw_3_116⟩
theorem vb_MD_put_62 : VB M_MD_put M_MD_isWord 62 1 := ⟨by decide +kernel, gw_3_121, gw_1_7, ⟨by decide +kernel, by decide +kernel, by decide +kernel⟩, ⟨by decide, by decide⟩, Or.inl gw_3_119⟩
theorem vb_MD_put_72 : VB M_MD_put M_MD_idle 72 0 := ⟨by decide +kernel, gw_3_130, gw_1_7, ⟨by decide +kernel, by decide +kernel, by decide +kernel⟩, ⟨by decide, by decide⟩, Or.inl gw_3_127⟩
theorem vb_MD_put_76 : VB M_MD_put M_MD_countOf 76 1 := ⟨by decide +kernel, gw_3_134, gw_1_7, ⟨by decide +kernel, by decide +kernel, by decide +kernel⟩, ⟨by decide, by decide⟩, Or.inl gw_3_131⟩
theorem vb_MD_put_80 : VB M_MD_put M_MD_get 80 2 := ⟨by decide +kernel, gw_3_115, gw_1_7, ⟨by decide +kernel, by decide +kernel, by decide +kernel⟩, ⟨by decide, by decide⟩, Or.inl gw_3_135⟩
theorem vb_MD_recover_165 : VB M_MD_recover M_MD_replay 165 1 := ⟨by decide +kernel, gw_3_175, gw_1_7, ⟨by decide +kernel, by decide +kernel, by decide +kernel⟩, ⟨by decide, by decide⟩, Or.inl gw_3_172⟩
theorem vb_MD_recovered_65 : VB M_MD_recovered M_MD_read 65 2 := ⟨by decide +kernel, gw_3_103, gw_1_7, ⟨by decide +kernel, by decide +kernel, by decide +kernel⟩, ⟨by decide, by decide⟩, Or.inl gw_3_122⟩
theorem vb_MD_recoveryAction_125 : VB M_MD_recoveryAction M_MD_flush 125 0 := ⟨by decide +kernel, gw_3_239, gw_1_7, ⟨by decide +kernel, by decide +kernel, by decide +kernel⟩, ⟨by decide, by decide⟩, Or.inl gw_3_236⟩
theorem vb_MD_recoveryAction_162 : VB M_MD_recoveryAction M_MD_findRevocations 162 0 := ⟨by decide +kernel, gw_3_179, gw_1_7, ⟨by decide +kernel, by decide +kernel, by decide +kernel⟩, ⟨by decide, by decide⟩, Or.inl gw_3_176⟩
theorem vb_MD_recoveryAction_165 : VB M_MD_recoveryAction M_MD_replay 165 1 := ⟨by decide +kernel, gw_3_175, gw_1_7, ⟨by decide +kernel, by decide +kernel, by decide +kernel⟩, ⟨by decide, by decide⟩, Or.inl gw_3_172⟩
theorem vb_MD_recoveryAction_83 : VB M_MD_recoveryAction M_MD_writeOut 83 1 := ⟨by decide +kernel, gw_3_147, gw_1_7, ⟨by decide +kernel, by decide +kernel, by decide +kernel⟩, ⟨by decide, by decide⟩, Or.inl gw_3_144⟩
theorem vb_MD_recoveryAction_94 : VB M_MD_recoveryAction M_MD_say 94 4 := ⟨by decide +kernel, gw_3_207, gw_1_7, ⟨by decide +kernel, by decide +kernel, by decide +kernel⟩, ⟨by decide, by decide⟩, Or.inl gw_3_204⟩
theorem vb_MD_replay_137 : VB M_MD_replay M_MD_logWord 137 2 := ⟨by decide +kernel, gw_3_191, gw_1_7, ⟨by decide +kernel, by decide +kernel, by decide +kernel⟩, ⟨by decide, by decide⟩, Or.inl gw_3_188⟩
theorem vb_MD_replay_162 : VB M_MD_replay M_MD_findRevocations 162 0 := ⟨by decide +kernel, gw_3_179, gw_1_7, ⟨by decide +kernel, by decide +kernel, by decide +kernel⟩, ⟨by decide, by decide⟩, Or.inl gw_3_176⟩
theorem vb_MD_replay_94 : VB M_MD_replay M_MD_say 94 4 := ⟨by decide +kernel, gw_3_207, gw_1_7, ⟨by decide +kernel, by decide +kernel, by decide +kernel⟩, ⟨by decide, by decide⟩, Or.inl gw_3_204⟩
theorem vb_MD_revoke_58 : VB M_MD_revoke M_MD_isBlock 58 1 := ⟨by decide +kernel, gw_3_118, gw_1_7, ⟨by decide +kernel, by decide +kernel, by decide +kernel⟩, ⟨by decide, by decide⟩, Or.inl gw_3_116⟩
theorem vb_MD_revoke_72 : VB M_MD_revoke M_MD_idle 72 0 := ⟨by decide +kernel, gw_3_130, gw_1_7, ⟨by decide +kernel, by decide +kernel, by decide +kernel⟩, ⟨by decide, by decide⟩, Or.inl gw_3_127⟩
theorem vb_MD_rowLength_76 : VB M_MD_rowLength M_MD_countOf 76 1 := ⟨by decide +kernel, gw_3_134, gw_1_7, ⟨by decide +kernel, by decide +kernel, by decide +kernel⟩, ⟨by decide, by decide⟩, Or.inl gw_3_131⟩
theorem vb_MD_step_177 : VB M_MD_step M_MD_commitAction 177 1 := ⟨by decide +kernel, gw_3_215, gw_1_7, ⟨by decide +kernel, by decide +kernel, by decide +kernel⟩, ⟨by decide, by decide⟩, Or.inl gw_3_212⟩
theorem vb_MD_step_180 : VB M_MD_step M_MD_checkpointAction 180 1 := ⟨by decide +kernel, gw_4_7, gw_1_7, ⟨by decide +kernel, by decide +kernel, by decide +kernel⟩, ⟨by decide, by decide⟩, Or.inl gw_4_4⟩
theorem vb_MD_step_183 : VB M_MD_step M_MD_recoveryAction 183 1 := ⟨by decide +kernel, gw_4_11, gw_1_7, ⟨by decide +kernel, by decide +kernel, by decide +kernel⟩, ⟨by decide, by decide⟩, Or.inl gw_4_8⟩
theorem vb_MD_step_186 : VB M_MD_step M_MD_finish 186 0 := ⟨by decide +kernel, gw_4_15, gw_1_7, ⟨by decide +kernel, by decide +kernel, by decide +kernel⟩, ⟨by decide, by decide⟩, Or.inl gw_4_12⟩
theorem vb_MD_sum_101 : VB M_MD_sum M_MD_body 101 1 := ⟨by decide +kernel, gw_3_219, gw_1_7, ⟨by decide +kernel, by decide +kernel, by decide +kernel⟩, ⟨by decide, by decide⟩, Or.inl gw_3_216⟩
theorem vb_MD_sum_104 : VB M_MD_sum M_MD_mix 104 2 := ⟨by decide +kernel, gw_3_198, gw_1_7, ⟨by decide +kernel, by decide +kernel, by decide +kernel⟩, ⟨by decide, by decide⟩, Or.inl gw_3_196⟩
theorem vb_MD_validAt_137 : VB M_MD_validAt M_MD_logWord 137 2 := ⟨by decide +kernel, gw_3_191, gw_1_7, ⟨by decide +kernel, by decide +kernel, by decide +kernel⟩, ⟨by decide, by decide⟩, Or.inl gw_3_188⟩
theorem vb_MD_validAt_140 : VB M_MD_validAt M_MD_mixSector 140 2 := ⟨by decide +kernel, gw_3_195, gw_1_7, ⟨by decide +kernel, by decide +kernel, by decide +kernel⟩, ⟨by decide, by decide⟩, Or.inl gw_3_192⟩
theorem vb_RS_beginImage_173 : VB M_RS_beginImage M_RS_volumeWord 173 2 := ⟨by decide +kernel, gw_1_219, gw_1_1, ⟨by decide +kernel, by decide +kernel, by decide +kernel⟩, ⟨by decide, by decide⟩, Or.inl gw_1_216⟩
theorem vb_RS_beginImage_192 : VB M_RS_beginImage M_IM_hold 192 1 := ⟨by decide +kernel, gw_1_239, gw_1_3, ⟨by decide +kernel, by decide +kernel, by decide +kernel⟩, ⟨by decide, by decide⟩, Or.inl gw_1_236⟩
theorem vb_RS_beginImage_71 : VB M_RS_beginImage M_IM_setWord 71 3 := ⟨by decide +kernel, gw_1_235, gw_1_3, ⟨by decide +kernel, by decide +kernel, by decide +kernel⟩, ⟨by decide, by decide⟩, Or.inl gw_1_232⟩
theorem vb_RS_cached_85 : VB M_RS_cached M_DV_waiting 85 0 := ⟨by decide +kernel, gw_2_15, gw_1_2, ⟨by decide +kernel, by decide +kernel, by decide +kernel⟩, ⟨by decide, by decide⟩, Or.inl gw_2_12⟩
theorem vb_RS_changed_188 : VB M_RS_changed M_RS_isRevoked 188 1 := ⟨by decide +kernel, gw_2_211, gw_1_1, ⟨by decide +kernel, by decide +kernel, by decide +kernel⟩, ⟨by decide, by decide⟩, Or.inl gw_2_208⟩
theorem vb_RS_changed_59 : VB M_RS_changed M_IM_holds 59 1 := ⟨by decide +kernel, gw_1_207, gw_1_3, ⟨by decide +kernel, by decide +kernel, by decide +kernel⟩, ⟨by decide, by decide⟩, Or.inl gw_1_204⟩
theorem vb_RS_changed_75 : VB M_RS_changed M_RS_isBlock 75 1 := ⟨by decide +kernel, gw_1_203, gw_1_1, ⟨by decide +kernel, by decide +kernel, by decide +kernel⟩, ⟨by decide, by decide⟩, Or.inl gw_1_201⟩
theorem vb_RS_checkpoint_104 : VB M_RS_checkpoint M_JB_begin 104 1 := ⟨by decide +kernel, gw_2_51, gw_1_6, ⟨by decide +kernel, by decide +kernel, by decide +kernel⟩, ⟨by decide, by decide⟩, Or.inl gw_2_48⟩
theorem vb_RS_checkpoint_113 : VB M_RS_checkpoint M_IM_word 113 2 := ⟨by decide +kernel, gw_1_223, gw_1_3, ⟨by decide +kernel, by decide +kernel, by decide +kernel⟩, ⟨by decide, by decide⟩, Or.inl gw_1_220⟩
theorem vb_RS_checkpoint_117 : VB M_RS_checkpoint M_JB_addWrite 117 5 := ⟨by decide +kernel, gw_2_66, gw_1_6, ⟨by decide +kernel, by decide +kernel, by decide +kernel⟩, ⟨by decide, by decide⟩, Or.inl gw_2_63⟩
theorem vb_RS_checkpoint_124 : VB M_RS_checkpoint M_RS_planHead 124 2 := ⟨by decide +kernel, gw_2_78, gw_1_1, ⟨by decide +kernel, by decide +kernel, by decide +kernel⟩, ⟨by decide, by decide⟩, Or.inl gw_2_75⟩
theorem vb_RS_checkpoint_51 : VB M_RS_checkpoint M_RS_isIdle 51 0 := ⟨by decide +kernel, gw_1_193, gw_1_1, ⟨by decide +kernel, by decide +kernel, by decide +kernel⟩, ⟨by decide, by decide⟩, Or.inl gw_1_190⟩
theorem vb_RS_checkpoint_59 : VB M_RS_checkpoint M_IM_holds 59 1 := ⟨by decide +kernel, gw_1_207, gw_1_3, ⟨by decide +kernel, by decide +kernel, by decide +kernel⟩, ⟨by decide, by decide⟩, Or.inl gw_1_204⟩
theorem vb_RS_checkpoint_63 : VB M_RS_checkpoint M_IM_size 63 0 := ⟨by decide +kernel, gw_1_211, gw_1_3, ⟨by decide +kernel, by decide +kernel, by decide +kernel⟩, ⟨by decide, by decide⟩, Or.inl gw_1_208⟩
theorem vb_RS_comeUp_203 : VB M_RS_comeUp M_IM_clear 203 0 := ⟨by decide +kernel, gw_1_151, gw_1_3, ⟨by decide +kernel, by decide +kernel, by decide +kernel⟩, ⟨by decide, by decide⟩, Or.inl gw_1_148⟩
theorem vb_RS_commit_101 : VB M_RS_commit M_RW_length 101 0 := ⟨by decide +kernel, gw_2_47, gw_1_4, ⟨by decide +kernel, by decide +kernel, by decide +kernel⟩, ⟨by decide, by decide⟩, Or.inl gw_2_44⟩
theorem vb_RS_commit_104 : VB M_RS_commit M_JB_begin 104 1 := ⟨by decide +kernel, gw_2_51, gw_1_6, ⟨by decide +kernel, by decide +kernel, by decide +kernel⟩, ⟨by decide, by decide⟩, Or.inl gw_2_48⟩
theorem vb_RS_commit_107 : VB M_RS_commit M_RS_planRowSector 107 1 := ⟨by decide +kernel, gw_2_55, gw_1_1, ⟨by decide +kernel, by decide +kernel, by decide +kernel⟩, ⟨by decide, by decide⟩, Or.inl gw_2_52⟩
theorem vb_RS_commit_110 : VB M_RS_commit M_JB_addFlush 110 0 := ⟨by decide +kernel, gw_2_70, gw_1_6, ⟨by decide +kernel, by decide +kernel, by decide +kernel⟩, ⟨by decide, by decide⟩, Or.inl gw_2_67⟩
theorem vb_RS_commit_51 : VB M_RS_commit M_RS_isIdle 51 0 := ⟨by decide +kernel, gw_1_193, gw_1_1, ⟨by decide +kernel, by decide +kernel, by decide +kernel⟩, ⟨by decide, by decide⟩, Or.inl gw_1_190⟩
theorem vb_RS_commit_63 : VB M_RS_commit M_IM_size 63 0 := ⟨by decide +kernel, gw_1_211, gw_1_3, ⟨by decide +kernel, by decide +kernel, by decide +kernel⟩, ⟨by decide, by decide⟩, Or.inl gw_1_208⟩
theorem vb_RS_commit_94 : VB M_RS_commit M_RW_build 94 3 := ⟨by decide +kernel, gw_2_28, gw_1_4, ⟨by decide +kernel, by decide +kernel, by decide +kernel⟩, ⟨by decide, by decide⟩, Or.inl gw_2_25⟩
theorem vb_RS_crash_167 : VB M_RS_crash M_JB_end 167 0 := ⟨by decide +kernel, gw_2_196, gw_1_6, ⟨by decide +kernel, by decide +kernel, by decide +kernel⟩, ⟨by decide, by decide⟩, Or.inl gw_2_193⟩
theorem vb_RS_crash_170 : VB M_RS_crash M_DV_breakDown 170 2 := ⟨by decide +kernel, gw_2_219, gw_1_2, ⟨by decide +kernel, by decide +kernel, by decide +kernel⟩, ⟨by decide, by decide⟩, Or.inl gw_2_216⟩
theorem vb_RS_direct_51 : VB M_RS_direct M_RS_isIdle 51 0 := ⟨by decide +kernel, gw_1_193, gw_1_1, ⟨by decide +kernel, by decide +kernel, by decide +kernel⟩, ⟨by decide, by decide⟩, Or.inl gw_1_190⟩
theorem vb_RS_direct_55 : VB M_RS_direct M_RS_isBlockWord 55 2 := ⟨by decide +kernel, gw_1_200, gw_1_1, ⟨by decide +kernel, by decide +kernel, by decide +kernel⟩, ⟨by decide, by decide⟩, Or.inl gw_1_198⟩
theorem vb_RS_direct_59 : VB M_RS_direct M_IM_holds 59 1 := ⟨by decide +kernel, gw_1_207, gw_1_3, ⟨by decide +kernel, by decide +kernel, by decide +kernel⟩, ⟨by decide, by decide⟩, Or.inl gw_1_204⟩
theorem vb_RS_direct_85 : VB M_RS_direct M_DV_waiting 85 0 := ⟨by decide +kernel, gw_2_15, gw_1_2, ⟨by decide +kernel, by decide +kernel, by decide +kernel⟩, ⟨by decide, by decide⟩, Or.inl gw_2_12⟩
theorem vb_RS_direct_88 : VB M_RS_direct M_DV_writeChanged 88 3 := ⟨by decide +kernel, gw_2_19, gw_1_2, ⟨by decide +kernel, by decide +kernel, by decide +kernel⟩, ⟨by decide, by decide⟩, Or.inl gw_2_16⟩
theorem vb_RS_finishCommit_101 : VB M_RS_finishCommit M_RW_length 101 0 := ⟨by decide +kernel, gw_2_47, gw_1_4, ⟨by decide +kernel, by decide +kernel, by decide +kernel⟩, ⟨by decide, by decide⟩, Or.inl gw_2_44⟩
theorem vb_RS_finishCommit_188 : VB M_RS_finishCommit M_RS_isRevoked 188 1 := ⟨by decide +kernel, gw_2_211, gw_1_1, ⟨by decide +kernel, by decide +kernel, by decide +kernel⟩, ⟨by decide, by decide⟩, Or.inl gw_2_208⟩
theorem vb_RS_finishCommit_203 : VB M_RS_finishCommit M_IM_clear 203 0 := ⟨by decide +kernel, gw_1_151, gw_1_3, ⟨by decide +kernel, by decide +kernel, by decide +kernel⟩, ⟨by decide, by decide⟩, Or.inl gw_1_148⟩
theorem vb_RS_finishCommit_206 : VB M_RS_finishCommit M_IM_copyFrom 206 2 := ⟨by decide +kernel, gw_2_205, gw_1_3, ⟨by decide +kernel, by decide +kernel, by decide +kernel⟩, ⟨by decide, by decide⟩, Or.inl gw_2_202⟩
theorem vb_RS_finishCommit_59 : VB M_RS_finishCommit M_IM_holds 59 1 := ⟨by decide +kernel, gw_1_207, gw_1_3, ⟨by decide +kernel, by decide +kernel, by decide +kernel⟩, ⟨by decide, by decide⟩, Or.inl gw_1_204⟩
theorem vb_RS_finishCommit_78 : VB M_RS_finishCommit M_IM_drop 78 1 := ⟨by decide +kernel, gw_2_7, gw_1_3, ⟨by decide +kernel, by decide +kernel, by decide +kernel⟩, ⟨by decide, by decide⟩, Or.inl gw_2_4⟩
theorem vb_RS_finishJob_147 : VB M_RS_finishJob M_LR_numberBehind 147 0 := ⟨by decide +kernel, gw_2_150, gw_1_5, ⟨by decide +kernel, by decide +kernel, by decide +kernel⟩, ⟨by decide, by decide⟩, Or.inl gw_2_147⟩
theorem vb_RS_finishJob_150 : VB M_RS_finishJob M_LR_placeBehind 150 0 := ⟨by decide +kernel, gw_2_154, gw_1_5, ⟨by decide +kernel, by decide +kernel, by decide +kernel⟩, ⟨by decide, by decide⟩, Or.inl gw_2_151⟩
theorem vb_RS_finishJob_167 : VB M_RS_finishJob M_JB_end 167 0 := ⟨by decide +kernel, gw_2_196, gw_1_6, ⟨by decide +kernel, by decide +kernel, by decide +kernel⟩, ⟨by decide, by decide⟩, Or.inl gw_2_193⟩
theorem vb_RS_finishJob_185 : VB M_RS_finishJob M_JB_kind 185 0 := ⟨by decide +kernel, gw_2_192, gw_1_6, ⟨by decide +kernel, by decide +kernel, by decide +kernel⟩, ⟨by decide, by decide⟩, Or.inl gw_2_189⟩
theorem vb_RS_finishJob_200 : VB M_RS_finishJob M_RS_finishCommit 200 0 := ⟨by decide +kernel, gw_2_201, gw_1_1, ⟨by decide +kernel, by decide +kernel, by decide +kernel⟩, ⟨by decide, by decide⟩, Or.inl gw_2_198⟩
theorem vb_RS_finishJob_203 : VB M_RS_finishJob M_IM_clear 203 0 := ⟨by decide +kernel, gw_1_151, gw_1_3, ⟨by decide +kernel, by decide +kernel, by decide +kernel⟩, ⟨by decide, by decide⟩, Or.inl gw_1_148⟩
theorem vb_RS_finishJob_47 : VB M_RS_finishJob M_RS_comeUp 47 2 := ⟨by decide +kernel, gw_1_147, gw_1_1, ⟨by decide +kernel, by decide +kernel, by decide +kernel⟩, ⟨by decide, by decide⟩, Or.inl gw_1_144⟩
theorem vb_RS_get_173 : VB M_RS_get M_RS_volumeWord 173 2 := ⟨by decide +kernel, gw_1_219, gw_1_1, ⟨by decide +kernel, by decide +kernel, by decide +kernel⟩, ⟨by decide, by decide⟩, Or.inl gw_1_216⟩
theorem vb_RS_get_55 : VB M_RS_get M_RS_isBlockWord 55 2 := ⟨by decide +kernel, gw_1_200, gw_1_1, ⟨by decide +kernel, by decide +kernel, by decide +kernel⟩, ⟨by decide, by decide⟩, Or.inl gw_1_198⟩
theorem vb_RS_isBlockWord_75 : VB M_RS_isBlockWord M_RS_isBlock 75 1 := ⟨by decide +kernel, gw_1_203, gw_1_1, ⟨by decide +kernel, by decide +kernel, by decide +kernel⟩, ⟨by decide, by decide⟩, Or.inl gw_1_201⟩
theorem vb_RS_isIdle_131 : VB M_RS_isIdle M_JB_isRunning 131 0 := ⟨by decide +kernel, gw_1_197, gw_1_6, ⟨by decide +kernel, by decide +kernel, by decide +kernel⟩, ⟨by decide, by decide⟩, Or.inl gw_1_194⟩
theorem vb_RS_left_153 : VB M_RS_left M_JB_remaining 153 0 := ⟨by decide +kernel, gw_2_162, gw_1_6, ⟨by decide +kernel, by decide +kernel, by decide +kernel⟩, ⟨by decide, by decide⟩, Or.inl gw_2_159⟩
theorem vb_RS_planHead_110 : VB M_RS_planHead M_JB_addFlush 110 0 := ⟨by decide +kernel, gw_2_70, gw_1_6, ⟨by decide +kernel, by decide +kernel, by decide +kernel⟩, ⟨by decide, by decide⟩, Or.inl gw_2_67⟩
theorem vb_RS_planHead_117 : VB M_RS_planHead M_JB_addWrite 117 5 := ⟨by decide +kernel, gw_2_66, gw_1_6, ⟨by decide +kernel, by decide +kernel, by decide +kernel⟩, ⟨by decide, by decide⟩, Or.inl gw_2_63⟩
theorem vb_RS_planRowSector_117 : VB M_RS_planRowSector M_JB_addWrite 117 5 := ⟨by decide +kernel, gw_2_66, gw_1_6, ⟨by decide +kernel, by decide +kernel, by decide +kernel⟩, ⟨by decide, by decide⟩, Or.inl gw_2_63⟩
theorem vb_RS_planRowSector_195 : VB M_RS_planRowSector M_RS_logSector 195 1 := ⟨by decide +kernel, gw_2_58, gw_1_1, ⟨by decide +kernel, by decide +kernel, by decide +kernel⟩, ⟨by decide, by decide⟩, Or.inl gw_2_56⟩
theorem vb_RS_planRowSector_198 : VB M_RS_planRowSector M_RW_word 198 2 := ⟨by decide +kernel, gw_2_62, gw_1_4, ⟨by decide +kernel, by decide +kernel, by decide +kernel⟩, ⟨by decide, by decide⟩, Or.inl gw_2_59⟩
theorem vb_RS_put_51 : VB M_RS_put M_RS_isIdle 51 0 := ⟨by decide +kernel, gw_1_193, gw_1_1, ⟨by decide +kernel, by decide +kernel, by decide +kernel⟩, ⟨by decide, by decide⟩, Or.inl gw_1_190⟩
theorem vb_RS_put_55 : VB M_RS_put M_RS_isBlockWord 55 2 := ⟨by decide +kernel, gw_1_200, gw_1_1, ⟨by decide +kernel, by decide +kernel, by decide +kernel⟩, ⟨by decide, by decide⟩, Or.inl gw_1_198⟩
theorem vb_RS_put_59 : VB M_RS_put M_IM_holds 59 1 := ⟨by decide +kernel, gw_1_207, gw_1_3, ⟨by decide +kernel, by decide +kernel, by decide +kernel⟩, ⟨by decide, by decide⟩, Or.inl gw_1_204⟩
theorem vb_RS_put_63 : VB M_RS_put M_IM_size 63 0 := ⟨by decide +kernel, gw_1_211, gw_1_3, ⟨by decide +kernel, by decide +kernel, by decide +kernel⟩, ⟨by decide, by decide⟩, Or.inl gw_1_208⟩
theorem vb_RS_put_67 : VB M_RS_put M_RS_beginImage 67 1 := ⟨by decide +kernel, gw_1_215, gw_1_1, ⟨by decide +kernel, by decide +kernel, by decide +kernel⟩, ⟨by decide, by decide⟩, Or.inl gw_1_212⟩
theorem vb_RS_put_71 : VB M_RS_put M_IM_setWord 71 3 := ⟨by decide +kernel, gw_1_235, gw_1_3, ⟨by decide +kernel, by decide +kernel, by decide +kernel⟩, ⟨by decide, by decide⟩, Or.inl gw_1_232⟩
theorem vb_RS_read_176 : VB M_RS_read M_RS_isSectorWord 176 2 := ⟨by decide +kernel, gw_2_233, gw_1_1, ⟨by decide +kernel, by decide +kernel, by decide +kernel⟩, ⟨by decide, by decide⟩, Or.inl gw_2_231⟩
theorem vb_RS_read_179 : VB M_RS_read M_DV_newestWord 179 2 := ⟨by decide +kernel, gw_1_227, gw_1_2, ⟨by decide +kernel, by decide +kernel, by decide +kernel⟩, ⟨by decide, by decide⟩, Or.inl gw_1_224⟩
theorem vb_RS_recover_104 : VB M_RS_recover M_JB_begin 104 1 := ⟨by decide +kernel, gw_2_51, gw_1_6, ⟨by decide +kernel, by decide +kernel, by decide +kernel⟩, ⟨by decide, by decide⟩, Or.inl gw_2_48⟩
theorem vb_RS_recover_117 : VB M_RS_recover M_JB_addWrite 117 5 := ⟨by decide +kernel, gw_2_66, gw_1_6, ⟨by decide +kernel, by decide +kernel, by decide +kernel⟩, ⟨by decide, by decide⟩, Or.inl gw_2_63⟩
theorem vb_RS_recover_124 : VB M_RS_recover M_RS_planHead 124 2 := ⟨by decide +kernel, gw_2_78, gw_1_1, ⟨by decide +kernel, by decide +kernel, by decide +kernel⟩, ⟨by decide, by decide⟩, Or.inl gw_2_75⟩
theorem vb_RS_recover_131 : VB M_RS_recover M_JB_isRunning 131 0 := ⟨by decide +kernel, gw_1_197, gw_1_6, ⟨by decide +kernel, by decide +kernel, by decide +kernel⟩, ⟨by decide, by decide⟩, Or.inl gw_1_194⟩
theorem vb_RS_recover_134 : VB M_RS_recover M_LR_scan 134 1 := ⟨by decide +kernel, gw_2_87, gw_1_5, ⟨by decide +kernel, by decide +kernel, by decide +kernel⟩, ⟨by decide, by decide⟩, Or.inl gw_2_84⟩
theorem vb_RS_recover_138 : VB M_RS_recover M_LR_size 138 0 := ⟨by decide +kernel, gw_2_134, gw_1_5, ⟨by decide +kernel, by decide +kernel, by decide +kernel⟩, ⟨by decide, by decide⟩, Or.inl gw_2_131⟩
theorem vb_RS_recover_139 : VB M_RS_recover M_LR_isToReplay 139 1 := ⟨by decide +kernel, gw_2_138, gw_1_5, ⟨by decide +kernel, by decide +kernel, by decide +kernel⟩, ⟨by decide, by decide⟩, Or.inl gw_2_135⟩
theorem vb_RS_recover_142 : VB M_RS_recover M_LR_block 142 1 := ⟨by decide +kernel, gw_2_142, gw_1_5, ⟨by decide +kernel, by decide +kernel, by decide +kernel⟩, ⟨by decide, by decide⟩, Or.inl gw_2_139⟩
theorem vb_RS_recover_146 : VB M_RS_recover M_LR_word 146 2 := ⟨by decide +kernel, gw_2_146, gw_1_5, ⟨by decide +kernel, by decide +kernel, by decide +kernel⟩, ⟨by decide, by decide⟩, Or.inl gw_2_143⟩
theorem vb_RS_recover_147 : VB M_RS_recover M_LR_numberBehind 147 0 := ⟨by decide +kernel, gw_2_150, gw_1_5, ⟨by decide +kernel, by decide +kernel, by decide +kernel⟩, ⟨by decide, by decide⟩, Or.inl gw_2_147⟩
theorem vb_RS_recover_150 : VB M_RS_recover M_LR_placeBehind 150 0 := ⟨by decide +kernel, gw_2_154, gw_1_5, ⟨by decide +kernel, by decide +kernel, by decide +kernel⟩, ⟨by decide, by decide⟩, Or.inl gw_2_151⟩
theorem vb_RS_revoke_51 : VB M_RS_revoke M_RS_isIdle 51 0 := ⟨by decide +kernel, gw_1_193, gw_1_1, ⟨by decide +kernel, by decide +kernel, by decide +kernel⟩, ⟨by decide, by decide⟩, Or.inl gw_1_190⟩
theorem vb_RS_revoke_75 : VB M_RS_revoke M_RS_isBlock 75 1 := ⟨by decide +kernel, gw_1_203, gw_1_1, ⟨by decide +kernel, by decide +kernel, by decide +kernel⟩, ⟨by decide, by decide⟩, Or.inl gw_1_201⟩
theorem vb_RS_revoke_78 : VB M_RS_revoke M_IM_drop 78 1 := ⟨by decide +kernel, gw_2_7, gw_1_3, ⟨by decide +kernel, by decide +kernel, by decide +kernel⟩, ⟨by decide, by decide⟩, Or.inl gw_2_4⟩
theorem vb_RS_state_131 : VB M_RS_state M_JB_isRunning 131 0 := ⟨by decide +kernel, gw_1_197, gw_1_6, ⟨by decide +kernel, by decide +kernel, by decide +kernel⟩, ⟨by decide, by decide⟩, Or.inl gw_1_194⟩
theorem vb_RS_state_185 : VB M_RS_state M_JB_kind 185 0 := ⟨by decide +kernel, gw_2_192, gw_1_6, ⟨by decide +kernel, by decide +kernel, by decide +kernel⟩, ⟨by decide, by decide⟩, Or.inl gw_2_189⟩
theorem vb_RS_step_131 : VB M_RS_step M_JB_isRunning 131 0 := ⟨by decide +kernel, gw_1_197, gw_1_6, ⟨by decide +kernel, by decide +kernel, by decide +kernel⟩, ⟨by decide, by decide⟩, Or.inl gw_1_194⟩
theorem vb_RS_step_153 : VB M_RS_step M_JB_remaining 153 0 := ⟨by decide +kernel, gw_2_162, gw_1_6, ⟨by decide +kernel, by decide +kernel, by decide +kernel⟩, ⟨by decide, by decide⟩, Or.inl gw_2_159⟩
theorem vb_RS_step_161 : VB M_RS_step M_JB_doNext 161 1 := ⟨by decide +kernel, gw_2_169, gw_1_6, ⟨by decide +kernel, by decide +kernel, by decide +kernel⟩, ⟨by decide, by decide⟩, Or.inl gw_2_166⟩
theorem vb_RS_step_164 : VB M_RS_step M_RS_finishJob 164 0 := ⟨by decide +kernel, gw_2_188, gw_1_1, ⟨by decide +kernel, by decide +kernel, by decide +kernel⟩, ⟨by decide, by decide⟩, Or.inl gw_2_185⟩
theorem vb_RS_stored_176 : VB M_RS_stored M_RS_isSectorWord 176 2 := ⟨by decide +kernel, gw_2_233, gw_1_1, ⟨by decide +kernel, by decide +kernel, by decide +kernel⟩, ⟨by decide, by decide⟩, Or.inl gw_2_231⟩
theorem vb_RS_stored_182 : VB M_RS_stored M_DV_ownWord 182 2 := ⟨by decide +kernel, gw_1_231, gw_1_2, ⟨by decide +kernel, by decide +kernel, by decide +kernel⟩, ⟨by decide, by decide⟩, Or.inl gw_2_238⟩
theorem vb_RS_volumeWord_113 : VB M_RS_volumeWord M_IM_word 113 2 := ⟨by decide +kernel, gw_1_223, gw_1_3, ⟨by decide +kernel, by decide +kernel, by decide +kernel⟩, ⟨by decide, by decide⟩, Or.inl gw_1_220⟩
theorem vb_RS_volumeWord_179 : VB M_RS_volumeWord M_DV_newestWord 179 2 := ⟨by decide +kernel, gw_1_227, gw_1_2, ⟨by decide +kernel, by decide +kernel, by decide +kernel⟩, ⟨by decide, by decide⟩, Or.inl gw_1_224⟩
theorem vb_RS_volumeWord_59 : VB M_RS_volumeWord M_IM_holds 59 1 := ⟨by decide +kernel, gw_1_207, gw_1_3, ⟨by decide +kernel, by decide +kernel, by decide +kernel⟩, ⟨by decide, by decide⟩, Or.inl gw_1_204⟩
theorem vb_RW_addGroup_36 : VB M_RW_addGroup M_RW_add 36 4 := ⟨by decide +kernel, gw_2_39, gw_1_4, ⟨by decide +kernel, by decide +kernel, by decide +kernel⟩, ⟨by decide, by decide⟩, Or.inl gw_2_36⟩
theorem vb_RW_addGroup_40 : VB M_RW_addGroup M_IM_word 40 2 := ⟨by decide +kernel, gw_1_223, gw_1_3, ⟨by decide +kernel, by decide +kernel, by decide +kernel⟩, ⟨by decide, by decide⟩, Or.inl gw_2_34⟩
theorem vb_RW_add_44 : VB M_RW_add M_RS_mix 44 2 := ⟨by decide +kernel, gw_2_42, gw_1_1, ⟨by decide +kernel, by decide +kernel, by decide +kernel⟩, ⟨by decide, by decide⟩, Or.inr ⟨_, nw_2_40⟩⟩
theorem vb_RW_build_25 : VB M_RW_build M_IM_holds 25 1 := ⟨by decide +kernel, gw_1_207, gw_1_3, ⟨by decide +kernel, by decide +kernel, by decide +kernel⟩, ⟨by decide, by decide⟩, Or.inl gw_2_29⟩
theorem vb_RW_build_31 : VB M_RW_build M_RW_addGroup 31 3 := ⟨by decide +kernel, gw_2_33, gw_1_4, ⟨by decide +kernel, by decide +kernel, by decide +kernel⟩, ⟨by decide, by decide⟩, Or.inl gw_2_30⟩
theorem vb_RW_build_36 : VB M_RW_build M_RW_add 36 4 := ⟨by decide +kernel, gw_2_39, gw_1_4, ⟨by decide +kernel, by decide +kernel, by decide +kernel⟩, ⟨by decide, by decide⟩, Or.inl gw_2_36⟩
