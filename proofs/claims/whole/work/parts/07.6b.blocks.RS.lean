set_option maxRecDepth 100000 in
set_option maxHeartbeats 4000000 in
theorem k_RS_checkpoint_98 {l : Launch} {E : xE} {x1 : Int32} {h : xh} {Q : Option Int32 → xh → Prop}
    (e1 : Q (some (h 3 2)) h) : WP l E M_RS_checkpoint 98 [(0, .inr 0), (1, .inl (x1))] [] h Q := by
  refine wp_aload_n d_RS_checkpoint_98 rfl ?_
  refine wp_getR d_RS_checkpoint_99 fl_RS_23 rfl rfl ?_
  refine wp_callV (as := []) (rest := []) (Q' := fun r h' => WP l E M_RS_checkpoint 105 [(0, .inr 0), (1, .inl (x1))] (rpush r []) h' _) d_RS_checkpoint_102 vb_RS_checkpoint_63 ⟨gw_1_209, gw_1_210⟩ rfl rfl rfl rfl (Nat.le_of_ble_eq_true rfl) rfl (Nat.le_of_ble_eq_true rfl) ?_ (fun r h' z => z)
  show WP l E M_IM_size 0 [(0, .inr 3)] [] h _
  refine wp_aload_n d_IM_size_0 rfl ?_
  refine wp_getI d_IM_size_1 fl_IM_19 rfl rfl ?_
  refine wp_ireturn d_IM_size_4 rfl ?_
  show WP l E M_RS_checkpoint 105 [(0, .inr 0), (1, .inl (x1))] [.inl (h 3 2)] h _
  refine wp_ireturn d_RS_checkpoint_105 rfl ?_
  exact e1
set_option maxRecDepth 100000 in
set_option maxHeartbeats 4000000 in
theorem k_RS_checkpoint_80 {l : Launch} {E : xE} {x1 : Int32} {h : xh} {Q : Option Int32 → xh → Prop}
    (e1 : WP l E M_RS_checkpoint 19 [(0, .inr 0), (1, .inl (x1 + nI 1))] [] h Q) : WP l E M_RS_checkpoint 80 [(0, .inr 0), (1, .inl (x1))] [] h Q := by
  refine wp_iinc (v := x1 + nI 1) (ls' := [(0, .inr 0), (1, .inl (x1 + nI 1))]) d_RS_checkpoint_80 rfl (c_inc_1 _) (by decide) rfl ?_
  refine wp_goto (tgt := 19) d_RS_checkpoint_83 (by decide) ?_
  exact e1
set_option maxRecDepth 100000 in
set_option maxHeartbeats 4000000 in
theorem k_RS_recover_0 {l : Launch} {E : xE} {h : xh} {Q : Option Int32 → xh → Prop}
    (e1 : (h 0 6) ≠ 0 → Q (some ((-1))) h)
    (e2 : (h 0 6) = 0 → (h 6 2) = 0 → MC l E M_LR_scan [.inr 5, .inr 1] h (fun r h' => WP l E M_RS_recover 30 [(0, .inr 0)] (rpush r []) h' Q))
    (e3 : (h 0 6) = 0 → ¬ (h 6 2) = 0 → Q (some ((-1))) h) : MC l E M_RS_recover [.inr 0] h Q := by
  refine wp_aload_n d_RS_recover_0 rfl ?_
  refine wp_getI d_RS_recover_1 fl_RS_127 rfl rfl ?_
  refine wp_if_ne (tgt := 17) d_RS_recover_4 (by decide) (fun c1 => ?_) (fun c1 => ?_)
  · refine wp_iconst (v := (-1)) d_RS_recover_17 c_iconst_m1 ?_
    refine wp_ireturn d_RS_recover_18 rfl ?_
    exact e1 c1
  · refine wp_aload_n d_RS_recover_7 rfl ?_
    refine wp_getR d_RS_recover_8 fl_RS_43 rfl rfl ?_
    refine wp_callV (as := []) (rest := []) (Q' := fun r h' => WP l E M_RS_recover 14 [(0, .inr 0)] (rpush r []) h' _) d_RS_recover_11 vb_RS_recover_131 ⟨gw_1_195, gw_1_196⟩ rfl rfl rfl rfl (Nat.le_of_ble_eq_true rfl) rfl (Nat.le_of_ble_eq_true rfl) ?_ (fun r h' z => z)
    show WP l E M_JB_isRunning 0 [(0, .inr 6)] [] h _
    refine wp_aload_n d_JB_isRunning_0 rfl ?_
    refine wp_getI d_JB_isRunning_1 fl_JB_18 rfl rfl ?_
    refine wp_if_eq (tgt := 11) d_JB_isRunning_4 (by decide) (fun c2 => ?_) (fun c2 => ?_)
    · refine wp_iconst (v := nI 0) d_JB_isRunning_11 c_iconst_0 ?_
      refine wp_zreturn d_JB_isRunning_12 rfl (by decide) ?_
      show WP l E M_RS_recover 14 [(0, .inr 0)] [.inl (nI 0)] h _
      refine wp_if_eq (tgt := 19) d_RS_recover_14 (by decide) (fun _ => ?_) (fun z => absurd z (by decide +kernel))
      refine wp_aload_n d_RS_recover_19 rfl ?_
      refine wp_getR d_RS_recover_20 fl_RS_36 rfl rfl ?_
      refine wp_aload_n d_RS_recover_23 rfl ?_
      refine wp_getR d_RS_recover_24 fl_RS_12 rfl rfl ?_
      refine wp_callV (as := [.inr 1]) (rest := []) (Q' := fun r h' => WP l E M_RS_recover 30 [(0, .inr 0)] (rpush r []) h' Q) d_RS_recover_27 vb_RS_recover_134 ⟨gw_2_85, gw_2_86⟩ rfl rfl rfl rfl (Nat.le_of_ble_eq_true rfl) rfl (Nat.le_of_ble_eq_true rfl) ?_ (fun r h' z => z)
      exact e2 c1 c2
    · refine wp_iconst (v := nI 1) d_JB_isRunning_7 c_iconst_1 ?_
      refine wp_goto (tgt := 12) d_JB_isRunning_8 (by decide) ?_
      refine wp_zreturn d_JB_isRunning_12 rfl (by decide) ?_
      show WP l E M_RS_recover 14 [(0, .inr 0)] [.inl (nI 1)] h _
      refine wp_if_eq (tgt := 19) d_RS_recover_14 (by decide) (fun z => absurd z (by decide +kernel)) (fun _ => ?_)
      refine wp_iconst (v := (-1)) d_RS_recover_17 c_iconst_m1 ?_
      refine wp_ireturn d_RS_recover_18 rfl ?_
      exact e3 c1 c2
set_option maxRecDepth 100000 in
set_option maxHeartbeats 4000000 in
theorem k_RS_recover_30 {l : Launch} {E : xE} {h : xh} {Q : Option Int32 → xh → Prop}
    (e1 : WP l E M_RS_recover 42 [(0, .inr 0), (1, .inl (nI 0)), (2, .inl (nI 0))] [] (hw (hw (hw h 6 2 (nI 4)) 6 3 (nI 0)) 6 4 (nI 0)) Q) : WP l E M_RS_recover 30 [(0, .inr 0)] [] h Q := by
  refine wp_aload_n d_RS_recover_30 rfl ?_
  refine wp_getR d_RS_recover_31 fl_RS_43 rfl rfl ?_
  refine wp_iconst (v := nI 4) d_RS_recover_34 c_iconst_4 ?_
  refine wp_callV (as := [.inl (nI 4)]) (rest := []) (Q' := fun r h' => WP l E M_RS_recover 38 [(0, .inr 0)] (rpush r []) h' _) d_RS_recover_35 vb_RS_recover_104 ⟨gw_2_49, gw_2_50⟩ rfl rfl rfl rfl (Nat.le_of_ble_eq_true rfl) rfl (Nat.le_of_ble_eq_true rfl) ?_ (fun r h' z => z)
  show WP l E M_JB_begin 0 [(0, .inr 6), (1, .inl (nI 4))] [] h _
  refine wp_aload_n d_JB_begin_0 rfl ?_
  refine wp_iload_n d_JB_begin_1 rfl ?_
  refine wp_putI d_JB_begin_2 fm_JB_18 rfl rfl ?_
  refine wp_aload_n d_JB_begin_5 rfl ?_
  refine wp_iconst (v := nI 0) d_JB_begin_6 c_iconst_0 ?_
  refine wp_putI d_JB_begin_7 fm_JB_22 rfl rfl ?_
  refine wp_aload_n d_JB_begin_10 rfl ?_
  refine wp_iconst (v := nI 0) d_JB_begin_11 c_iconst_0 ?_
  refine wp_putI d_JB_begin_12 fm_JB_25 rfl rfl ?_
  refine wp_return d_JB_begin_15 rfl ?_
  show WP l E M_RS_recover 38 [(0, .inr 0)] [] (hw (hw (hw h 6 2 (nI 4)) 6 3 (nI 0)) 6 4 (nI 0)) _
  refine wp_iconst (v := nI 0) d_RS_recover_38 c_iconst_0 ?_
  refine wp_istore_n (ls' := [(0, .inr 0), (1, .inl (nI 0))]) d_RS_recover_39 (by decide) rfl ?_
  refine wp_iconst (v := nI 0) d_RS_recover_40 c_iconst_0 ?_
  refine wp_istore_n (ls' := [(0, .inr 0), (1, .inl (nI 0)), (2, .inl (nI 0))]) d_RS_recover_41 (by decide) rfl ?_
  exact e1
set_option maxRecDepth 100000 in
set_option maxHeartbeats 4000000 in
theorem k_RS_recover_42 {l : Launch} {E : xE} {x1 x2 : Int32} {h : xh} {Q : Option Int32 → xh → Prop}
    (e1 : (h 5 9) ≤ x2 → MC l E M_RS_planHead [.inr 0, .inl (h 5 7), .inl (irem ((h 5 6) + (h 5 8)) (nI 24))] h (fun r h' => WP l E M_RS_recover 142 [(0, .inr 0), (1, .inl (x1)), (2, .inl (x2))] (rpush r []) h' Q))
    (e2 : ¬ (h 5 9) ≤ x2 → MC l E M_LR_isToReplay [.inr 5, .inl (x2)] h (fun r h' => WP l E M_RS_recover 61 [(0, .inr 0), (1, .inl (x1)), (2, .inl (x2))] (rpush r []) h' Q)) : WP l E M_RS_recover 42 [(0, .inr 0), (1, .inl (x1)), (2, .inl (x2))] [] h Q := by
  refine wp_iload_n d_RS_recover_42 rfl ?_
  refine wp_aload_n d_RS_recover_43 rfl ?_
  refine wp_getR d_RS_recover_44 fl_RS_36 rfl rfl ?_
  refine wp_callV (as := []) (rest := [.inl (x2)]) (Q' := fun r h' => WP l E M_RS_recover 50 [(0, .inr 0), (1, .inl (x1)), (2, .inl (x2))] (rpush r [.inl (x2)]) h' _) d_RS_recover_47 vb_RS_recover_138 ⟨gw_2_132, gw_2_133⟩ rfl rfl rfl rfl (Nat.le_of_ble_eq_true rfl) rfl (Nat.le_of_ble_eq_true rfl) ?_ (fun r h' z => z)
  show WP l E M_LR_size 0 [(0, .inr 5)] [] h _
  refine wp_aload_n d_LR_size_0 rfl ?_
  refine wp_getI d_LR_size_1 fl_LR_41 rfl rfl ?_
  refine wp_ireturn d_LR_size_4 rfl ?_
  show WP l E M_RS_recover 50 [(0, .inr 0), (1, .inl (x1)), (2, .inl (x2))] [.inl (h 5 9), .inl (x2)] h _
  refine wp_ic_ge (tgt := 124) d_RS_recover_50 (by decide) (fun c1 => ?_) (fun c1 => ?_)
  · refine wp_aload_n d_RS_recover_124 rfl ?_
    refine wp_aload_n d_RS_recover_125 rfl ?_
    refine wp_getR d_RS_recover_126 fl_RS_36 rfl rfl ?_
    refine wp_callV (as := []) (rest := [.inr 0]) (Q' := fun r h' => WP l E M_RS_recover 132 [(0, .inr 0), (1, .inl (x1)), (2, .inl (x2))] (rpush r [.inr 0]) h' _) d_RS_recover_129 vb_RS_recover_147 ⟨gw_2_148, gw_2_149⟩ rfl rfl rfl rfl (Nat.le_of_ble_eq_true rfl) rfl (Nat.le_of_ble_eq_true rfl) ?_ (fun r h' z => z)
    show WP l E M_LR_numberBehind 0 [(0, .inr 5)] [] h _
    refine wp_aload_n d_LR_numberBehind_0 rfl ?_
    refine wp_getI d_LR_numberBehind_1 fl_LR_35 rfl rfl ?_
    refine wp_ireturn d_LR_numberBehind_4 rfl ?_
    show WP l E M_RS_recover 132 [(0, .inr 0), (1, .inl (x1)), (2, .inl (x2))] [.inl (h 5 7), .inr 0] h _
    refine wp_aload_n d_RS_recover_132 rfl ?_
    refine wp_getR d_RS_recover_133 fl_RS_36 rfl rfl ?_
    refine wp_callV (as := []) (rest := [.inl (h 5 7), .inr 0]) (Q' := fun r h' => WP l E M_RS_recover 139 [(0, .inr 0), (1, .inl (x1)), (2, .inl (x2))] (rpush r [.inl (h 5 7), .inr 0]) h' _) d_RS_recover_136 vb_RS_recover_150 ⟨gw_2_152, gw_2_153⟩ rfl rfl rfl rfl (Nat.le_of_ble_eq_true rfl) rfl (Nat.le_of_ble_eq_true rfl) ?_ (fun r h' z => z)
    show WP l E M_LR_placeBehind 0 [(0, .inr 5)] [] h _
    refine wp_aload_n d_LR_placeBehind_0 rfl ?_
    refine wp_getI d_LR_placeBehind_1 fl_LR_31 rfl rfl ?_
    refine wp_aload_n d_LR_placeBehind_4 rfl ?_
    refine wp_getI d_LR_placeBehind_5 fl_LR_38 rfl rfl ?_
    refine wp_iadd d_LR_placeBehind_8 ?_
    refine wp_bipush (v := nI 24) d_LR_placeBehind_9 c_bipush_24 ?_
    refine wp_irem d_LR_placeBehind_11 (by decide +kernel) ?_
    refine wp_ireturn d_LR_placeBehind_12 rfl ?_
    show WP l E M_RS_recover 139 [(0, .inr 0), (1, .inl (x1)), (2, .inl (x2))] [.inl (irem ((h 5 6) + (h 5 8)) (nI 24)), .inl (h 5 7), .inr 0] h _
    refine wp_callV (as := [.inl (h 5 7), .inl (irem ((h 5 6) + (h 5 8)) (nI 24))]) (rest := []) (Q' := fun r h' => WP l E M_RS_recover 142 [(0, .inr 0), (1, .inl (x1)), (2, .inl (x2))] (rpush r []) h' Q) d_RS_recover_139 vb_RS_recover_124 ⟨gw_2_77, sw_7⟩ rfl rfl rfl rfl (Nat.le_of_ble_eq_true rfl) rfl (Nat.le_of_ble_eq_true rfl) ?_ (fun r h' z => z)
    exact e1 c1
  · refine wp_aload_n d_RS_recover_53 rfl ?_
    refine wp_getR d_RS_recover_54 fl_RS_36 rfl rfl ?_
    refine wp_iload_n d_RS_recover_57 rfl ?_
    refine wp_callV (as := [.inl (x2)]) (rest := []) (Q' := fun r h' => WP l E M_RS_recover 61 [(0, .inr 0), (1, .inl (x1)), (2, .inl (x2))] (rpush r []) h' Q) d_RS_recover_58 vb_RS_recover_139 ⟨gw_2_136, gw_2_137⟩ rfl rfl rfl rfl (Nat.le_of_ble_eq_true rfl) rfl (Nat.le_of_ble_eq_true rfl) ?_ (fun r h' z => z)
    exact e2 c1
set_option maxRecDepth 100000 in
set_option maxHeartbeats 4000000 in
theorem k_RS_recover_142 {l : Launch} {E : xE} {x1 x2 : Int32} {h : xh} {Q : Option Int32 → xh → Prop}
    (e1 : Q (some (x1)) h) : WP l E M_RS_recover 142 [(0, .inr 0), (1, .inl (x1)), (2, .inl (x2))] [] h Q := by
  refine wp_iload_n d_RS_recover_142 rfl ?_
  refine wp_ireturn d_RS_recover_143 rfl ?_
  exact e1
set_option maxRecDepth 100000 in
set_option maxHeartbeats 4000000 in
theorem k_RS_recover_61 {l : Launch} {E : xE} {v0 x1 x2 : Int32} {h : xh} {Q : Option Int32 → xh → Prop}
    (e1 : v0 = 0 → WP l E M_RS_recover 42 [(0, .inr 0), (1, .inl (x1)), (2, .inl (x2 + nI 1))] [] h Q)
    (o1 : ¬ v0 = 0 → vp_in (x2) 24)
    (e2 : ¬ v0 = 0 → MC l E M_LR_word [.inr 5, .inl (x2), .inl (nI 0)] h (fun r h' => WP l E M_RS_recover 85 [(0, .inr 0), (1, .inl (x1)), (2, .inl (x2))] (rpush r [.inl (h 19 ((x2).toNatClampNeg)), .inr 6]) h' Q)) : WP l E M_RS_recover 61 [(0, .inr 0), (1, .inl (x1)), (2, .inl (x2))] [.inl (v0)] h Q := by
  refine wp_if_eq (tgt := 118) d_RS_recover_61 (by decide) (fun c1 => ?_) (fun c1 => ?_)
  · refine wp_iinc (v := x2 + nI 1) (ls' := [(0, .inr 0), (1, .inl (x1)), (2, .inl (x2 + nI 1))]) d_RS_recover_118 rfl (c_inc_1 _) (by decide) rfl ?_
    refine wp_goto (tgt := 42) d_RS_recover_121 (by decide) ?_
    exact e1 c1
  · refine wp_aload_n d_RS_recover_64 rfl ?_
    refine wp_getR d_RS_recover_65 fl_RS_43 rfl rfl ?_
    refine wp_aload_n d_RS_recover_68 rfl ?_
    refine wp_getR d_RS_recover_69 fl_RS_36 rfl rfl ?_
    refine wp_iload_n d_RS_recover_72 rfl ?_
    refine wp_callV (as := [.inl (x2)]) (rest := [.inr 6]) (Q' := fun r h' => WP l E M_RS_recover 76 [(0, .inr 0), (1, .inl (x1)), (2, .inl (x2))] (rpush r [.inr 6]) h' _) d_RS_recover_73 vb_RS_recover_142 ⟨gw_2_140, gw_2_141⟩ rfl rfl rfl rfl (Nat.le_of_ble_eq_true rfl) rfl (Nat.le_of_ble_eq_true rfl) ?_ (fun r h' z => z)
    show WP l E M_LR_block 0 [(0, .inr 5), (1, .inl (x2))] [] h _
    refine wp_aload_n d_LR_block_0 rfl ?_
    refine wp_getR d_LR_block_1 fl_LR_18 rfl rfl ?_
    refine wp_iload_n d_LR_block_4 rfl ?_
    refine wp_iaload d_LR_block_5 rfl (o1 c1) ?_
    refine wp_ireturn d_LR_block_6 rfl ?_
    show WP l E M_RS_recover 76 [(0, .inr 0), (1, .inl (x1)), (2, .inl (x2))] [.inl (h 19 ((x2).toNatClampNeg)), .inr 6] h _
    refine wp_aload_n d_RS_recover_76 rfl ?_
    refine wp_getR d_RS_recover_77 fl_RS_36 rfl rfl ?_
    refine wp_iload_n d_RS_recover_80 rfl ?_
    refine wp_iconst (v := nI 0) d_RS_recover_81 c_iconst_0 ?_
    refine wp_callV (as := [.inl (x2), .inl (nI 0)]) (rest := [.inl (h 19 ((x2).toNatClampNeg)), .inr 6]) (Q' := fun r h' => WP l E M_RS_recover 85 [(0, .inr 0), (1, .inl (x1)), (2, .inl (x2))] (rpush r [.inl (h 19 ((x2).toNatClampNeg)), .inr 6]) h' Q) d_RS_recover_82 vb_RS_recover_146 ⟨gw_2_144, gw_2_145⟩ rfl rfl rfl rfl (Nat.le_of_ble_eq_true rfl) rfl (Nat.le_of_ble_eq_true rfl) ?_ (fun r h' z => z)
    exact e2 c1
set_option maxRecDepth 100000 in
set_option maxHeartbeats 4000000 in
theorem k_RS_recover_85 {l : Launch} {E : xE} {s1 v0 x1 x2 : Int32} {h : xh} {Q : Option Int32 → xh → Prop}
    (e1 : MC l E M_LR_word [.inr 5, .inl (x2), .inl (nI 1)] h (fun r h' => WP l E M_RS_recover 94 [(0, .inr 0), (1, .inl (x1)), (2, .inl (x2))] (rpush r [.inl (v0), .inl (s1), .inr 6]) h' Q)) : WP l E M_RS_recover 85 [(0, .inr 0), (1, .inl (x1)), (2, .inl (x2))] [.inl (v0), .inl (s1), .inr 6] h Q := by
  refine wp_aload_n d_RS_recover_85 rfl ?_
  refine wp_getR d_RS_recover_86 fl_RS_36 rfl rfl ?_
  refine wp_iload_n d_RS_recover_89 rfl ?_
  refine wp_iconst (v := nI 1) d_RS_recover_90 c_iconst_1 ?_
  refine wp_callV (as := [.inl (x2), .inl (nI 1)]) (rest := [.inl (v0), .inl (s1), .inr 6]) (Q' := fun r h' => WP l E M_RS_recover 94 [(0, .inr 0), (1, .inl (x1)), (2, .inl (x2))] (rpush r [.inl (v0), .inl (s1), .inr 6]) h' Q) d_RS_recover_91 vb_RS_recover_146 ⟨gw_2_144, gw_2_145⟩ rfl rfl rfl rfl (Nat.le_of_ble_eq_true rfl) rfl (Nat.le_of_ble_eq_true rfl) ?_ (fun r h' z => z)
  exact e1
set_option maxRecDepth 100000 in
set_option maxHeartbeats 4000000 in
theorem k_RS_recover_94 {l : Launch} {E : xE} {s1 s2 v0 x1 x2 : Int32} {h : xh} {Q : Option Int32 → xh → Prop}
    (e1 : MC l E M_LR_word [.inr 5, .inl (x2), .inl (nI 2)] h (fun r h' => WP l E M_RS_recover 103 [(0, .inr 0), (1, .inl (x1)), (2, .inl (x2))] (rpush r [.inl (v0), .inl (s2), .inl (s1), .inr 6]) h' Q)) : WP l E M_RS_recover 94 [(0, .inr 0), (1, .inl (x1)), (2, .inl (x2))] [.inl (v0), .inl (s2), .inl (s1), .inr 6] h Q := by
  refine wp_aload_n d_RS_recover_94 rfl ?_
  refine wp_getR d_RS_recover_95 fl_RS_36 rfl rfl ?_
  refine wp_iload_n d_RS_recover_98 rfl ?_
  refine wp_iconst (v := nI 2) d_RS_recover_99 c_iconst_2 ?_
  refine wp_callV (as := [.inl (x2), .inl (nI 2)]) (rest := [.inl (v0), .inl (s2), .inl (s1), .inr 6]) (Q' := fun r h' => WP l E M_RS_recover 103 [(0, .inr 0), (1, .inl (x1)), (2, .inl (x2))] (rpush r [.inl (v0), .inl (s2), .inl (s1), .inr 6]) h' Q) d_RS_recover_100 vb_RS_recover_146 ⟨gw_2_144, gw_2_145⟩ rfl rfl rfl rfl (Nat.le_of_ble_eq_true rfl) rfl (Nat.le_of_ble_eq_true rfl) ?_ (fun r h' z => z)
  exact e1
set_option maxRecDepth 100000 in
set_option maxHeartbeats 4000000 in
theorem k_RS_recover_103 {l : Launch} {E : xE} {s1 s2 s3 v0 x1 x2 : Int32} {h : xh} {Q : Option Int32 → xh → Prop}
    (e1 : MC l E M_LR_word [.inr 5, .inl (x2), .inl (nI 3)] h (fun r h' => WP l E M_RS_recover 112 [(0, .inr 0), (1, .inl (x1)), (2, .inl (x2))] (rpush r [.inl (v0), .inl (s3), .inl (s2), .inl (s1), .inr 6]) h' Q)) : WP l E M_RS_recover 103 [(0, .inr 0), (1, .inl (x1)), (2, .inl (x2))] [.inl (v0), .inl (s3), .inl (s2), .inl (s1), .inr 6] h Q := by
  refine wp_aload_n d_RS_recover_103 rfl ?_
  refine wp_getR d_RS_recover_104 fl_RS_36 rfl rfl ?_
  refine wp_iload_n d_RS_recover_107 rfl ?_
  refine wp_iconst (v := nI 3) d_RS_recover_108 c_iconst_3 ?_
  refine wp_callV (as := [.inl (x2), .inl (nI 3)]) (rest := [.inl (v0), .inl (s3), .inl (s2), .inl (s1), .inr 6]) (Q' := fun r h' => WP l E M_RS_recover 112 [(0, .inr 0), (1, .inl (x1)), (2, .inl (x2))] (rpush r [.inl (v0), .inl (s3), .inl (s2), .inl (s1), .inr 6]) h' Q) d_RS_recover_109 vb_RS_recover_146 ⟨gw_2_144, gw_2_145⟩ rfl rfl rfl rfl (Nat.le_of_ble_eq_true rfl) rfl (Nat.le_of_ble_eq_true rfl) ?_ (fun r h' z => z)
  exact e1
set_option maxRecDepth 100000 in
set_option maxHeartbeats 4000000 in
theorem k_RS_recover_112 {l : Launch} {E : xE} {s1 s2 s3 s4 v0 x1 x2 : Int32} {h : xh} {Q : Option Int32 → xh → Prop}
    (e1 : MC l E M_JB_addWrite [.inr 6, .inl (s1), .inl (s2), .inl (s3), .inl (s4), .inl (v0)] h (fun r h' => WP l E M_RS_recover 115 [(0, .inr 0), (1, .inl (x1)), (2, .inl (x2))] (rpush r []) h' Q)) : WP l E M_RS_recover 112 [(0, .inr 0), (1, .inl (x1)), (2, .inl (x2))] [.inl (v0), .inl (s4), .inl (s3), .inl (s2), .inl (s1), .inr 6] h Q := by
  refine wp_callV (as := [.inl (s1), .inl (s2), .inl (s3), .inl (s4), .inl (v0)]) (rest := []) (Q' := fun r h' => WP l E M_RS_recover 115 [(0, .inr 0), (1, .inl (x1)), (2, .inl (x2))] (rpush r []) h' Q) d_RS_recover_112 vb_RS_recover_117 ⟨gw_2_64, gw_2_65⟩ rfl rfl rfl rfl (Nat.le_of_ble_eq_true rfl) rfl (Nat.le_of_ble_eq_true rfl) ?_ (fun r h' z => z)
  exact e1
set_option maxRecDepth 100000 in
set_option maxHeartbeats 4000000 in
theorem k_RS_recover_115 {l : Launch} {E : xE} {x1 x2 : Int32} {h : xh} {Q : Option Int32 → xh → Prop}
    (e1 : WP l E M_RS_recover 42 [(0, .inr 0), (1, .inl (x1 + nI 1)), (2, .inl (x2 + nI 1))] [] h Q) : WP l E M_RS_recover 115 [(0, .inr 0), (1, .inl (x1)), (2, .inl (x2))] [] h Q := by
  refine wp_iinc (v := x1 + nI 1) (ls' := [(0, .inr 0), (1, .inl (x1 + nI 1)), (2, .inl (x2))]) d_RS_recover_115 rfl (c_inc_1 _) (by decide) rfl ?_
  refine wp_iinc (v := x2 + nI 1) (ls' := [(0, .inr 0), (1, .inl (x1 + nI 1)), (2, .inl (x2 + nI 1))]) d_RS_recover_118 rfl (c_inc_1 _) (by decide) rfl ?_
  refine wp_goto (tgt := 42) d_RS_recover_121 (by decide) ?_
  exact e1
set_option maxRecDepth 100000 in
set_option maxHeartbeats 4000000 in
theorem k_RS_step_0 {l : Launch} {E : xE} {x1 : Int32} {h : xh} {Q : Option Int32 → xh → Prop}
    (e1 : (h 6 2) = 0 → Q (some ((-1))) h)
    (e2 : ¬ (h 6 2) = 0 → x1 < (nI 1) → Q (some ((-1))) h)
    (e3 : ¬ (h 6 2) = 0 → ¬ x1 < (nI 1) → x1 ≤ (nI 10) → WP l E M_RS_step 37 [(0, .inr 0), (1, .inl (x1)), (2, .inl (if ((h 6 3) - (h 6 4)) < (x1) then ((h 6 3) - (h 6 4)) else (x1))), (3, .inl (nI 0))] [] h Q)
    (e4 : ¬ (h 6 2) = 0 → ¬ x1 < (nI 1) → ¬ x1 ≤ (nI 10) → Q (some ((-1))) h) : MC l E M_RS_step [.inr 0, .inl (x1)] h Q := by
  refine wp_aload_n d_RS_step_0 rfl ?_
  refine wp_getR d_RS_step_1 fl_RS_43 rfl rfl ?_
  refine wp_callV (as := []) (rest := []) (Q' := fun r h' => WP l E M_RS_step 7 [(0, .inr 0), (1, .inl (x1))] (rpush r []) h' _) d_RS_step_4 vb_RS_step_131 ⟨gw_1_195, gw_1_196⟩ rfl rfl rfl rfl (Nat.le_of_ble_eq_true rfl) rfl (Nat.le_of_ble_eq_true rfl) ?_ (fun r h' z => z)
  show WP l E M_JB_isRunning 0 [(0, .inr 6)] [] h _
  refine wp_aload_n d_JB_isRunning_0 rfl ?_
  refine wp_getI d_JB_isRunning_1 fl_JB_18 rfl rfl ?_
  refine wp_if_eq (tgt := 11) d_JB_isRunning_4 (by decide) (fun c1 => ?_) (fun c1 => ?_)
  · refine wp_iconst (v := nI 0) d_JB_isRunning_11 c_iconst_0 ?_
    refine wp_zreturn d_JB_isRunning_12 rfl (by decide) ?_
    show WP l E M_RS_step 7 [(0, .inr 0), (1, .inl (x1))] [.inl (nI 0)] h _
    refine wp_if_eq (tgt := 21) d_RS_step_7 (by decide) (fun _ => ?_) (fun z => absurd z (by decide +kernel))
    refine wp_iconst (v := (-1)) d_RS_step_21 c_iconst_m1 ?_
    refine wp_ireturn d_RS_step_22 rfl ?_
    exact e1 c1
  · refine wp_iconst (v := nI 1) d_JB_isRunning_7 c_iconst_1 ?_
    refine wp_goto (tgt := 12) d_JB_isRunning_8 (by decide) ?_
    refine wp_zreturn d_JB_isRunning_12 rfl (by decide) ?_
    show WP l E M_RS_step 7 [(0, .inr 0), (1, .inl (x1))] [.inl (nI 1)] h _
    refine wp_if_eq (tgt := 21) d_RS_step_7 (by decide) (fun z => absurd z (by decide +kernel)) (fun _ => ?_)
    refine wp_iload_n d_RS_step_10 rfl ?_
    refine wp_iconst (v := nI 1) d_RS_step_11 c_iconst_1 ?_
    refine wp_ic_lt (tgt := 21) d_RS_step_12 (by decide) (fun c2 => ?_) (fun c2 => ?_)
    · refine wp_iconst (v := (-1)) d_RS_step_21 c_iconst_m1 ?_
      refine wp_ireturn d_RS_step_22 rfl ?_
      exact e2 c1 c2
    · refine wp_iload_n d_RS_step_15 rfl ?_
      refine wp_bipush (v := nI 10) d_RS_step_16 c_bipush_10 ?_
      refine wp_ic_le (tgt := 23) d_RS_step_18 (by decide) (fun c3 => ?_) (fun c3 => ?_)
      · refine wp_iload_n d_RS_step_23 rfl ?_
        refine wp_aload_n d_RS_step_24 rfl ?_
        refine wp_getR d_RS_step_25 fl_RS_43 rfl rfl ?_
        refine wp_callV (as := []) (rest := [.inl (x1)]) (Q' := fun r h' => WP l E M_RS_step 31 [(0, .inr 0), (1, .inl (x1))] (rpush r [.inl (x1)]) h' _) d_RS_step_28 vb_RS_step_153 ⟨gw_2_160, gw_2_161⟩ rfl rfl rfl rfl (Nat.le_of_ble_eq_true rfl) rfl (Nat.le_of_ble_eq_true rfl) ?_ (fun r h' z => z)
        show WP l E M_JB_remaining 0 [(0, .inr 6)] [] h _
        refine wp_aload_n d_JB_remaining_0 rfl ?_
        refine wp_getI d_JB_remaining_1 fl_JB_22 rfl rfl ?_
        refine wp_aload_n d_JB_remaining_4 rfl ?_
        refine wp_getI d_JB_remaining_5 fl_JB_25 rfl rfl ?_
        refine wp_isub d_JB_remaining_8 ?_
        refine wp_ireturn d_JB_remaining_9 rfl ?_
        show WP l E M_RS_step 31 [(0, .inr 0), (1, .inl (x1))] [.inl ((h 6 3) - (h 6 4)), .inl (x1)] h _
        refine wp_min d_RS_step_31 gw_2_163 gw_2_164 gw_1_9 gw_2_165 (Nat.le_of_ble_eq_true rfl) (Nat.le_of_ble_eq_true rfl) ?_
        refine wp_istore_n (ls' := [(0, .inr 0), (1, .inl (x1)), (2, .inl (if ((h 6 3) - (h 6 4)) < (x1) then ((h 6 3) - (h 6 4)) else (x1)))]) d_RS_step_34 (by decide) rfl ?_
        refine wp_iconst (v := nI 0) d_RS_step_35 c_iconst_0 ?_
        refine wp_istore_n (ls' := [(0, .inr 0), (1, .inl (x1)), (2, .inl (if ((h 6 3) - (h 6 4)) < (x1) then ((h 6 3) - (h 6 4)) else (x1))), (3, .inl (nI 0))]) d_RS_step_36 (by decide) rfl ?_
        exact e3 c1 c2 c3
      · refine wp_iconst (v := (-1)) d_RS_step_21 c_iconst_m1 ?_
        refine wp_ireturn d_RS_step_22 rfl ?_
        exact e4 c1 c2 c3
set_option maxRecDepth 100000 in
set_option maxHeartbeats 4000000 in
theorem k_RS_step_37 {l : Launch} {E : xE} {x1 x2 x3 : Int32} {h : xh} {Q : Option Int32 → xh → Prop}
    (e1 : x2 ≤ x3 → ((h 6 3) - (h 6 4)) ≠ 0 → Q (some (x2)) h)
    (e2 : x2 ≤ x3 → ((h 6 3) - (h 6 4)) = 0 → MC l E M_RS_finishJob [.inr 0] h (fun r h' => WP l E M_RS_step 73 [(0, .inr 0), (1, .inl (x1)), (2, .inl (x2)), (3, .inl (x3))] (rpush r []) h' Q))
    (e3 : ¬ x2 ≤ x3 → MC l E M_JB_doNext [.inr 6, .inr 1] h (fun r h' => WP l E M_RS_step 53 [(0, .inr 0), (1, .inl (x1)), (2, .inl (x2)), (3, .inl (x3))] (rpush r []) h' Q)) : WP l E M_RS_step 37 [(0, .inr 0), (1, .inl (x1)), (2, .inl (x2)), (3, .inl (x3))] [] h Q := by
  refine wp_iload_n d_RS_step_37 rfl ?_
  refine wp_iload_n d_RS_step_38 rfl ?_
  refine wp_ic_ge (tgt := 59) d_RS_step_39 (by decide) (fun c1 => ?_) (fun c1 => ?_)
  · refine wp_aload_n d_RS_step_59 rfl ?_
    refine wp_getR d_RS_step_60 fl_RS_43 rfl rfl ?_
    refine wp_callV (as := []) (rest := []) (Q' := fun r h' => WP l E M_RS_step 66 [(0, .inr 0), (1, .inl (x1)), (2, .inl (x2)), (3, .inl (x3))] (rpush r []) h' _) d_RS_step_63 vb_RS_step_153 ⟨gw_2_160, gw_2_161⟩ rfl rfl rfl rfl (Nat.le_of_ble_eq_true rfl) rfl (Nat.le_of_ble_eq_true rfl) ?_ (fun r h' z => z)
    show WP l E M_JB_remaining 0 [(0, .inr 6)] [] h _
    refine wp_aload_n d_JB_remaining_0 rfl ?_
    refine wp_getI d_JB_remaining_1 fl_JB_22 rfl rfl ?_
    refine wp_aload_n d_JB_remaining_4 rfl ?_
    refine wp_getI d_JB_remaining_5 fl_JB_25 rfl rfl ?_
    refine wp_isub d_JB_remaining_8 ?_
    refine wp_ireturn d_JB_remaining_9 rfl ?_
    show WP l E M_RS_step 66 [(0, .inr 0), (1, .inl (x1)), (2, .inl (x2)), (3, .inl (x3))] [.inl ((h 6 3) - (h 6 4))] h _
    refine wp_if_ne (tgt := 73) d_RS_step_66 (by decide) (fun c2 => ?_) (fun c2 => ?_)
    · refine wp_iload_n d_RS_step_73 rfl ?_
      refine wp_ireturn d_RS_step_74 rfl ?_
      exact e1 c1 c2
    · refine wp_aload_n d_RS_step_69 rfl ?_
      refine wp_callV (as := []) (rest := []) (Q' := fun r h' => WP l E M_RS_step 73 [(0, .inr 0), (1, .inl (x1)), (2, .inl (x2)), (3, .inl (x3))] (rpush r []) h' Q) d_RS_step_70 vb_RS_step_164 ⟨gw_2_187, sw_18⟩ rfl rfl rfl rfl (Nat.le_of_ble_eq_true rfl) rfl (Nat.le_of_ble_eq_true rfl) ?_ (fun r h' z => z)
      exact e2 c1 c2
  · refine wp_aload_n d_RS_step_42 rfl ?_
    refine wp_getR d_RS_step_43 fl_RS_43 rfl rfl ?_
    refine wp_aload_n d_RS_step_46 rfl ?_
    refine wp_getR d_RS_step_47 fl_RS_12 rfl rfl ?_
    refine wp_callV (as := [.inr 1]) (rest := []) (Q' := fun r h' => WP l E M_RS_step 53 [(0, .inr 0), (1, .inl (x1)), (2, .inl (x2)), (3, .inl (x3))] (rpush r []) h' Q) d_RS_step_50 vb_RS_step_161 ⟨gw_2_167, gw_2_168⟩ rfl rfl rfl rfl (Nat.le_of_ble_eq_true rfl) rfl (Nat.le_of_ble_eq_true rfl) ?_ (fun r h' z => z)
    exact e3 c1
set_option maxRecDepth 100000 in
set_option maxHeartbeats 4000000 in
theorem k_RS_step_73 {l : Launch} {E : xE} {x1 x2 x3 : Int32} {h : xh} {Q : Option Int32 → xh → Prop}
    (e1 : Q (some (x2)) h) : WP l E M_RS_step 73 [(0, .inr 0), (1, .inl (x1)), (2, .inl (x2)), (3, .inl (x3))] [] h Q := by
  refine wp_iload_n d_RS_step_73 rfl ?_
  refine wp_ireturn d_RS_step_74 rfl ?_
  exact e1
set_option maxRecDepth 100000 in
set_option maxHeartbeats 4000000 in
theorem k_RS_step_53 {l : Launch} {E : xE} {x1 x2 x3 : Int32} {h : xh} {Q : Option Int32 → xh → Prop}
    (e1 : WP l E M_RS_step 37 [(0, .inr 0), (1, .inl (x1)), (2, .inl (x2)), (3, .inl (x3 + nI 1))] [] h Q) : WP l E M_RS_step 53 [(0, .inr 0), (1, .inl (x1)), (2, .inl (x2)), (3, .inl (x3))] [] h Q := by
  refine wp_iinc (v := x3 + nI 1) (ls' := [(0, .inr 0), (1, .inl (x1)), (2, .inl (x2)), (3, .inl (x3 + nI 1))]) d_RS_step_53 rfl (c_inc_1 _) (by decide) rfl ?_
  refine wp_goto (tgt := 37) d_RS_step_56 (by decide) ?_
  exact e1
set_option maxRecDepth 100000 in
set_option maxHeartbeats 4000000 in
theorem k_RS_crash_0 {l : Launch} {E : xE} {x1 x2 : Int32} {h : xh} {Q : Option Int32 → xh → Prop}
    (e1 : MC l E M_DV_breakDown [.inr 1, .inl (x1), .inl (x2)] (hw (hw (hw (hw h 0 6 (nI 0)) 6 2 (nI 0)) 6 3 (nI 0)) 6 4 (nI 0)) (fun r h' => WP l E M_RS_crash 21 [(0, .inr 0), (1, .inl (x1)), (2, .inl (x2))] (rpush r []) h' Q)) : MC l E M_RS_crash [.inr 0, .inl (x1), .inl (x2)] h Q := by
  refine wp_aload_n d_RS_crash_0 rfl ?_
  refine wp_iconst (v := nI 0) d_RS_crash_1 c_iconst_0 ?_
  refine wp_putZ d_RS_crash_2 fm_RS_127 rfl rfl (by decide) ?_
  refine wp_aload_n d_RS_crash_5 rfl ?_
  refine wp_getR d_RS_crash_6 fl_RS_43 rfl rfl ?_
  refine wp_callV (as := []) (rest := []) (Q' := fun r h' => WP l E M_RS_crash 12 [(0, .inr 0), (1, .inl (x1)), (2, .inl (x2))] (rpush r []) h' _) d_RS_crash_9 vb_RS_crash_167 ⟨gw_2_194, gw_2_195⟩ rfl rfl rfl rfl (Nat.le_of_ble_eq_true rfl) rfl (Nat.le_of_ble_eq_true rfl) ?_ (fun r h' z => z)
  show WP l E M_JB_end 0 [(0, .inr 6)] [] (hw h 0 6 (nI 0)) _
  refine wp_aload_n d_JB_end_0 rfl ?_
  refine wp_iconst (v := nI 0) d_JB_end_1 c_iconst_0 ?_
  refine wp_callV (as := [.inl (nI 0)]) (rest := []) (Q' := fun r h' => WP l E M_JB_end 5 [(0, .inr 6)] (rpush r []) h' _) d_JB_end_2 vb_JB_end_28 ⟨gw_2_49, gw_2_50⟩ rfl rfl rfl rfl (Nat.le_of_ble_eq_true rfl) rfl (Nat.le_of_ble_eq_true rfl) ?_ (fun r h' z => z)
  show WP l E M_JB_begin 0 [(0, .inr 6), (1, .inl (nI 0))] [] (hw h 0 6 (nI 0)) _
  refine wp_aload_n d_JB_begin_0 rfl ?_
  refine wp_iload_n d_JB_begin_1 rfl ?_
  refine wp_putI d_JB_begin_2 fm_JB_18 rfl rfl ?_
  refine wp_aload_n d_JB_begin_5 rfl ?_
  refine wp_iconst (v := nI 0) d_JB_begin_6 c_iconst_0 ?_
  refine wp_putI d_JB_begin_7 fm_JB_22 rfl rfl ?_
  refine wp_aload_n d_JB_begin_10 rfl ?_
  refine wp_iconst (v := nI 0) d_JB_begin_11 c_iconst_0 ?_
  refine wp_putI d_JB_begin_12 fm_JB_25 rfl rfl ?_
  refine wp_return d_JB_begin_15 rfl ?_
  show WP l E M_JB_end 5 [(0, .inr 6)] [] (hw (hw (hw (hw h 0 6 (nI 0)) 6 2 (nI 0)) 6 3 (nI 0)) 6 4 (nI 0)) _
  refine wp_return d_JB_end_5 rfl ?_
  show WP l E M_RS_crash 12 [(0, .inr 0), (1, .inl (x1)), (2, .inl (x2))] [] (hw (hw (hw (hw h 0 6 (nI 0)) 6 2 (nI 0)) 6 3 (nI 0)) 6 4 (nI 0)) _
  refine wp_aload_n d_RS_crash_12 rfl ?_
  refine wp_getR d_RS_crash_13 fl_RS_12 rfl rfl ?_
  refine wp_iload_n d_RS_crash_16 rfl ?_
  refine wp_iload_n d_RS_crash_17 rfl ?_
  refine wp_callV (as := [.inl (x1), .inl (x2)]) (rest := []) (Q' := fun r h' => WP l E M_RS_crash 21 [(0, .inr 0), (1, .inl (x1)), (2, .inl (x2))] (rpush r []) h' Q) d_RS_crash_18 vb_RS_crash_170 ⟨gw_2_217, gw_2_218⟩ rfl rfl rfl rfl (Nat.le_of_ble_eq_true rfl) rfl (Nat.le_of_ble_eq_true rfl) ?_ (fun r h' z => z)
  exact e1
set_option maxRecDepth 100000 in
set_option maxHeartbeats 4000000 in
theorem k_RS_crash_21 {l : Launch} {E : xE} {v0 x1 x2 : Int32} {h : xh} {Q : Option Int32 → xh → Prop}
    (e1 : Q (some (v0)) h) : WP l E M_RS_crash 21 [(0, .inr 0), (1, .inl (x1)), (2, .inl (x2))] [.inl (v0)] h Q := by
  refine wp_ireturn d_RS_crash_21 rfl ?_
  exact e1
set_option maxRecDepth 100000 in
set_option maxHeartbeats 4000000 in
theorem k_RS_get_0 {l : Launch} {E : xE} {x1 x2 : Int32} {h : xh} {Q : Option Int32 → xh → Prop}
    (e1 : (h 0 6) = 0 → Q (some (nI 0)) h)
    (e2 : ¬ (h 0 6) = 0 → x1 < 0 → Q (some (nI 0)) h)
    (e3 : ¬ (h 0 6) = 0 → ¬ x1 < 0 → (nI 16) ≤ x1 → Q (some (nI 0)) h)
    (e4 : ¬ (h 0 6) = 0 → ¬ x1 < 0 → ¬ (nI 16) ≤ x1 → x2 < 0 → Q (some (nI 0)) h)
    (e5 : ¬ (h 0 6) = 0 → ¬ x1 < 0 → ¬ (nI 16) ≤ x1 → ¬ x2 < 0 → (nI 4) ≤ x2 → Q (some (nI 0)) h)
    (e6 : ¬ (h 0 6) = 0 → ¬ x1 < 0 → ¬ (nI 16) ≤ x1 → ¬ x2 < 0 → ¬ (nI 4) ≤ x2 → MC l E M_RS_volumeWord [.inr 0, .inl (x1), .inl (x2)] h (fun r h' => WP l E M_RS_get 21 [(0, .inr 0), (1, .inl (x1)), (2, .inl (x2))] (rpush r []) h' Q)) : MC l E M_RS_get [.inr 0, .inl (x1), .inl (x2)] h Q := by
  refine wp_aload_n d_RS_get_0 rfl ?_
  refine wp_getI d_RS_get_1 fl_RS_127 rfl rfl ?_
  refine wp_if_eq (tgt := 24) d_RS_get_4 (by decide) (fun c1 => ?_) (fun c1 => ?_)
  · refine wp_iconst (v := nI 0) d_RS_get_24 c_iconst_0 ?_
    refine wp_ireturn d_RS_get_25 rfl ?_
    exact e1 c1
  · refine wp_iload_n d_RS_get_7 rfl ?_
    refine wp_iload_n d_RS_get_8 rfl ?_
    refine wp_callS (as := [.inl (x1), .inl (x2)]) (rest := []) (Q' := fun r h' => WP l E M_RS_get 12 [(0, .inr 0), (1, .inl (x1)), (2, .inl (x2))] (rpush r []) h' _) d_RS_get_9 vb_RS_get_55 gw_1_199 rfl (Nat.le_of_ble_eq_true rfl) rfl (Nat.le_of_ble_eq_true rfl) ?_ (fun r h' z => z)
    show WP l E M_RS_isBlockWord 0 [(0, .inl (x1)), (1, .inl (x2))] [] h _
    refine wp_iload_n d_RS_isBlockWord_0 rfl ?_
    refine wp_callS (as := [.inl (x1)]) (rest := []) (Q' := fun r h' => WP l E M_RS_isBlockWord 4 [(0, .inl (x1)), (1, .inl (x2))] (rpush r []) h' _) d_RS_isBlockWord_1 vb_RS_isBlockWord_75 gw_1_202 rfl (Nat.le_of_ble_eq_true rfl) rfl (Nat.le_of_ble_eq_true rfl) ?_ (fun r h' z => z)
    show WP l E M_RS_isBlock 0 [(0, .inl (x1))] [] h _
    refine wp_iload_n d_RS_isBlock_0 rfl ?_
    refine wp_if_lt (tgt := 14) d_RS_isBlock_1 (by decide) (fun c2 => ?_) (fun c2 => ?_)
    · refine wp_iconst (v := nI 0) d_RS_isBlock_14 c_iconst_0 ?_
      refine wp_zreturn d_RS_isBlock_15 rfl (by decide) ?_
      show WP l E M_RS_isBlockWord 4 [(0, .inl (x1)), (1, .inl (x2))] [.inl (nI 0)] h _
      refine wp_if_eq (tgt := 20) d_RS_isBlockWord_4 (by decide) (fun _ => ?_) (fun z => absurd z (by decide +kernel))
      refine wp_iconst (v := nI 0) d_RS_isBlockWord_20 c_iconst_0 ?_
      refine wp_zreturn d_RS_isBlockWord_21 rfl (by decide) ?_
      show WP l E M_RS_get 12 [(0, .inr 0), (1, .inl (x1)), (2, .inl (x2))] [.inl (nI 0)] h _
      refine wp_if_eq (tgt := 24) d_RS_get_12 (by decide) (fun _ => ?_) (fun z => absurd z (by decide +kernel))
      refine wp_iconst (v := nI 0) d_RS_get_24 c_iconst_0 ?_
      refine wp_ireturn d_RS_get_25 rfl ?_
      exact e2 c1 c2
    · refine wp_iload_n d_RS_isBlock_4 rfl ?_
      refine wp_bipush (v := nI 16) d_RS_isBlock_5 c_bipush_16 ?_
      refine wp_ic_ge (tgt := 14) d_RS_isBlock_7 (by decide) (fun c3 => ?_) (fun c3 => ?_)
      · refine wp_iconst (v := nI 0) d_RS_isBlock_14 c_iconst_0 ?_
        refine wp_zreturn d_RS_isBlock_15 rfl (by decide) ?_
        show WP l E M_RS_isBlockWord 4 [(0, .inl (x1)), (1, .inl (x2))] [.inl (nI 0)] h _
        refine wp_if_eq (tgt := 20) d_RS_isBlockWord_4 (by decide) (fun _ => ?_) (fun z => absurd z (by decide +kernel))
        refine wp_iconst (v := nI 0) d_RS_isBlockWord_20 c_iconst_0 ?_
        refine wp_zreturn d_RS_isBlockWord_21 rfl (by decide) ?_
        show WP l E M_RS_get 12 [(0, .inr 0), (1, .inl (x1)), (2, .inl (x2))] [.inl (nI 0)] h _
        refine wp_if_eq (tgt := 24) d_RS_get_12 (by decide) (fun _ => ?_) (fun z => absurd z (by decide +kernel))
        refine wp_iconst (v := nI 0) d_RS_get_24 c_iconst_0 ?_
        refine wp_ireturn d_RS_get_25 rfl ?_
        exact e3 c1 c2 c3
      · refine wp_iconst (v := nI 1) d_RS_isBlock_10 c_iconst_1 ?_
        refine wp_goto (tgt := 15) d_RS_isBlock_11 (by decide) ?_
        refine wp_zreturn d_RS_isBlock_15 rfl (by decide) ?_
        show WP l E M_RS_isBlockWord 4 [(0, .inl (x1)), (1, .inl (x2))] [.inl (nI 1)] h _
        refine wp_if_eq (tgt := 20) d_RS_isBlockWord_4 (by decide) (fun z => absurd z (by decide +kernel)) (fun _ => ?_)
        refine wp_iload_n d_RS_isBlockWord_7 rfl ?_
        refine wp_if_lt (tgt := 20) d_RS_isBlockWord_8 (by decide) (fun c4 => ?_) (fun c4 => ?_)
        · refine wp_iconst (v := nI 0) d_RS_isBlockWord_20 c_iconst_0 ?_
          refine wp_zreturn d_RS_isBlockWord_21 rfl (by decide) ?_
          show WP l E M_RS_get 12 [(0, .inr 0), (1, .inl (x1)), (2, .inl (x2))] [.inl (nI 0)] h _
          refine wp_if_eq (tgt := 24) d_RS_get_12 (by decide) (fun _ => ?_) (fun z => absurd z (by decide +kernel))
          refine wp_iconst (v := nI 0) d_RS_get_24 c_iconst_0 ?_
          refine wp_ireturn d_RS_get_25 rfl ?_
          exact e4 c1 c2 c3 c4
        · refine wp_iload_n d_RS_isBlockWord_11 rfl ?_
          refine wp_iconst (v := nI 4) d_RS_isBlockWord_12 c_iconst_4 ?_
          refine wp_ic_ge (tgt := 20) d_RS_isBlockWord_13 (by decide) (fun c5 => ?_) (fun c5 => ?_)
          · refine wp_iconst (v := nI 0) d_RS_isBlockWord_20 c_iconst_0 ?_
            refine wp_zreturn d_RS_isBlockWord_21 rfl (by decide) ?_
            show WP l E M_RS_get 12 [(0, .inr 0), (1, .inl (x1)), (2, .inl (x2))] [.inl (nI 0)] h _
            refine wp_if_eq (tgt := 24) d_RS_get_12 (by decide) (fun _ => ?_) (fun z => absurd z (by decide +kernel))
            refine wp_iconst (v := nI 0) d_RS_get_24 c_iconst_0 ?_
            refine wp_ireturn d_RS_get_25 rfl ?_
            exact e5 c1 c2 c3 c4 c5
          · refine wp_iconst (v := nI 1) d_RS_isBlockWord_16 c_iconst_1 ?_
            refine wp_goto (tgt := 21) d_RS_isBlockWord_17 (by decide) ?_
            refine wp_zreturn d_RS_isBlockWord_21 rfl (by decide) ?_
            show WP l E M_RS_get 12 [(0, .inr 0), (1, .inl (x1)), (2, .inl (x2))] [.inl (nI 1)] h _
            refine wp_if_eq (tgt := 24) d_RS_get_12 (by decide) (fun z => absurd z (by decide +kernel)) (fun _ => ?_)
            refine wp_aload_n d_RS_get_15 rfl ?_
            refine wp_iload_n d_RS_get_16 rfl ?_
            refine wp_iload_n d_RS_get_17 rfl ?_
            refine wp_callV (as := [.inl (x1), .inl (x2)]) (rest := []) (Q' := fun r h' => WP l E M_RS_get 21 [(0, .inr 0), (1, .inl (x1)), (2, .inl (x2))] (rpush r []) h' Q) d_RS_get_18 vb_RS_get_173 ⟨gw_1_218, sw_3⟩ rfl rfl rfl rfl (Nat.le_of_ble_eq_true rfl) rfl (Nat.le_of_ble_eq_true rfl) ?_ (fun r h' z => z)
            exact e6 c1 c2 c3 c4 c5
set_option maxRecDepth 100000 in
set_option maxHeartbeats 4000000 in
theorem k_RS_get_21 {l : Launch} {E : xE} {v0 x1 x2 : Int32} {h : xh} {Q : Option Int32 → xh → Prop}
    (e1 : Q (some (v0)) h) : WP l E M_RS_get 21 [(0, .inr 0), (1, .inl (x1)), (2, .inl (x2))] [.inl (v0)] h Q := by
  refine wp_goto (tgt := 25) d_RS_get_21 (by decide) ?_
  refine wp_ireturn d_RS_get_25 rfl ?_
  exact e1
set_option maxRecDepth 100000 in
set_option maxHeartbeats 4000000 in
theorem k_RS_read_0 {l : Launch} {E : xE} {x1 x2 : Int32} {h : xh} {Q : Option Int32 → xh → Prop}
    (e1 : x1 < 0 → Q (some (nI 0)) h)
    (e2 : ¬ x1 < 0 → (nI 41) ≤ x1 → Q (some (nI 0)) h)
    (e3 : ¬ x1 < 0 → ¬ (nI 41) ≤ x1 → x2 < 0 → Q (some (nI 0)) h)
    (e4 : ¬ x1 < 0 → ¬ (nI 41) ≤ x1 → ¬ x2 < 0 → (nI 4) ≤ x2 → Q (some (nI 0)) h)
    (e5 : ¬ x1 < 0 → ¬ (nI 41) ≤ x1 → ¬ x2 < 0 → ¬ (nI 4) ≤ x2 → MC l E M_DV_newestWord [.inr 1, .inl (x1), .inl (x2)] h (fun r h' => WP l E M_RS_read 17 [(0, .inr 0), (1, .inl (x1)), (2, .inl (x2))] (rpush r []) h' Q)) : MC l E M_RS_read [.inr 0, .inl (x1), .inl (x2)] h Q := by
  refine wp_iload_n d_RS_read_0 rfl ?_
  refine wp_iload_n d_RS_read_1 rfl ?_
  refine wp_callS (as := [.inl (x1), .inl (x2)]) (rest := []) (Q' := fun r h' => WP l E M_RS_read 5 [(0, .inr 0), (1, .inl (x1)), (2, .inl (x2))] (rpush r []) h' _) d_RS_read_2 vb_RS_read_176 gw_2_232 rfl (Nat.le_of_ble_eq_true rfl) rfl (Nat.le_of_ble_eq_true rfl) ?_ (fun r h' z => z)
  show WP l E M_RS_isSectorWord 0 [(0, .inl (x1)), (1, .inl (x2))] [] h _
  refine wp_iload_n d_RS_isSectorWord_0 rfl ?_
  refine wp_if_lt (tgt := 23) d_RS_isSectorWord_1 (by decide) (fun c1 => ?_) (fun c1 => ?_)
  · refine wp_iconst (v := nI 0) d_RS_isSectorWord_23 c_iconst_0 ?_
    refine wp_zreturn d_RS_isSectorWord_24 rfl (by decide) ?_
    show WP l E M_RS_read 5 [(0, .inr 0), (1, .inl (x1)), (2, .inl (x2))] [.inl (nI 0)] h _
    refine wp_if_eq (tgt := 20) d_RS_read_5 (by decide) (fun _ => ?_) (fun z => absurd z (by decide +kernel))
    refine wp_iconst (v := nI 0) d_RS_read_20 c_iconst_0 ?_
    refine wp_ireturn d_RS_read_21 rfl ?_
    exact e1 c1
  · refine wp_iload_n d_RS_isSectorWord_4 rfl ?_
    refine wp_bipush (v := nI 41) d_RS_isSectorWord_5 c_bipush_41 ?_
    refine wp_ic_ge (tgt := 23) d_RS_isSectorWord_7 (by decide) (fun c2 => ?_) (fun c2 => ?_)
    · refine wp_iconst (v := nI 0) d_RS_isSectorWord_23 c_iconst_0 ?_
      refine wp_zreturn d_RS_isSectorWord_24 rfl (by decide) ?_
      show WP l E M_RS_read 5 [(0, .inr 0), (1, .inl (x1)), (2, .inl (x2))] [.inl (nI 0)] h _
      refine wp_if_eq (tgt := 20) d_RS_read_5 (by decide) (fun _ => ?_) (fun z => absurd z (by decide +kernel))
      refine wp_iconst (v := nI 0) d_RS_read_20 c_iconst_0 ?_
      refine wp_ireturn d_RS_read_21 rfl ?_
      exact e2 c1 c2
    · refine wp_iload_n d_RS_isSectorWord_10 rfl ?_
      refine wp_if_lt (tgt := 23) d_RS_isSectorWord_11 (by decide) (fun c3 => ?_) (fun c3 => ?_)
      · refine wp_iconst (v := nI 0) d_RS_isSectorWord_23 c_iconst_0 ?_
        refine wp_zreturn d_RS_isSectorWord_24 rfl (by decide) ?_
        show WP l E M_RS_read 5 [(0, .inr 0), (1, .inl (x1)), (2, .inl (x2))] [.inl (nI 0)] h _
        refine wp_if_eq (tgt := 20) d_RS_read_5 (by decide) (fun _ => ?_) (fun z => absurd z (by decide +kernel))
        refine wp_iconst (v := nI 0) d_RS_read_20 c_iconst_0 ?_
        refine wp_ireturn d_RS_read_21 rfl ?_
        exact e3 c1 c2 c3
      · refine wp_iload_n d_RS_isSectorWord_14 rfl ?_
        refine wp_iconst (v := nI 4) d_RS_isSectorWord_15 c_iconst_4 ?_
        refine wp_ic_ge (tgt := 23) d_RS_isSectorWord_16 (by decide) (fun c4 => ?_) (fun c4 => ?_)
        · refine wp_iconst (v := nI 0) d_RS_isSectorWord_23 c_iconst_0 ?_
          refine wp_zreturn d_RS_isSectorWord_24 rfl (by decide) ?_
          show WP l E M_RS_read 5 [(0, .inr 0), (1, .inl (x1)), (2, .inl (x2))] [.inl (nI 0)] h _
          refine wp_if_eq (tgt := 20) d_RS_read_5 (by decide) (fun _ => ?_) (fun z => absurd z (by decide +kernel))
          refine wp_iconst (v := nI 0) d_RS_read_20 c_iconst_0 ?_
          refine wp_ireturn d_RS_read_21 rfl ?_
          exact e4 c1 c2 c3 c4
        · refine wp_iconst (v := nI 1) d_RS_isSectorWord_19 c_iconst_1 ?_
          refine wp_goto (tgt := 24) d_RS_isSectorWord_20 (by decide) ?_
          refine wp_zreturn d_RS_isSectorWord_24 rfl (by decide) ?_
          show WP l E M_RS_read 5 [(0, .inr 0), (1, .inl (x1)), (2, .inl (x2))] [.inl (nI 1)] h _
          refine wp_if_eq (tgt := 20) d_RS_read_5 (by decide) (fun z => absurd z (by decide +kernel)) (fun _ => ?_)
          refine wp_aload_n d_RS_read_8 rfl ?_
          refine wp_getR d_RS_read_9 fl_RS_12 rfl rfl ?_
          refine wp_iload_n d_RS_read_12 rfl ?_
          refine wp_iload_n d_RS_read_13 rfl ?_
          refine wp_callV (as := [.inl (x1), .inl (x2)]) (rest := []) (Q' := fun r h' => WP l E M_RS_read 17 [(0, .inr 0), (1, .inl (x1)), (2, .inl (x2))] (rpush r []) h' Q) d_RS_read_14 vb_RS_read_179 ⟨gw_1_225, gw_1_226⟩ rfl rfl rfl rfl (Nat.le_of_ble_eq_true rfl) rfl (Nat.le_of_ble_eq_true rfl) ?_ (fun r h' z => z)
          exact e5 c1 c2 c3 c4
set_option maxRecDepth 100000 in
set_option maxHeartbeats 4000000 in
theorem k_RS_read_17 {l : Launch} {E : xE} {v0 x1 x2 : Int32} {h : xh} {Q : Option Int32 → xh → Prop}
    (e1 : Q (some (v0)) h) : WP l E M_RS_read 17 [(0, .inr 0), (1, .inl (x1)), (2, .inl (x2))] [.inl (v0)] h Q := by
  refine wp_goto (tgt := 21) d_RS_read_17 (by decide) ?_
  refine wp_ireturn d_RS_read_21 rfl ?_
  exact e1
set_option maxRecDepth 100000 in
set_option maxHeartbeats 4000000 in
theorem k_RS_stored_0 {l : Launch} {E : xE} {x1 x2 : Int32} {h : xh} {Q : Option Int32 → xh → Prop}
    (e1 : x1 < 0 → Q (some (nI 0)) h)
    (e2 : ¬ x1 < 0 → (nI 41) ≤ x1 → Q (some (nI 0)) h)
    (e3 : ¬ x1 < 0 → ¬ (nI 41) ≤ x1 → x2 < 0 → Q (some (nI 0)) h)
    (e4 : ¬ x1 < 0 → ¬ (nI 41) ≤ x1 → ¬ x2 < 0 → (nI 4) ≤ x2 → Q (some (nI 0)) h)
    (o1 : ¬ x1 < 0 → ¬ (nI 41) ≤ x1 → ¬ x2 < 0 → ¬ (nI 4) ≤ x2 → vp_in (((x1) * (nI 4)) + (x2)) 164)
    (e5 : ¬ x1 < 0 → ¬ (nI 41) ≤ x1 → ¬ x2 < 0 → ¬ (nI 4) ≤ x2 → Q (some (h 8 ((((x1) * (nI 4)) + (x2)).toNatClampNeg))) h) : MC l E M_RS_stored [.inr 0, .inl (x1), .inl (x2)] h Q := by
  refine wp_iload_n d_RS_stored_0 rfl ?_
  refine wp_iload_n d_RS_stored_1 rfl ?_
  refine wp_callS (as := [.inl (x1), .inl (x2)]) (rest := []) (Q' := fun r h' => WP l E M_RS_stored 5 [(0, .inr 0), (1, .inl (x1)), (2, .inl (x2))] (rpush r []) h' _) d_RS_stored_2 vb_RS_stored_176 gw_2_232 rfl (Nat.le_of_ble_eq_true rfl) rfl (Nat.le_of_ble_eq_true rfl) ?_ (fun r h' z => z)
  show WP l E M_RS_isSectorWord 0 [(0, .inl (x1)), (1, .inl (x2))] [] h _
  refine wp_iload_n d_RS_isSectorWord_0 rfl ?_
  refine wp_if_lt (tgt := 23) d_RS_isSectorWord_1 (by decide) (fun c1 => ?_) (fun c1 => ?_)
  · refine wp_iconst (v := nI 0) d_RS_isSectorWord_23 c_iconst_0 ?_
    refine wp_zreturn d_RS_isSectorWord_24 rfl (by decide) ?_
    show WP l E M_RS_stored 5 [(0, .inr 0), (1, .inl (x1)), (2, .inl (x2))] [.inl (nI 0)] h _
    refine wp_if_eq (tgt := 20) d_RS_stored_5 (by decide) (fun _ => ?_) (fun z => absurd z (by decide +kernel))
    refine wp_iconst (v := nI 0) d_RS_stored_20 c_iconst_0 ?_
    refine wp_ireturn d_RS_stored_21 rfl ?_
    exact e1 c1
  · refine wp_iload_n d_RS_isSectorWord_4 rfl ?_
    refine wp_bipush (v := nI 41) d_RS_isSectorWord_5 c_bipush_41 ?_
    refine wp_ic_ge (tgt := 23) d_RS_isSectorWord_7 (by decide) (fun c2 => ?_) (fun c2 => ?_)
    · refine wp_iconst (v := nI 0) d_RS_isSectorWord_23 c_iconst_0 ?_
      refine wp_zreturn d_RS_isSectorWord_24 rfl (by decide) ?_
      show WP l E M_RS_stored 5 [(0, .inr 0), (1, .inl (x1)), (2, .inl (x2))] [.inl (nI 0)] h _
      refine wp_if_eq (tgt := 20) d_RS_stored_5 (by decide) (fun _ => ?_) (fun z => absurd z (by decide +kernel))
      refine wp_iconst (v := nI 0) d_RS_stored_20 c_iconst_0 ?_
      refine wp_ireturn d_RS_stored_21 rfl ?_
      exact e2 c1 c2
    · refine wp_iload_n d_RS_isSectorWord_10 rfl ?_
      refine wp_if_lt (tgt := 23) d_RS_isSectorWord_11 (by decide) (fun c3 => ?_) (fun c3 => ?_)
      · refine wp_iconst (v := nI 0) d_RS_isSectorWord_23 c_iconst_0 ?_
        refine wp_zreturn d_RS_isSectorWord_24 rfl (by decide) ?_
        show WP l E M_RS_stored 5 [(0, .inr 0), (1, .inl (x1)), (2, .inl (x2))] [.inl (nI 0)] h _
        refine wp_if_eq (tgt := 20) d_RS_stored_5 (by decide) (fun _ => ?_) (fun z => absurd z (by decide +kernel))
        refine wp_iconst (v := nI 0) d_RS_stored_20 c_iconst_0 ?_
        refine wp_ireturn d_RS_stored_21 rfl ?_
        exact e3 c1 c2 c3
      · refine wp_iload_n d_RS_isSectorWord_14 rfl ?_
        refine wp_iconst (v := nI 4) d_RS_isSectorWord_15 c_iconst_4 ?_
        refine wp_ic_ge (tgt := 23) d_RS_isSectorWord_16 (by decide) (fun c4 => ?_) (fun c4 => ?_)
        · refine wp_iconst (v := nI 0) d_RS_isSectorWord_23 c_iconst_0 ?_
          refine wp_zreturn d_RS_isSectorWord_24 rfl (by decide) ?_
          show WP l E M_RS_stored 5 [(0, .inr 0), (1, .inl (x1)), (2, .inl (x2))] [.inl (nI 0)] h _
          refine wp_if_eq (tgt := 20) d_RS_stored_5 (by decide) (fun _ => ?_) (fun z => absurd z (by decide +kernel))
          refine wp_iconst (v := nI 0) d_RS_stored_20 c_iconst_0 ?_
          refine wp_ireturn d_RS_stored_21 rfl ?_
          exact e4 c1 c2 c3 c4
        · refine wp_iconst (v := nI 1) d_RS_isSectorWord_19 c_iconst_1 ?_
          refine wp_goto (tgt := 24) d_RS_isSectorWord_20 (by decide) ?_
          refine wp_zreturn d_RS_isSectorWord_24 rfl (by decide) ?_
          show WP l E M_RS_stored 5 [(0, .inr 0), (1, .inl (x1)), (2, .inl (x2))] [.inl (nI 1)] h _
          refine wp_if_eq (tgt := 20) d_RS_stored_5 (by decide) (fun z => absurd z (by decide +kernel)) (fun _ => ?_)
          refine wp_aload_n d_RS_stored_8 rfl ?_
          refine wp_getR d_RS_stored_9 fl_RS_12 rfl rfl ?_
          refine wp_iload_n d_RS_stored_12 rfl ?_
          refine wp_iload_n d_RS_stored_13 rfl ?_
          refine wp_callV (as := [.inl (x1), .inl (x2)]) (rest := []) (Q' := fun r h' => WP l E M_RS_stored 17 [(0, .inr 0), (1, .inl (x1)), (2, .inl (x2))] (rpush r []) h' _) d_RS_stored_14 vb_RS_stored_182 ⟨gw_1_229, gw_1_230⟩ rfl rfl rfl rfl (Nat.le_of_ble_eq_true rfl) rfl (Nat.le_of_ble_eq_true rfl) ?_ (fun r h' z => z)
          show WP l E M_DV_ownWord 0 [(0, .inr 1), (1, .inl (x1)), (2, .inl (x2))] [] h _
          refine wp_aload_n d_DV_ownWord_0 rfl ?_
          refine wp_getR d_DV_ownWord_1 fl_DV_9 rfl rfl ?_
          refine wp_iload_n d_DV_ownWord_4 rfl ?_
          refine wp_iconst (v := nI 4) d_DV_ownWord_5 c_iconst_4 ?_
          refine wp_imul d_DV_ownWord_6 ?_
          refine wp_iload_n d_DV_ownWord_7 rfl ?_
          refine wp_iadd d_DV_ownWord_8 ?_
          refine wp_iaload d_DV_ownWord_9 rfl (o1 c1 c2 c3 c4) ?_
          refine wp_ireturn d_DV_ownWord_10 rfl ?_
          show WP l E M_RS_stored 17 [(0, .inr 0), (1, .inl (x1)), (2, .inl (x2))] [.inl (h 8 ((((x1) * (nI 4)) + (x2)).toNatClampNeg))] h _
          refine wp_goto (tgt := 21) d_RS_stored_17 (by decide) ?_
          refine wp_ireturn d_RS_stored_21 rfl ?_
          exact e5 c1 c2 c3 c4
set_option maxRecDepth 100000 in
set_option maxHeartbeats 4000000 in
theorem k_RS_cached_0 {l : Launch} {E : xE} {h : xh} {Q : Option Int32 → xh → Prop}
    (e1 : Q (some (h 1 3)) h) : MC l E M_RS_cached [.inr 0] h Q := by
  refine wp_aload_n d_RS_cached_0 rfl ?_
  refine wp_getR d_RS_cached_1 fl_RS_12 rfl rfl ?_
  refine wp_callV (as := []) (rest := []) (Q' := fun r h' => WP l E M_RS_cached 7 [(0, .inr 0)] (rpush r []) h' _) d_RS_cached_4 vb_RS_cached_85 ⟨gw_2_13, gw_2_14⟩ rfl rfl rfl rfl (Nat.le_of_ble_eq_true rfl) rfl (Nat.le_of_ble_eq_true rfl) ?_ (fun r h' z => z)
  show WP l E M_DV_waiting 0 [(0, .inr 1)] [] h _
  refine wp_aload_n d_DV_waiting_0 rfl ?_
  refine wp_getI d_DV_waiting_1 fl_DV_21 rfl rfl ?_
  refine wp_ireturn d_DV_waiting_4 rfl ?_
  show WP l E M_RS_cached 7 [(0, .inr 0)] [.inl (h 1 3)] h _
  refine wp_ireturn d_RS_cached_7 rfl ?_
  exact e1
set_option maxRecDepth 100000 in
set_option maxHeartbeats 4000000 in
theorem k_RS_state_0 {l : Launch} {E : xE} {h : xh} {Q : Option Int32 → xh → Prop}
    (e1 : (h 6 2) = 0 → (h 0 6) = 0 → Q (some (nI 0)) h)
    (e2 : (h 6 2) = 0 → ¬ (h 0 6) = 0 → Q (some (nI 1)) h)
    (e3 : ¬ (h 6 2) = 0 → Q (some (h 6 2)) h) : MC l E M_RS_state [.inr 0] h Q := by
  refine wp_aload_n d_RS_state_0 rfl ?_
  refine wp_getR d_RS_state_1 fl_RS_43 rfl rfl ?_
  refine wp_callV (as := []) (rest := []) (Q' := fun r h' => WP l E M_RS_state 7 [(0, .inr 0)] (rpush r []) h' _) d_RS_state_4 vb_RS_state_131 ⟨gw_1_195, gw_1_196⟩ rfl rfl rfl rfl (Nat.le_of_ble_eq_true rfl) rfl (Nat.le_of_ble_eq_true rfl) ?_ (fun r h' z => z)
  show WP l E M_JB_isRunning 0 [(0, .inr 6)] [] h _
  refine wp_aload_n d_JB_isRunning_0 rfl ?_
  refine wp_getI d_JB_isRunning_1 fl_JB_18 rfl rfl ?_
  refine wp_if_eq (tgt := 11) d_JB_isRunning_4 (by decide) (fun c1 => ?_) (fun c1 => ?_)
  · refine wp_iconst (v := nI 0) d_JB_isRunning_11 c_iconst_0 ?_
    refine wp_zreturn d_JB_isRunning_12 rfl (by decide) ?_
    show WP l E M_RS_state 7 [(0, .inr 0)] [.inl (nI 0)] h _
    refine wp_if_eq (tgt := 18) d_RS_state_7 (by decide) (fun _ => ?_) (fun z => absurd z (by decide +kernel))
    refine wp_aload_n d_RS_state_18 rfl ?_
    refine wp_getI d_RS_state_19 fl_RS_127 rfl rfl ?_
    refine wp_if_eq (tgt := 29) d_RS_state_22 (by decide) (fun c2 => ?_) (fun c2 => ?_)
    · refine wp_iconst (v := nI 0) d_RS_state_29 c_iconst_0 ?_
      refine wp_ireturn d_RS_state_30 rfl ?_
      exact e1 c1 c2
    · refine wp_iconst (v := nI 1) d_RS_state_25 c_iconst_1 ?_
      refine wp_goto (tgt := 30) d_RS_state_26 (by decide) ?_
      refine wp_ireturn d_RS_state_30 rfl ?_
      exact e2 c1 c2
  · refine wp_iconst (v := nI 1) d_JB_isRunning_7 c_iconst_1 ?_
    refine wp_goto (tgt := 12) d_JB_isRunning_8 (by decide) ?_
    refine wp_zreturn d_JB_isRunning_12 rfl (by decide) ?_
    show WP l E M_RS_state 7 [(0, .inr 0)] [.inl (nI 1)] h _
    refine wp_if_eq (tgt := 18) d_RS_state_7 (by decide) (fun z => absurd z (by decide +kernel)) (fun _ => ?_)
    refine wp_aload_n d_RS_state_10 rfl ?_
    refine wp_getR d_RS_state_11 fl_RS_43 rfl rfl ?_
    refine wp_callV (as := []) (rest := []) (Q' := fun r h' => WP l E M_RS_state 17 [(0, .inr 0)] (rpush r []) h' _) d_RS_state_14 vb_RS_state_185 ⟨gw_2_190, gw_2_191⟩ rfl rfl rfl rfl (Nat.le_of_ble_eq_true rfl) rfl (Nat.le_of_ble_eq_true rfl) ?_ (fun r h' z => z)
    show WP l E M_JB_kind 0 [(0, .inr 6)] [] h _
    refine wp_aload_n d_JB_kind_0 rfl ?_
    refine wp_getI d_JB_kind_1 fl_JB_18 rfl rfl ?_
    refine wp_ireturn d_JB_kind_4 rfl ?_
    show WP l E M_RS_state 17 [(0, .inr 0)] [.inl (h 6 2)] h _
    refine wp_ireturn d_RS_state_17 rfl ?_
    exact e3 c1
set_option maxRecDepth 100000 in
set_option maxHeartbeats 4000000 in
theorem k_RS_number_0 {l : Launch} {E : xE} {h : xh} {Q : Option Int32 → xh → Prop}
    (e1 : (h 0 6) = 0 → Q (some ((-1))) h)
    (e2 : ¬ (h 0 6) = 0 → Q (some (h 0 8)) h) : MC l E M_RS_number [.inr 0] h Q := by
  refine wp_aload_n d_RS_number_0 rfl ?_
  refine wp_getI d_RS_number_1 fl_RS_127 rfl rfl ?_
  refine wp_if_eq (tgt := 14) d_RS_number_4 (by decide) (fun c1 => ?_) (fun c1 => ?_)
  · refine wp_iconst (v := (-1)) d_RS_number_14 c_iconst_m1 ?_
    refine wp_ireturn d_RS_number_15 rfl ?_
    exact e1 c1
  · refine wp_aload_n d_RS_number_7 rfl ?_
    refine wp_getI d_RS_number_8 fl_RS_91 rfl rfl ?_
    refine wp_goto (tgt := 15) d_RS_number_11 (by decide) ?_
    refine wp_ireturn d_RS_number_15 rfl ?_
    exact e2 c1
set_option maxRecDepth 100000 in
set_option maxHeartbeats 4000000 in
theorem k_RS_used_0 {l : Launch} {E : xE} {h : xh} {Q : Option Int32 → xh → Prop}
    (e1 : (h 0 6) = 0 → Q (some ((-1))) h)
    (e2 : ¬ (h 0 6) = 0 → Q (some (h 0 10)) h) : MC l E M_RS_used [.inr 0] h Q := by
  refine wp_aload_n d_RS_used_0 rfl ?_
  refine wp_getI d_RS_used_1 fl_RS_127 rfl rfl ?_
  refine wp_if_eq (tgt := 14) d_RS_used_4 (by decide) (fun c1 => ?_) (fun c1 => ?_)
  · refine wp_iconst (v := (-1)) d_RS_used_14 c_iconst_m1 ?_
    refine wp_ireturn d_RS_used_15 rfl ?_
    exact e1 c1
  · refine wp_aload_n d_RS_used_7 rfl ?_
    refine wp_getI d_RS_used_8 fl_RS_98 rfl rfl ?_
    refine wp_goto (tgt := 15) d_RS_used_11 (by decide) ?_
    refine wp_ireturn d_RS_used_15 rfl ?_
    exact e2 c1
set_option maxRecDepth 100000 in
set_option maxHeartbeats 4000000 in
theorem k_RS_changed_0 {l : Launch} {E : xE} {x1 : Int32} {h : xh} {Q : Option Int32 → xh → Prop}
    (e1 : (h 0 6) = 0 → Q (some ((-1))) h)
    (e2 : ¬ (h 0 6) = 0 → x1 < 0 → Q (some ((-1))) h)
    (e3 : ¬ (h 0 6) = 0 → ¬ x1 < 0 → (nI 16) ≤ x1 → Q (some ((-1))) h)
    (o1 : ¬ (h 0 6) = 0 → ¬ x1 < 0 → ¬ (nI 16) ≤ x1 → vp_in (x1) 16)
    (o2 : ¬ (h 0 6) = 0 → ¬ x1 < 0 → ¬ (nI 16) ≤ x1 → h 11 ((x1).toNatClampNeg) = 0 ∨ h 11 ((x1).toNatClampNeg) = 1)
    (o3 : ¬ (h 0 6) = 0 → ¬ x1 < 0 → ¬ (nI 16) ≤ x1 → (h 11 ((x1).toNatClampNeg)) = 0 → ((ushr (h 0 7) (x1)) &&& (nI 1)) ≠ (nI 1) → vp_in (x1) 16)
    (o4 : ¬ (h 0 6) = 0 → ¬ x1 < 0 → ¬ (nI 16) ≤ x1 → (h 11 ((x1).toNatClampNeg)) = 0 → ((ushr (h 0 7) (x1)) &&& (nI 1)) ≠ (nI 1) → h 13 ((x1).toNatClampNeg) = 0 ∨ h 13 ((x1).toNatClampNeg) = 1)
    (e4 : ¬ (h 0 6) = 0 → ¬ x1 < 0 → ¬ (nI 16) ≤ x1 → (h 11 ((x1).toNatClampNeg)) = 0 → ((ushr (h 0 7) (x1)) &&& (nI 1)) ≠ (nI 1) → (h 13 ((x1).toNatClampNeg)) = 0 → Q (some ((nI 0) + (nI 0))) h)
    (e5 : ¬ (h 0 6) = 0 → ¬ x1 < 0 → ¬ (nI 16) ≤ x1 → (h 11 ((x1).toNatClampNeg)) = 0 → ((ushr (h 0 7) (x1)) &&& (nI 1)) ≠ (nI 1) → ¬ (h 13 ((x1).toNatClampNeg)) = 0 → Q (some ((nI 0) + (nI 4))) h)
    (o5 : ¬ (h 0 6) = 0 → ¬ x1 < 0 → ¬ (nI 16) ≤ x1 → (h 11 ((x1).toNatClampNeg)) = 0 → ((ushr (h 0 7) (x1)) &&& (nI 1)) = (nI 1) → vp_in (x1) 16)
    (o6 : ¬ (h 0 6) = 0 → ¬ x1 < 0 → ¬ (nI 16) ≤ x1 → (h 11 ((x1).toNatClampNeg)) = 0 → ((ushr (h 0 7) (x1)) &&& (nI 1)) = (nI 1) → h 13 ((x1).toNatClampNeg) = 0 ∨ h 13 ((x1).toNatClampNeg) = 1)
    (e6 : ¬ (h 0 6) = 0 → ¬ x1 < 0 → ¬ (nI 16) ≤ x1 → (h 11 ((x1).toNatClampNeg)) = 0 → ((ushr (h 0 7) (x1)) &&& (nI 1)) = (nI 1) → (h 13 ((x1).toNatClampNeg)) = 0 → Q (some ((nI 2) + (nI 0))) h)
    (e7 : ¬ (h 0 6) = 0 → ¬ x1 < 0 → ¬ (nI 16) ≤ x1 → (h 11 ((x1).toNatClampNeg)) = 0 → ((ushr (h 0 7) (x1)) &&& (nI 1)) = (nI 1) → ¬ (h 13 ((x1).toNatClampNeg)) = 0 → Q (some ((nI 2) + (nI 4))) h)
    (o7 : ¬ (h 0 6) = 0 → ¬ x1 < 0 → ¬ (nI 16) ≤ x1 → ¬ (h 11 ((x1).toNatClampNeg)) = 0 → vp_in (x1) 16)
    (o8 : ¬ (h 0 6) = 0 → ¬ x1 < 0 → ¬ (nI 16) ≤ x1 → ¬ (h 11 ((x1).toNatClampNeg)) = 0 → h 13 ((x1).toNatClampNeg) = 0 ∨ h 13 ((x1).toNatClampNeg) = 1)
    (e8 : ¬ (h 0 6) = 0 → ¬ x1 < 0 → ¬ (nI 16) ≤ x1 → ¬ (h 11 ((x1).toNatClampNeg)) = 0 → (h 13 ((x1).toNatClampNeg)) = 0 → Q (some ((nI 1) + (nI 0))) h)
    (e9 : ¬ (h 0 6) = 0 → ¬ x1 < 0 → ¬ (nI 16) ≤ x1 → ¬ (h 11 ((x1).toNatClampNeg)) = 0 → ¬ (h 13 ((x1).toNatClampNeg)) = 0 → Q (some ((nI 1) + (nI 4))) h) : MC l E M_RS_changed [.inr 0, .inl (x1)] h Q := by
  refine wp_aload_n d_RS_changed_0 rfl ?_
  refine wp_getI d_RS_changed_1 fl_RS_127 rfl rfl ?_
  refine wp_if_eq (tgt := 14) d_RS_changed_4 (by decide) (fun c1 => ?_) (fun c1 => ?_)
  · refine wp_iconst (v := (-1)) d_RS_changed_14 c_iconst_m1 ?_
    refine wp_ireturn d_RS_changed_15 rfl ?_
    exact e1 c1
  · refine wp_iload_n d_RS_changed_7 rfl ?_
    refine wp_callS (as := [.inl (x1)]) (rest := []) (Q' := fun r h' => WP l E M_RS_changed 11 [(0, .inr 0), (1, .inl (x1))] (rpush r []) h' _) d_RS_changed_8 vb_RS_changed_75 gw_1_202 rfl (Nat.le_of_ble_eq_true rfl) rfl (Nat.le_of_ble_eq_true rfl) ?_ (fun r h' z => z)
    show WP l E M_RS_isBlock 0 [(0, .inl (x1))] [] h _
    refine wp_iload_n d_RS_isBlock_0 rfl ?_
    refine wp_if_lt (tgt := 14) d_RS_isBlock_1 (by decide) (fun c2 => ?_) (fun c2 => ?_)
    · refine wp_iconst (v := nI 0) d_RS_isBlock_14 c_iconst_0 ?_
      refine wp_zreturn d_RS_isBlock_15 rfl (by decide) ?_
      show WP l E M_RS_changed 11 [(0, .inr 0), (1, .inl (x1))] [.inl (nI 0)] h _
      refine wp_if_ne (tgt := 16) d_RS_changed_11 (by decide) (fun z => absurd z (by decide +kernel)) (fun _ => ?_)
      refine wp_iconst (v := (-1)) d_RS_changed_14 c_iconst_m1 ?_
      refine wp_ireturn d_RS_changed_15 rfl ?_
      exact e2 c1 c2
    · refine wp_iload_n d_RS_isBlock_4 rfl ?_
      refine wp_bipush (v := nI 16) d_RS_isBlock_5 c_bipush_16 ?_
      refine wp_ic_ge (tgt := 14) d_RS_isBlock_7 (by decide) (fun c3 => ?_) (fun c3 => ?_)
      · refine wp_iconst (v := nI 0) d_RS_isBlock_14 c_iconst_0 ?_
        refine wp_zreturn d_RS_isBlock_15 rfl (by decide) ?_
        show WP l E M_RS_changed 11 [(0, .inr 0), (1, .inl (x1))] [.inl (nI 0)] h _
        refine wp_if_ne (tgt := 16) d_RS_changed_11 (by decide) (fun z => absurd z (by decide +kernel)) (fun _ => ?_)
        refine wp_iconst (v := (-1)) d_RS_changed_14 c_iconst_m1 ?_
        refine wp_ireturn d_RS_changed_15 rfl ?_
        exact e3 c1 c2 c3
      · refine wp_iconst (v := nI 1) d_RS_isBlock_10 c_iconst_1 ?_
        refine wp_goto (tgt := 15) d_RS_isBlock_11 (by decide) ?_
        refine wp_zreturn d_RS_isBlock_15 rfl (by decide) ?_
        show WP l E M_RS_changed 11 [(0, .inr 0), (1, .inl (x1))] [.inl (nI 1)] h _
        refine wp_if_ne (tgt := 16) d_RS_changed_11 (by decide) (fun _ => ?_) (fun z => absurd z (by decide +kernel))
        refine wp_aload_n d_RS_changed_16 rfl ?_
        refine wp_getR d_RS_changed_17 fl_RS_19 rfl rfl ?_
        refine wp_iload_n d_RS_changed_20 rfl ?_
        refine wp_callV (as := [.inl (x1)]) (rest := []) (Q' := fun r h' => WP l E M_RS_changed 24 [(0, .inr 0), (1, .inl (x1))] (rpush r []) h' _) d_RS_changed_21 vb_RS_changed_59 ⟨gw_1_205, gw_1_206⟩ rfl rfl rfl rfl (Nat.le_of_ble_eq_true rfl) rfl (Nat.le_of_ble_eq_true rfl) ?_ (fun r h' z => z)
        show WP l E M_IM_holds 0 [(0, .inr 2), (1, .inl (x1))] [] h _
        refine wp_aload_n d_IM_holds_0 rfl ?_
        refine wp_getR d_IM_holds_1 fl_IM_9 rfl rfl ?_
        refine wp_iload_n d_IM_holds_4 rfl ?_
        refine wp_baload d_IM_holds_5 rfl (o1 c1 c2 c3) ?_
        refine wp_zreturn d_IM_holds_6 rfl (o2 c1 c2 c3) ?_
        show WP l E M_RS_changed 24 [(0, .inr 0), (1, .inl (x1))] [.inl (h 11 ((x1).toNatClampNeg))] h _
        refine wp_if_eq (tgt := 31) d_RS_changed_24 (by decide) (fun c4 => ?_) (fun c4 => ?_)
        · refine wp_aload_n d_RS_changed_31 rfl ?_
          refine wp_iload_n d_RS_changed_32 rfl ?_
          refine wp_callV (as := [.inl (x1)]) (rest := []) (Q' := fun r h' => WP l E M_RS_changed 36 [(0, .inr 0), (1, .inl (x1))] (rpush r []) h' _) d_RS_changed_33 vb_RS_changed_188 ⟨gw_2_210, sw_20⟩ rfl rfl rfl rfl (Nat.le_of_ble_eq_true rfl) rfl (Nat.le_of_ble_eq_true rfl) ?_ (fun r h' z => z)
          show WP l E M_RS_isRevoked 0 [(0, .inr 0), (1, .inl (x1))] [] h _
          refine wp_aload_n d_RS_isRevoked_0 rfl ?_
          refine wp_getI d_RS_isRevoked_1 fl_RS_81 rfl rfl ?_
          refine wp_iload_n d_RS_isRevoked_4 rfl ?_
          refine wp_iushr d_RS_isRevoked_5 ?_
          refine wp_iconst (v := nI 1) d_RS_isRevoked_6 c_iconst_1 ?_
          refine wp_iand d_RS_isRevoked_7 ?_
          refine wp_iconst (v := nI 1) d_RS_isRevoked_8 c_iconst_1 ?_
          refine wp_ic_ne (tgt := 16) d_RS_isRevoked_9 (by decide) (fun c5 => ?_) (fun c5 => ?_)
          · refine wp_iconst (v := nI 0) d_RS_isRevoked_16 c_iconst_0 ?_
            refine wp_zreturn d_RS_isRevoked_17 rfl (by decide) ?_
            show WP l E M_RS_changed 36 [(0, .inr 0), (1, .inl (x1))] [.inl (nI 0)] h _
            refine wp_if_eq (tgt := 43) d_RS_changed_36 (by decide) (fun _ => ?_) (fun z => absurd z (by decide +kernel))
            refine wp_iconst (v := nI 0) d_RS_changed_43 c_iconst_0 ?_
            refine wp_istore_n (ls' := [(0, .inr 0), (1, .inl (x1)), (2, .inl (nI 0))]) d_RS_changed_44 (by decide) rfl ?_
            refine wp_iload_n d_RS_changed_45 rfl ?_
            refine wp_aload_n d_RS_changed_46 rfl ?_
            refine wp_getR d_RS_changed_47 fl_RS_23 rfl rfl ?_
            refine wp_iload_n d_RS_changed_50 rfl ?_
            refine wp_callV (as := [.inl (x1)]) (rest := [.inl (nI 0)]) (Q' := fun r h' => WP l E M_RS_changed 54 [(0, .inr 0), (1, .inl (x1)), (2, .inl (nI 0))] (rpush r [.inl (nI 0)]) h' _) d_RS_changed_51 vb_RS_changed_59 ⟨gw_1_205, gw_1_206⟩ rfl rfl rfl rfl (Nat.le_of_ble_eq_true rfl) rfl (Nat.le_of_ble_eq_true rfl) ?_ (fun r h' z => z)
            show WP l E M_IM_holds 0 [(0, .inr 3), (1, .inl (x1))] [] h _
            refine wp_aload_n d_IM_holds_0 rfl ?_
            refine wp_getR d_IM_holds_1 fl_IM_9 rfl rfl ?_
            refine wp_iload_n d_IM_holds_4 rfl ?_
            refine wp_baload d_IM_holds_5 rfl (o3 c1 c2 c3 c4 c5) ?_
            refine wp_zreturn d_IM_holds_6 rfl (o4 c1 c2 c3 c4 c5) ?_
            show WP l E M_RS_changed 54 [(0, .inr 0), (1, .inl (x1)), (2, .inl (nI 0))] [.inl (h 13 ((x1).toNatClampNeg)), .inl (nI 0)] h _
            refine wp_if_eq (tgt := 61) d_RS_changed_54 (by decide) (fun c6 => ?_) (fun c6 => ?_)
            · refine wp_iconst (v := nI 0) d_RS_changed_61 c_iconst_0 ?_
              refine wp_iadd d_RS_changed_62 ?_
              refine wp_ireturn d_RS_changed_63 rfl ?_
              exact e4 c1 c2 c3 c4 c5 c6
            · refine wp_iconst (v := nI 4) d_RS_changed_57 c_iconst_4 ?_
              refine wp_goto (tgt := 62) d_RS_changed_58 (by decide) ?_
              refine wp_iadd d_RS_changed_62 ?_
              refine wp_ireturn d_RS_changed_63 rfl ?_
              exact e5 c1 c2 c3 c4 c5 c6
          · refine wp_iconst (v := nI 1) d_RS_isRevoked_12 c_iconst_1 ?_
            refine wp_goto (tgt := 17) d_RS_isRevoked_13 (by decide) ?_
            refine wp_zreturn d_RS_isRevoked_17 rfl (by decide) ?_
            show WP l E M_RS_changed 36 [(0, .inr 0), (1, .inl (x1))] [.inl (nI 1)] h _
            refine wp_if_eq (tgt := 43) d_RS_changed_36 (by decide) (fun z => absurd z (by decide +kernel)) (fun _ => ?_)
            refine wp_iconst (v := nI 2) d_RS_changed_39 c_iconst_2 ?_
            refine wp_goto (tgt := 44) d_RS_changed_40 (by decide) ?_
            refine wp_istore_n (ls' := [(0, .inr 0), (1, .inl (x1)), (2, .inl (nI 2))]) d_RS_changed_44 (by decide) rfl ?_
            refine wp_iload_n d_RS_changed_45 rfl ?_
            refine wp_aload_n d_RS_changed_46 rfl ?_
            refine wp_getR d_RS_changed_47 fl_RS_23 rfl rfl ?_
            refine wp_iload_n d_RS_changed_50 rfl ?_
            refine wp_callV (as := [.inl (x1)]) (rest := [.inl (nI 2)]) (Q' := fun r h' => WP l E M_RS_changed 54 [(0, .inr 0), (1, .inl (x1)), (2, .inl (nI 2))] (rpush r [.inl (nI 2)]) h' _) d_RS_changed_51 vb_RS_changed_59 ⟨gw_1_205, gw_1_206⟩ rfl rfl rfl rfl (Nat.le_of_ble_eq_true rfl) rfl (Nat.le_of_ble_eq_true rfl) ?_ (fun r h' z => z)
            show WP l E M_IM_holds 0 [(0, .inr 3), (1, .inl (x1))] [] h _
            refine wp_aload_n d_IM_holds_0 rfl ?_
            refine wp_getR d_IM_holds_1 fl_IM_9 rfl rfl ?_
            refine wp_iload_n d_IM_holds_4 rfl ?_
            refine wp_baload d_IM_holds_5 rfl (o5 c1 c2 c3 c4 c5) ?_
            refine wp_zreturn d_IM_holds_6 rfl (o6 c1 c2 c3 c4 c5) ?_
            show WP l E M_RS_changed 54 [(0, .inr 0), (1, .inl (x1)), (2, .inl (nI 2))] [.inl (h 13 ((x1).toNatClampNeg)), .inl (nI 2)] h _
            refine wp_if_eq (tgt := 61) d_RS_changed_54 (by decide) (fun c7 => ?_) (fun c7 => ?_)
            · refine wp_iconst (v := nI 0) d_RS_changed_61 c_iconst_0 ?_
              refine wp_iadd d_RS_changed_62 ?_
              refine wp_ireturn d_RS_changed_63 rfl ?_
              exact e6 c1 c2 c3 c4 c5 c7
            · refine wp_iconst (v := nI 4) d_RS_changed_57 c_iconst_4 ?_
              refine wp_goto (tgt := 62) d_RS_changed_58 (by decide) ?_
              refine wp_iadd d_RS_changed_62 ?_
              refine wp_ireturn d_RS_changed_63 rfl ?_
              exact e7 c1 c2 c3 c4 c5 c7
        · refine wp_iconst (v := nI 1) d_RS_changed_27 c_iconst_1 ?_
          refine wp_goto (tgt := 44) d_RS_changed_28 (by decide) ?_
          refine wp_istore_n (ls' := [(0, .inr 0), (1, .inl (x1)), (2, .inl (nI 1))]) d_RS_changed_44 (by decide) rfl ?_
          refine wp_iload_n d_RS_changed_45 rfl ?_
          refine wp_aload_n d_RS_changed_46 rfl ?_
          refine wp_getR d_RS_changed_47 fl_RS_23 rfl rfl ?_
          refine wp_iload_n d_RS_changed_50 rfl ?_
          refine wp_callV (as := [.inl (x1)]) (rest := [.inl (nI 1)]) (Q' := fun r h' => WP l E M_RS_changed 54 [(0, .inr 0), (1, .inl (x1)), (2, .inl (nI 1))] (rpush r [.inl (nI 1)]) h' _) d_RS_changed_51 vb_RS_changed_59 ⟨gw_1_205, gw_1_206⟩ rfl rfl rfl rfl (Nat.le_of_ble_eq_true rfl) rfl (Nat.le_of_ble_eq_true rfl) ?_ (fun r h' z => z)
          show WP l E M_IM_holds 0 [(0, .inr 3), (1, .inl (x1))] [] h _
          refine wp_aload_n d_IM_holds_0 rfl ?_
          refine wp_getR d_IM_holds_1 fl_IM_9 rfl rfl ?_
          refine wp_iload_n d_IM_holds_4 rfl ?_
          refine wp_baload d_IM_holds_5 rfl (o7 c1 c2 c3 c4) ?_
          refine wp_zreturn d_IM_holds_6 rfl (o8 c1 c2 c3 c4) ?_
          show WP l E M_RS_changed 54 [(0, .inr 0), (1, .inl (x1)), (2, .inl (nI 1))] [.inl (h 13 ((x1).toNatClampNeg)), .inl (nI 1)] h _
          refine wp_if_eq (tgt := 61) d_RS_changed_54 (by decide) (fun c8 => ?_) (fun c8 => ?_)
          · refine wp_iconst (v := nI 0) d_RS_changed_61 c_iconst_0 ?_
            refine wp_iadd d_RS_changed_62 ?_
            refine wp_ireturn d_RS_changed_63 rfl ?_
            exact e8 c1 c2 c3 c4 c8
          · refine wp_iconst (v := nI 4) d_RS_changed_57 c_iconst_4 ?_
            refine wp_goto (tgt := 62) d_RS_changed_58 (by decide) ?_
            refine wp_iadd d_RS_changed_62 ?_
            refine wp_ireturn d_RS_changed_63 rfl ?_
            exact e9 c1 c2 c3 c4 c8
