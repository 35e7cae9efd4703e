set_option maxRecDepth 100000 in
set_option maxHeartbeats 4000000 in
theorem k_MD_replay_139 {l : Launch} {E : xE} {v0 x1 x2 x3 x4 x5 x6 x7 x8 : Int32} {h : xh} {Q : Option Int32 → xh → Prop}
    (e1 : MC l E M_MD_logWord [.inr 7, .inl (((x3) + (nI 1)) + (x6)), .inl (nI 1)] h (fun r h' => WP l E M_MD_replay 150 [(0, .inr 7), (1, .inl (x1)), (2, .inl (x2)), (3, .inl (x3)), (4, .inl (x4)), (5, .inl (x5)), (6, .inl (x6)), (7, .inl (x7)), (8, .inl (x8))] (rpush r [.inl (v0), .inr 7]) h' Q)) : WP l E M_MD_replay 139 [(0, .inr 7), (1, .inl (x1)), (2, .inl (x2)), (3, .inl (x3)), (4, .inl (x4)), (5, .inl (x5)), (6, .inl (x6)), (7, .inl (x7)), (8, .inl (x8))] [.inl (v0), .inr 7] h Q := by
  refine wp_aload_n d_MD_replay_139 rfl ?_
  refine wp_iload_n d_MD_replay_140 rfl ?_
  refine wp_iconst (v := nI 1) d_MD_replay_141 c_iconst_1 ?_
  refine wp_iadd d_MD_replay_142 ?_
  refine wp_iload d_MD_replay_143 rfl ?_
  refine wp_iadd d_MD_replay_145 ?_
  refine wp_iconst (v := nI 1) d_MD_replay_146 c_iconst_1 ?_
  refine wp_callV (as := [.inl (((x3) + (nI 1)) + (x6)), .inl (nI 1)]) (rest := [.inl (v0), .inr 7]) (Q' := fun r h' => WP l E M_MD_replay 150 [(0, .inr 7), (1, .inl (x1)), (2, .inl (x2)), (3, .inl (x3)), (4, .inl (x4)), (5, .inl (x5)), (6, .inl (x6)), (7, .inl (x7)), (8, .inl (x8))] (rpush r [.inl (v0), .inr 7]) h' Q) d_MD_replay_147 vb_MD_replay_137 ⟨gw_3_190, sw_30⟩ rfl rfl rfl rfl (Nat.le_of_ble_eq_true rfl) rfl (Nat.le_of_ble_eq_true rfl) ?_ (fun r h' z => z)
  exact e1
set_option maxRecDepth 100000 in
set_option maxHeartbeats 4000000 in
theorem k_MD_replay_150 {l : Launch} {E : xE} {s1 v0 x1 x2 x3 x4 x5 x6 x7 x8 : Int32} {h : xh} {Q : Option Int32 → xh → Prop}
    (e1 : MC l E M_MD_logWord [.inr 7, .inl (((x3) + (nI 1)) + (x6)), .inl (nI 2)] h (fun r h' => WP l E M_MD_replay 161 [(0, .inr 7), (1, .inl (x1)), (2, .inl (x2)), (3, .inl (x3)), (4, .inl (x4)), (5, .inl (x5)), (6, .inl (x6)), (7, .inl (x7)), (8, .inl (x8))] (rpush r [.inl (v0), .inl (s1), .inr 7]) h' Q)) : WP l E M_MD_replay 150 [(0, .inr 7), (1, .inl (x1)), (2, .inl (x2)), (3, .inl (x3)), (4, .inl (x4)), (5, .inl (x5)), (6, .inl (x6)), (7, .inl (x7)), (8, .inl (x8))] [.inl (v0), .inl (s1), .inr 7] h Q := by
  refine wp_aload_n d_MD_replay_150 rfl ?_
  refine wp_iload_n d_MD_replay_151 rfl ?_
  refine wp_iconst (v := nI 1) d_MD_replay_152 c_iconst_1 ?_
  refine wp_iadd d_MD_replay_153 ?_
  refine wp_iload d_MD_replay_154 rfl ?_
  refine wp_iadd d_MD_replay_156 ?_
  refine wp_iconst (v := nI 2) d_MD_replay_157 c_iconst_2 ?_
  refine wp_callV (as := [.inl (((x3) + (nI 1)) + (x6)), .inl (nI 2)]) (rest := [.inl (v0), .inl (s1), .inr 7]) (Q' := fun r h' => WP l E M_MD_replay 161 [(0, .inr 7), (1, .inl (x1)), (2, .inl (x2)), (3, .inl (x3)), (4, .inl (x4)), (5, .inl (x5)), (6, .inl (x6)), (7, .inl (x7)), (8, .inl (x8))] (rpush r [.inl (v0), .inl (s1), .inr 7]) h' Q) d_MD_replay_158 vb_MD_replay_137 ⟨gw_3_190, sw_30⟩ rfl rfl rfl rfl (Nat.le_of_ble_eq_true rfl) rfl (Nat.le_of_ble_eq_true rfl) ?_ (fun r h' z => z)
  exact e1
set_option maxRecDepth 100000 in
set_option maxHeartbeats 4000000 in
theorem k_MD_replay_161 {l : Launch} {E : xE} {s1 s2 v0 x1 x2 x3 x4 x5 x6 x7 x8 : Int32} {h : xh} {Q : Option Int32 → xh → Prop}
    (e1 : MC l E M_MD_logWord [.inr 7, .inl (((x3) + (nI 1)) + (x6)), .inl (nI 3)] h (fun r h' => WP l E M_MD_replay 172 [(0, .inr 7), (1, .inl (x1)), (2, .inl (x2)), (3, .inl (x3)), (4, .inl (x4)), (5, .inl (x5)), (6, .inl (x6)), (7, .inl (x7)), (8, .inl (x8))] (rpush r [.inl (v0), .inl (s2), .inl (s1), .inr 7]) h' Q)) : WP l E M_MD_replay 161 [(0, .inr 7), (1, .inl (x1)), (2, .inl (x2)), (3, .inl (x3)), (4, .inl (x4)), (5, .inl (x5)), (6, .inl (x6)), (7, .inl (x7)), (8, .inl (x8))] [.inl (v0), .inl (s2), .inl (s1), .inr 7] h Q := by
  refine wp_aload_n d_MD_replay_161 rfl ?_
  refine wp_iload_n d_MD_replay_162 rfl ?_
  refine wp_iconst (v := nI 1) d_MD_replay_163 c_iconst_1 ?_
  refine wp_iadd d_MD_replay_164 ?_
  refine wp_iload d_MD_replay_165 rfl ?_
  refine wp_iadd d_MD_replay_167 ?_
  refine wp_iconst (v := nI 3) d_MD_replay_168 c_iconst_3 ?_
  refine wp_callV (as := [.inl (((x3) + (nI 1)) + (x6)), .inl (nI 3)]) (rest := [.inl (v0), .inl (s2), .inl (s1), .inr 7]) (Q' := fun r h' => WP l E M_MD_replay 172 [(0, .inr 7), (1, .inl (x1)), (2, .inl (x2)), (3, .inl (x3)), (4, .inl (x4)), (5, .inl (x5)), (6, .inl (x6)), (7, .inl (x7)), (8, .inl (x8))] (rpush r [.inl (v0), .inl (s2), .inl (s1), .inr 7]) h' Q) d_MD_replay_169 vb_MD_replay_137 ⟨gw_3_190, sw_30⟩ rfl rfl rfl rfl (Nat.le_of_ble_eq_true rfl) rfl (Nat.le_of_ble_eq_true rfl) ?_ (fun r h' z => z)
  exact e1
set_option maxRecDepth 100000 in
set_option maxHeartbeats 4000000 in
theorem k_MD_replay_172 {l : Launch} {E : xE} {s1 s2 s3 v0 x1 x2 x3 x4 x5 x6 x7 x8 : Int32} {h : xh} {Q : Option Int32 → xh → Prop}
    (e1 : MC l E M_MD_say [.inr 7, .inl (s1), .inl (s2), .inl (s3), .inl (v0)] h (fun r h' => WP l E M_MD_replay 175 [(0, .inr 7), (1, .inl (x1)), (2, .inl (x2)), (3, .inl (x3)), (4, .inl (x4)), (5, .inl (x5)), (6, .inl (x6)), (7, .inl (x7)), (8, .inl (x8))] (rpush r []) h' Q)) : WP l E M_MD_replay 172 [(0, .inr 7), (1, .inl (x1)), (2, .inl (x2)), (3, .inl (x3)), (4, .inl (x4)), (5, .inl (x5)), (6, .inl (x6)), (7, .inl (x7)), (8, .inl (x8))] [.inl (v0), .inl (s3), .inl (s2), .inl (s1), .inr 7] h Q := by
  refine wp_callV (as := [.inl (s1), .inl (s2), .inl (s3), .inl (v0)]) (rest := []) (Q' := fun r h' => WP l E M_MD_replay 175 [(0, .inr 7), (1, .inl (x1)), (2, .inl (x2)), (3, .inl (x3)), (4, .inl (x4)), (5, .inl (x5)), (6, .inl (x6)), (7, .inl (x7)), (8, .inl (x8))] (rpush r []) h' Q) d_MD_replay_172 vb_MD_replay_94 ⟨gw_3_206, sw_33⟩ rfl rfl rfl rfl (Nat.le_of_ble_eq_true rfl) rfl (Nat.le_of_ble_eq_true rfl) ?_ (fun r h' z => z)
  exact e1
set_option maxRecDepth 100000 in
set_option maxHeartbeats 4000000 in
theorem k_MD_replay_175 {l : Launch} {E : xE} {x1 x2 x3 x4 x5 x6 x7 x8 : Int32} {h : xh} {Q : Option Int32 → xh → Prop}
    (e1 : WP l E M_MD_replay 43 [(0, .inr 7), (1, .inl (x1)), (2, .inl ((x2) + (nI 1))), (3, .inl (x3)), (4, .inl (x4)), (5, .inl (x5)), (6, .inl (x6 + nI 1))] [] (hw h 7 16 (x7)) Q) : WP l E M_MD_replay 175 [(0, .inr 7), (1, .inl (x1)), (2, .inl (x2)), (3, .inl (x3)), (4, .inl (x4)), (5, .inl (x5)), (6, .inl (x6)), (7, .inl (x7)), (8, .inl (x8))] [] h Q := by
  refine wp_aload_n d_MD_replay_175 rfl ?_
  refine wp_iload d_MD_replay_176 rfl ?_
  refine wp_putI d_MD_replay_178 fm_MD_131 rfl rfl ?_
  refine wp_iload_n d_MD_replay_181 rfl ?_
  refine wp_iconst (v := nI 1) d_MD_replay_182 c_iconst_1 ?_
  refine wp_iadd d_MD_replay_183 ?_
  refine wp_istore_n (ls' := [(0, .inr 7), (1, .inl (x1)), (2, .inl ((x2) + (nI 1))), (3, .inl (x3)), (4, .inl (x4)), (5, .inl (x5)), (6, .inl (x6)), (7, .inl (x7)), (8, .inl (x8))]) d_MD_replay_184 (by decide) rfl ?_
  refine wp_iinc (v := x6 + nI 1) (ls' := [(0, .inr 7), (1, .inl (x1)), (2, .inl ((x2) + (nI 1))), (3, .inl (x3)), (4, .inl (x4)), (5, .inl (x5)), (6, .inl (x6 + nI 1)), (7, .inl (x7)), (8, .inl (x8))]) d_MD_replay_185 rfl (c_inc_1 _) (by decide) rfl ?_
  refine wp_goto (tgt := 43) d_MD_replay_188 (by decide) ?_
  refine wp_sub (ls' := [(0, .inr 7), (1, .inl (x1)), (2, .inl ((x2) + (nI 1))), (3, .inl (x3)), (4, .inl (x4)), (5, .inl (x5)), (6, .inl (x6 + nI 1))]) [0, 1, 2, 3, 4, 5, 6] rfl ?_
  exact e1
set_option maxRecDepth 100000 in
set_option maxHeartbeats 4000000 in
theorem k_MD_recover_0 {l : Launch} {E : xE} {h : xh} {Q : Option Int32 → xh → Prop}
    (e1 : (h 7 4) ≠ 0 → Q (some ((-1))) h)
    (e2 : (h 7 4) = 0 → (h 7 12) = 0 → MC l E M_MD_replay [.inr 7, .inl ((-1))] (hw (hw h 7 12 (nI 4)) 7 13 (nI 0)) (fun r h' => WP l E M_MD_recover 32 [(0, .inr 7)] (rpush r [.inr 7]) h' Q))
    (e3 : (h 7 4) = 0 → ¬ (h 7 12) = 0 → Q (some ((-1))) h) : MC l E M_MD_recover [.inr 7] h Q := by
  refine wp_aload_n d_MD_recover_0 rfl ?_
  refine wp_getI d_MD_recover_1 fl_MD_19 rfl rfl ?_
  refine wp_if_ne (tgt := 14) d_MD_recover_4 (by decide) (fun c1 => ?_) (fun c1 => ?_)
  · refine wp_iconst (v := (-1)) d_MD_recover_14 c_iconst_m1 ?_
    refine wp_ireturn d_MD_recover_15 rfl ?_
    exact e1 c1
  · refine wp_aload_n d_MD_recover_7 rfl ?_
    refine wp_getI d_MD_recover_8 fl_MD_69 rfl rfl ?_
    refine wp_if_eq (tgt := 16) d_MD_recover_11 (by decide) (fun c2 => ?_) (fun c2 => ?_)
    · refine wp_aload_n d_MD_recover_16 rfl ?_
      refine wp_iconst (v := nI 4) d_MD_recover_17 c_iconst_4 ?_
      refine wp_putI d_MD_recover_18 fm_MD_69 rfl rfl ?_
      refine wp_aload_n d_MD_recover_21 rfl ?_
      refine wp_iconst (v := nI 0) d_MD_recover_22 c_iconst_0 ?_
      refine wp_putI d_MD_recover_23 fm_MD_113 rfl rfl ?_
      refine wp_aload_n d_MD_recover_26 rfl ?_
      refine wp_aload_n d_MD_recover_27 rfl ?_
      refine wp_iconst (v := (-1)) d_MD_recover_28 c_iconst_m1 ?_
      refine wp_callV (as := [.inl ((-1))]) (rest := [.inr 7]) (Q' := fun r h' => WP l E M_MD_recover 32 [(0, .inr 7)] (rpush r [.inr 7]) h' Q) d_MD_recover_29 vb_MD_recover_165 ⟨gw_3_174, sw_26⟩ rfl rfl rfl rfl (Nat.le_of_ble_eq_true rfl) rfl (Nat.le_of_ble_eq_true rfl) ?_ (fun r h' z => z)
      exact e2 c1 c2
    · refine wp_iconst (v := (-1)) d_MD_recover_14 c_iconst_m1 ?_
      refine wp_ireturn d_MD_recover_15 rfl ?_
      exact e3 c1 c2
set_option maxRecDepth 100000 in
set_option maxHeartbeats 4000000 in
theorem k_MD_recover_32 {l : Launch} {E : xE} {v0 : Int32} {h : xh} {Q : Option Int32 → xh → Prop}
    (e1 : Q (some (((v0) + (nI 3)) - (nI 3))) (hw h 7 14 ((v0) + (nI 3)))) : WP l E M_MD_recover 32 [(0, .inr 7)] [.inl (v0), .inr 7] h Q := by
  refine wp_iconst (v := nI 3) d_MD_recover_32 c_iconst_3 ?_
  refine wp_iadd d_MD_recover_33 ?_
  refine wp_putI d_MD_recover_34 fm_MD_116 rfl rfl ?_
  refine wp_aload_n d_MD_recover_37 rfl ?_
  refine wp_getI d_MD_recover_38 fl_MD_116 rfl rfl ?_
  show WP l E M_MD_recover 41 [(0, .inr 7)] [.inl ((v0) + (nI 3))] (hw h 7 14 ((v0) + (nI 3))) _
  refine wp_iconst (v := nI 3) d_MD_recover_41 c_iconst_3 ?_
  refine wp_isub d_MD_recover_42 ?_
  refine wp_ireturn d_MD_recover_43 rfl ?_
  exact e1
set_option maxRecDepth 100000 in
set_option maxHeartbeats 4000000 in
theorem k_MD_recoveryAction_0 {l : Launch} {E : xE} {x1 : Int32} {h : xh} {Q : Option Int32 → xh → Prop}
    (e1 : ((h 7 14) - (nI 3)) ≤ x1 → x1 ≠ (((h 7 14) - (nI 3)) + (nI 1)) → MC l E M_MD_flush [.inr 7] h (fun r h' => WP l E M_MD_recoveryAction 76 [(0, .inr 7), (1, .inl (x1)), (2, .inl ((h 7 14) - (nI 3)))] (rpush r []) h' Q))
    (e2 : ((h 7 14) - (nI 3)) ≤ x1 → x1 = (((h 7 14) - (nI 3)) + (nI 1)) → MC l E M_MD_findRevocations [.inr 7] h (fun r h' => WP l E M_MD_recoveryAction 40 [(0, .inr 7), (1, .inl (x1)), (2, .inl ((h 7 14) - (nI 3)))] (rpush r []) h' Q))
    (e3 : ¬ ((h 7 14) - (nI 3)) ≤ x1 → MC l E M_MD_replay [.inr 7, .inl (x1)] h (fun r h' => WP l E M_MD_recoveryAction 17 [(0, .inr 7), (1, .inl (x1)), (2, .inl ((h 7 14) - (nI 3)))] (rpush r []) h' Q)) : MC l E M_MD_recoveryAction [.inr 7, .inl (x1)] h Q := by
  refine wp_aload_n d_MD_recoveryAction_0 rfl ?_
  refine wp_getI d_MD_recoveryAction_1 fl_MD_116 rfl rfl ?_
  refine wp_iconst (v := nI 3) d_MD_recoveryAction_4 c_iconst_3 ?_
  refine wp_isub d_MD_recoveryAction_5 ?_
  refine wp_istore_n (ls' := [(0, .inr 7), (1, .inl (x1)), (2, .inl ((h 7 14) - (nI 3)))]) d_MD_recoveryAction_6 (by decide) rfl ?_
  refine wp_iload_n d_MD_recoveryAction_7 rfl ?_
  refine wp_iload_n d_MD_recoveryAction_8 rfl ?_
  refine wp_ic_ge (tgt := 29) d_MD_recoveryAction_9 (by decide) (fun c1 => ?_) (fun c1 => ?_)
  · refine wp_iload_n d_MD_recoveryAction_29 rfl ?_
    refine wp_iload_n d_MD_recoveryAction_30 rfl ?_
    refine wp_iconst (v := nI 1) d_MD_recoveryAction_31 c_iconst_1 ?_
    refine wp_iadd d_MD_recoveryAction_32 ?_
    refine wp_ic_ne (tgt := 72) d_MD_recoveryAction_33 (by decide) (fun c2 => ?_) (fun c2 => ?_)
    · refine wp_aload_n d_MD_recoveryAction_72 rfl ?_
      refine wp_callV (as := []) (rest := []) (Q' := fun r h' => WP l E M_MD_recoveryAction 76 [(0, .inr 7), (1, .inl (x1)), (2, .inl ((h 7 14) - (nI 3)))] (rpush r []) h' Q) d_MD_recoveryAction_73 vb_MD_recoveryAction_125 ⟨gw_3_238, sw_40⟩ rfl rfl rfl rfl (Nat.le_of_ble_eq_true rfl) rfl (Nat.le_of_ble_eq_true rfl) ?_ (fun r h' z => z)
      exact e1 c1 c2
    · refine wp_aload_n d_MD_recoveryAction_36 rfl ?_
      refine wp_callV (as := []) (rest := []) (Q' := fun r h' => WP l E M_MD_recoveryAction 40 [(0, .inr 7), (1, .inl (x1)), (2, .inl ((h 7 14) - (nI 3)))] (rpush r []) h' Q) d_MD_recoveryAction_37 vb_MD_recoveryAction_162 ⟨gw_3_178, sw_27⟩ rfl rfl rfl rfl (Nat.le_of_ble_eq_true rfl) rfl (Nat.le_of_ble_eq_true rfl) ?_ (fun r h' z => z)
      exact e2 c1 c2
  · refine wp_aload_n d_MD_recoveryAction_12 rfl ?_
    refine wp_iload_n d_MD_recoveryAction_13 rfl ?_
    refine wp_callV (as := [.inl (x1)]) (rest := []) (Q' := fun r h' => WP l E M_MD_recoveryAction 17 [(0, .inr 7), (1, .inl (x1)), (2, .inl ((h 7 14) - (nI 3)))] (rpush r []) h' Q) d_MD_recoveryAction_14 vb_MD_recoveryAction_165 ⟨gw_3_174, sw_26⟩ rfl rfl rfl rfl (Nat.le_of_ble_eq_true rfl) rfl (Nat.le_of_ble_eq_true rfl) ?_ (fun r h' z => z)
    exact e3 c1
set_option maxRecDepth 100000 in
set_option maxHeartbeats 4000000 in
theorem k_MD_recoveryAction_76 {l : Launch} {E : xE} {x1 x2 : Int32} {h : xh} {Q : Option Int32 → xh → Prop}
    (e1 : Q none h) : WP l E M_MD_recoveryAction 76 [(0, .inr 7), (1, .inl (x1)), (2, .inl (x2))] [] h Q := by
  refine wp_return d_MD_recoveryAction_76 rfl ?_
  exact e1
set_option maxRecDepth 100000 in
set_option maxHeartbeats 4000000 in
theorem k_MD_recoveryAction_40 {l : Launch} {E : xE} {x1 x2 : Int32} {h : xh} {Q : Option Int32 → xh → Prop}
    (e1 : MC l E M_MD_say [.inr 7, .inl (nI 77001), .inl (h 7 19), .inl (irem ((h 7 17) + (h 7 20)) (nI 24)), .inl (nI 0)] h (fun r h' => WP l E M_MD_recoveryAction 63 [(0, .inr 7), (1, .inl (x1)), (2, .inl (x2))] (rpush r []) h' Q)) : WP l E M_MD_recoveryAction 40 [(0, .inr 7), (1, .inl (x1)), (2, .inl (x2))] [] h Q := by
  refine wp_aload_n d_MD_recoveryAction_40 rfl ?_
  refine wp_ldcN d_MD_recoveryAction_41 gw_3_29 c_lit_77001 ?_
  refine wp_aload_n d_MD_recoveryAction_43 rfl ?_
  refine wp_getI d_MD_recoveryAction_44 fl_MD_152 rfl rfl ?_
  refine wp_aload_n d_MD_recoveryAction_47 rfl ?_
  refine wp_getI d_MD_recoveryAction_48 fl_MD_134 rfl rfl ?_
  refine wp_aload_n d_MD_recoveryAction_51 rfl ?_
  refine wp_getI d_MD_recoveryAction_52 fl_MD_149 rfl rfl ?_
  refine wp_iadd d_MD_recoveryAction_55 ?_
  refine wp_bipush (v := nI 24) d_MD_recoveryAction_56 c_bipush_24 ?_
  refine wp_irem d_MD_recoveryAction_58 (by decide +kernel) ?_
  refine wp_iconst (v := nI 0) d_MD_recoveryAction_59 c_iconst_0 ?_
  refine wp_callV (as := [.inl (nI 77001), .inl (h 7 19), .inl (irem ((h 7 17) + (h 7 20)) (nI 24)), .inl (nI 0)]) (rest := []) (Q' := fun r h' => WP l E M_MD_recoveryAction 63 [(0, .inr 7), (1, .inl (x1)), (2, .inl (x2))] (rpush r []) h' Q) d_MD_recoveryAction_60 vb_MD_recoveryAction_94 ⟨gw_3_206, sw_33⟩ rfl rfl rfl rfl (Nat.le_of_ble_eq_true rfl) rfl (Nat.le_of_ble_eq_true rfl) ?_ (fun r h' z => z)
  exact e1
set_option maxRecDepth 100000 in
set_option maxHeartbeats 4000000 in
theorem k_MD_recoveryAction_17 {l : Launch} {E : xE} {v0 x1 x2 : Int32} {h : xh} {Q : Option Int32 → xh → Prop}
    (e1 : MC l E M_MD_writeOut [.inr 7, .inl (h 7 16)] h (fun r h' => WP l E M_MD_recoveryAction 26 [(0, .inr 7), (1, .inl (x1)), (2, .inl (x2))] (rpush r []) h' Q)) : WP l E M_MD_recoveryAction 17 [(0, .inr 7), (1, .inl (x1)), (2, .inl (x2))] [.inl (v0)] h Q := by
  refine wp_pop d_MD_recoveryAction_17 ?_
  refine wp_aload_n d_MD_recoveryAction_18 rfl ?_
  refine wp_aload_n d_MD_recoveryAction_19 rfl ?_
  refine wp_getI d_MD_recoveryAction_20 fl_MD_131 rfl rfl ?_
  refine wp_callV (as := [.inl (h 7 16)]) (rest := []) (Q' := fun r h' => WP l E M_MD_recoveryAction 26 [(0, .inr 7), (1, .inl (x1)), (2, .inl (x2))] (rpush r []) h' Q) d_MD_recoveryAction_23 vb_MD_recoveryAction_83 ⟨gw_3_146, sw_23⟩ rfl rfl rfl rfl (Nat.le_of_ble_eq_true rfl) rfl (Nat.le_of_ble_eq_true rfl) ?_ (fun r h' z => z)
  exact e1
set_option maxRecDepth 100000 in
set_option maxHeartbeats 4000000 in
theorem k_MD_recoveryAction_63 {l : Launch} {E : xE} {x1 x2 : Int32} {h : xh} {Q : Option Int32 → xh → Prop}
    (e1 : MC l E M_MD_writeOut [.inr 7, .inl (nI 16)] h (fun r h' => WP l E M_MD_recoveryAction 69 [(0, .inr 7), (1, .inl (x1)), (2, .inl (x2))] (rpush r []) h' Q)) : WP l E M_MD_recoveryAction 63 [(0, .inr 7), (1, .inl (x1)), (2, .inl (x2))] [] h Q := by
  refine wp_aload_n d_MD_recoveryAction_63 rfl ?_
  refine wp_bipush (v := nI 16) d_MD_recoveryAction_64 c_bipush_16 ?_
  refine wp_callV (as := [.inl (nI 16)]) (rest := []) (Q' := fun r h' => WP l E M_MD_recoveryAction 69 [(0, .inr 7), (1, .inl (x1)), (2, .inl (x2))] (rpush r []) h' Q) d_MD_recoveryAction_66 vb_MD_recoveryAction_83 ⟨gw_3_146, sw_23⟩ rfl rfl rfl rfl (Nat.le_of_ble_eq_true rfl) rfl (Nat.le_of_ble_eq_true rfl) ?_ (fun r h' z => z)
  exact e1
set_option maxRecDepth 100000 in
set_option maxHeartbeats 4000000 in
theorem k_MD_recoveryAction_26 {l : Launch} {E : xE} {x1 x2 : Int32} {h : xh} {Q : Option Int32 → xh → Prop}
    (e1 : Q none h) : WP l E M_MD_recoveryAction 26 [(0, .inr 7), (1, .inl (x1)), (2, .inl (x2))] [] h Q := by
  refine wp_goto (tgt := 76) d_MD_recoveryAction_26 (by decide) ?_
  refine wp_return d_MD_recoveryAction_76 rfl ?_
  exact e1
set_option maxRecDepth 100000 in
set_option maxHeartbeats 4000000 in
theorem k_MD_recoveryAction_69 {l : Launch} {E : xE} {x1 x2 : Int32} {h : xh} {Q : Option Int32 → xh → Prop}
    (e1 : Q none h) : WP l E M_MD_recoveryAction 69 [(0, .inr 7), (1, .inl (x1)), (2, .inl (x2))] [] h Q := by
  refine wp_goto (tgt := 76) d_MD_recoveryAction_69 (by decide) ?_
  refine wp_return d_MD_recoveryAction_76 rfl ?_
  exact e1
set_option maxRecDepth 100000 in
set_option maxHeartbeats 4000000 in
theorem k_MD_recovered_0 {l : Launch} {E : xE} {h : xh} {Q : Option Int32 → xh → Prop}
    (e1 : MC l E M_MD_read [.inr 7, .inl (nI 16), .inl (nI 1)] (hw h 7 4 (nI 1)) (fun r h' => WP l E M_MD_recovered 13 [(0, .inr 7)] (rpush r [.inr 7]) h' Q)) : MC l E M_MD_recovered [.inr 7] h Q := by
  refine wp_aload_n d_MD_recovered_0 rfl ?_
  refine wp_iconst (v := nI 1) d_MD_recovered_1 c_iconst_1 ?_
  refine wp_putZ d_MD_recovered_2 fm_MD_19 rfl rfl (by decide) ?_
  refine wp_aload_n d_MD_recovered_5 rfl ?_
  refine wp_aload_n d_MD_recovered_6 rfl ?_
  refine wp_bipush (v := nI 16) d_MD_recovered_7 c_bipush_16 ?_
  refine wp_iconst (v := nI 1) d_MD_recovered_9 c_iconst_1 ?_
  refine wp_callV (as := [.inl (nI 16), .inl (nI 1)]) (rest := [.inr 7]) (Q' := fun r h' => WP l E M_MD_recovered 13 [(0, .inr 7)] (rpush r [.inr 7]) h' Q) d_MD_recovered_10 vb_MD_recovered_65 ⟨gw_3_101, gw_3_102⟩ rfl rfl rfl rfl (Nat.le_of_ble_eq_true rfl) rfl (Nat.le_of_ble_eq_true rfl) ?_ (fun r h' z => z)
  exact e1
set_option maxRecDepth 100000 in
set_option maxHeartbeats 4000000 in
theorem k_MD_recovered_13 {l : Launch} {E : xE} {v0 : Int32} {h : xh} {Q : Option Int32 → xh → Prop}
    (e1 : MC l E M_MD_read [.inr 7, .inl (nI 16), .inl (nI 2)] (hw h 7 5 (v0)) (fun r h' => WP l E M_MD_recovered 24 [(0, .inr 7)] (rpush r [.inr 7]) h' Q)) : WP l E M_MD_recovered 13 [(0, .inr 7)] [.inl (v0), .inr 7] h Q := by
  refine wp_putI d_MD_recovered_13 fm_MD_23 rfl rfl ?_
  refine wp_aload_n d_MD_recovered_16 rfl ?_
  refine wp_aload_n d_MD_recovered_17 rfl ?_
  refine wp_bipush (v := nI 16) d_MD_recovered_18 c_bipush_16 ?_
  refine wp_iconst (v := nI 2) d_MD_recovered_20 c_iconst_2 ?_
  refine wp_callV (as := [.inl (nI 16), .inl (nI 2)]) (rest := [.inr 7]) (Q' := fun r h' => WP l E M_MD_recovered 24 [(0, .inr 7)] (rpush r [.inr 7]) h' Q) d_MD_recovered_21 vb_MD_recovered_65 ⟨gw_3_101, gw_3_102⟩ rfl rfl rfl rfl (Nat.le_of_ble_eq_true rfl) rfl (Nat.le_of_ble_eq_true rfl) ?_ (fun r h' z => z)
  exact e1
set_option maxRecDepth 100000 in
set_option maxHeartbeats 4000000 in
theorem k_MD_recovered_24 {l : Launch} {E : xE} {v0 : Int32} {h : xh} {Q : Option Int32 → xh → Prop}
    (e1 : WP l E M_MD_recovered 34 [(0, .inr 7), (1, .inl (nI 0))] [] (hw (hw h 7 6 (v0)) 7 7 (nI 0)) Q) : WP l E M_MD_recovered 24 [(0, .inr 7)] [.inl (v0), .inr 7] h Q := by
  refine wp_putI d_MD_recovered_24 fm_MD_119 rfl rfl ?_
  refine wp_aload_n d_MD_recovered_27 rfl ?_
  refine wp_iconst (v := nI 0) d_MD_recovered_28 c_iconst_0 ?_
  refine wp_putI d_MD_recovered_29 fm_MD_110 rfl rfl ?_
  refine wp_iconst (v := nI 0) d_MD_recovered_32 c_iconst_0 ?_
  refine wp_istore_n (ls' := [(0, .inr 7), (1, .inl (nI 0))]) d_MD_recovered_33 (by decide) rfl ?_
  exact e1
set_option maxRecDepth 100000 in
set_option maxHeartbeats 4000000 in
theorem k_MD_recovered_34 {l : Launch} {E : xE} {x1 : Int32} {h : xh} {Q : Option Int32 → xh → Prop}
    (e1 : (nI 16) ≤ x1 → Q none h)
    (o1 : ¬ (nI 16) ≤ x1 → vp_in (x1) 16)
    (o2 : ¬ (nI 16) ≤ x1 → vp_in (x1) 16)
    (e2 : ¬ (nI 16) ≤ x1 → WP l E M_MD_recovered 34 [(0, .inr 7), (1, .inl (x1 + nI 1))] [] (hw (hw h 28 ((x1).toNatClampNeg) (nI 0)) 30 ((x1).toNatClampNeg) (nI 0)) Q) : WP l E M_MD_recovered 34 [(0, .inr 7), (1, .inl (x1))] [] h Q := by
  refine wp_iload_n d_MD_recovered_34 rfl ?_
  refine wp_bipush (v := nI 16) d_MD_recovered_35 c_bipush_16 ?_
  refine wp_ic_ge (tgt := 60) d_MD_recovered_37 (by decide) (fun c1 => ?_) (fun c1 => ?_)
  · refine wp_return d_MD_recovered_60 rfl ?_
    exact e1 c1
  · refine wp_aload_n d_MD_recovered_40 rfl ?_
    refine wp_getR d_MD_recovered_41 fl_MD_27 rfl rfl ?_
    refine wp_iload_n d_MD_recovered_44 rfl ?_
    refine wp_iconst (v := nI 0) d_MD_recovered_45 c_iconst_0 ?_
    refine wp_iastore d_MD_recovered_46 rfl (o1 c1) ?_
    refine wp_aload_n d_MD_recovered_47 rfl ?_
    refine wp_getR d_MD_recovered_48 fl_MD_33 rfl rfl ?_
    refine wp_iload_n d_MD_recovered_51 rfl ?_
    refine wp_iconst (v := nI 0) d_MD_recovered_52 c_iconst_0 ?_
    refine wp_bastore d_MD_recovered_53 rfl (o2 c1) (nar01 (by decide)) ?_
    refine wp_iinc (v := x1 + nI 1) (ls' := [(0, .inr 7), (1, .inl (x1 + nI 1))]) d_MD_recovered_54 rfl (c_inc_1 _) (by decide) rfl ?_
    refine wp_goto (tgt := 34) d_MD_recovered_57 (by decide) ?_
    exact e2 c1
set_option maxRecDepth 100000 in
set_option maxHeartbeats 4000000 in
theorem k_MD_finish_0 {l : Launch} {E : xE} {h : xh} {Q : Option Int32 → xh → Prop}
    (e1 : (h 7 12) ≠ (nI 2) → (h 7 12) ≠ (nI 3) → MC l E M_MD_recovered [.inr 7] (hw h 7 12 (nI 0)) (fun r h' => WP l E M_MD_finish 38 [(0, .inr 7), (1, .inl (h 7 12))] (rpush r []) h' Q))
    (e2 : (h 7 12) ≠ (nI 2) → (h 7 12) = (nI 3) → MC l E M_MD_checkpointed [.inr 7] (hw h 7 12 (nI 0)) (fun r h' => WP l E M_MD_finish 31 [(0, .inr 7), (1, .inl (h 7 12))] (rpush r []) h' Q))
    (e3 : (h 7 12) = (nI 2) → MC l E M_MD_committed [.inr 7] (hw h 7 12 (nI 0)) (fun r h' => WP l E M_MD_finish 19 [(0, .inr 7), (1, .inl (h 7 12))] (rpush r []) h' Q)) : MC l E M_MD_finish [.inr 7] h Q := by
  refine wp_aload_n d_MD_finish_0 rfl ?_
  refine wp_getI d_MD_finish_1 fl_MD_69 rfl rfl ?_
  refine wp_istore_n (ls' := [(0, .inr 7), (1, .inl (h 7 12))]) d_MD_finish_4 (by decide) rfl ?_
  refine wp_aload_n d_MD_finish_5 rfl ?_
  refine wp_iconst (v := nI 0) d_MD_finish_6 c_iconst_0 ?_
  refine wp_putI d_MD_finish_7 fm_MD_69 rfl rfl ?_
  refine wp_iload_n d_MD_finish_10 rfl ?_
  refine wp_iconst (v := nI 2) d_MD_finish_11 c_iconst_2 ?_
  refine wp_ic_ne (tgt := 22) d_MD_finish_12 (by decide) (fun c1 => ?_) (fun c1 => ?_)
  · refine wp_iload_n d_MD_finish_22 rfl ?_
    refine wp_iconst (v := nI 3) d_MD_finish_23 c_iconst_3 ?_
    refine wp_ic_ne (tgt := 34) d_MD_finish_24 (by decide) (fun c2 => ?_) (fun c2 => ?_)
    · refine wp_aload_n d_MD_finish_34 rfl ?_
      refine wp_callV (as := []) (rest := []) (Q' := fun r h' => WP l E M_MD_finish 38 [(0, .inr 7), (1, .inl (h 7 12))] (rpush r []) h' Q) d_MD_finish_35 vb_MD_finish_174 ⟨gw_4_26, sw_47⟩ rfl rfl rfl rfl (Nat.le_of_ble_eq_true rfl) rfl (Nat.le_of_ble_eq_true rfl) ?_ (fun r h' z => z)
      exact e1 c1 c2
    · refine wp_aload_n d_MD_finish_27 rfl ?_
      refine wp_callV (as := []) (rest := []) (Q' := fun r h' => WP l E M_MD_finish 31 [(0, .inr 7), (1, .inl (h 7 12))] (rpush r []) h' Q) d_MD_finish_28 vb_MD_finish_171 ⟨gw_4_22, sw_46⟩ rfl rfl rfl rfl (Nat.le_of_ble_eq_true rfl) rfl (Nat.le_of_ble_eq_true rfl) ?_ (fun r h' z => z)
      exact e2 c1 c2
  · refine wp_aload_n d_MD_finish_15 rfl ?_
    refine wp_callV (as := []) (rest := []) (Q' := fun r h' => WP l E M_MD_finish 19 [(0, .inr 7), (1, .inl (h 7 12))] (rpush r []) h' Q) d_MD_finish_16 vb_MD_finish_168 ⟨gw_4_18, sw_45⟩ rfl rfl rfl rfl (Nat.le_of_ble_eq_true rfl) rfl (Nat.le_of_ble_eq_true rfl) ?_ (fun r h' z => z)
    exact e3 c1
set_option maxRecDepth 100000 in
set_option maxHeartbeats 4000000 in
theorem k_MD_finish_38 {l : Launch} {E : xE} {x1 : Int32} {h : xh} {Q : Option Int32 → xh → Prop}
    (e1 : Q none h) : WP l E M_MD_finish 38 [(0, .inr 7), (1, .inl (x1))] [] h Q := by
  refine wp_return d_MD_finish_38 rfl ?_
  exact e1
set_option maxRecDepth 100000 in
set_option maxHeartbeats 4000000 in
theorem k_MD_finish_31 {l : Launch} {E : xE} {x1 : Int32} {h : xh} {Q : Option Int32 → xh → Prop}
    (e1 : Q none h) : WP l E M_MD_finish 31 [(0, .inr 7), (1, .inl (x1))] [] h Q := by
  refine wp_goto (tgt := 38) d_MD_finish_31 (by decide) ?_
  refine wp_return d_MD_finish_38 rfl ?_
  exact e1
set_option maxRecDepth 100000 in
set_option maxHeartbeats 4000000 in
theorem k_MD_finish_19 {l : Launch} {E : xE} {x1 : Int32} {h : xh} {Q : Option Int32 → xh → Prop}
    (e1 : Q none h) : WP l E M_MD_finish 19 [(0, .inr 7), (1, .inl (x1))] [] h Q := by
  refine wp_goto (tgt := 38) d_MD_finish_19 (by decide) ?_
  refine wp_return d_MD_finish_38 rfl ?_
  exact e1
set_option maxRecDepth 100000 in
set_option maxHeartbeats 4000000 in
theorem k_MD_step_0 {l : Launch} {E : xE} {x1 : Int32} {h : xh} {Q : Option Int32 → xh → Prop}
    (e1 : (h 7 12) = 0 → Q (some ((-1))) h)
    (e2 : ¬ (h 7 12) = 0 → x1 < (nI 1) → Q (some ((-1))) h)
    (e3 : ¬ (h 7 12) = 0 → ¬ x1 < (nI 1) → x1 ≤ (nI 10) → WP l E M_MD_step 22 [(0, .inr 7), (1, .inl (x1)), (2, .inl (nI 0))] [] h Q)
    (e4 : ¬ (h 7 12) = 0 → ¬ x1 < (nI 1) → ¬ x1 ≤ (nI 10) → Q (some ((-1))) h) : MC l E M_MD_step [.inr 7, .inl (x1)] h Q := by
  refine wp_aload_n d_MD_step_0 rfl ?_
  refine wp_getI d_MD_step_1 fl_MD_69 rfl rfl ?_
  refine wp_if_eq (tgt := 18) d_MD_step_4 (by decide) (fun c1 => ?_) (fun c1 => ?_)
  · refine wp_iconst (v := (-1)) d_MD_step_18 c_iconst_m1 ?_
    refine wp_ireturn d_MD_step_19 rfl ?_
    exact e1 c1
  · refine wp_iload_n d_MD_step_7 rfl ?_
    refine wp_iconst (v := nI 1) d_MD_step_8 c_iconst_1 ?_
    refine wp_ic_lt (tgt := 18) d_MD_step_9 (by decide) (fun c2 => ?_) (fun c2 => ?_)
    · refine wp_iconst (v := (-1)) d_MD_step_18 c_iconst_m1 ?_
      refine wp_ireturn d_MD_step_19 rfl ?_
      exact e2 c1 c2
    · refine wp_iload_n d_MD_step_12 rfl ?_
      refine wp_bipush (v := nI 10) d_MD_step_13 c_bipush_10 ?_
      refine wp_ic_le (tgt := 20) d_MD_step_15 (by decide) (fun c3 => ?_) (fun c3 => ?_)
      · refine wp_iconst (v := nI 0) d_MD_step_20 c_iconst_0 ?_
        refine wp_istore_n (ls' := [(0, .inr 7), (1, .inl (x1)), (2, .inl (nI 0))]) d_MD_step_21 (by decide) rfl ?_
        exact e3 c1 c2 c3
      · refine wp_iconst (v := (-1)) d_MD_step_18 c_iconst_m1 ?_
        refine wp_ireturn d_MD_step_19 rfl ?_
        exact e4 c1 c2 c3
set_option maxRecDepth 100000 in
set_option maxHeartbeats 4000000 in
theorem k_MD_step_22 {l : Launch} {E : xE} {x1 x2 : Int32} {h : xh} {Q : Option Int32 → xh → Prop}
    (e1 : x1 ≤ x2 → Q (some (x2)) h)
    (e2 : ¬ x1 ≤ x2 → (h 7 12) = 0 → Q (some (x2)) h)
    (e3 : ¬ x1 ≤ x2 → ¬ (h 7 12) = 0 → (h 7 12) ≠ (nI 2) → (h 7 12) ≠ (nI 3) → MC l E M_MD_recoveryAction [.inr 7, .inl (h 7 13)] h (fun r h' => WP l E M_MD_step 80 [(0, .inr 7), (1, .inl (x1)), (2, .inl (x2))] (rpush r []) h' Q))
    (e4 : ¬ x1 ≤ x2 → ¬ (h 7 12) = 0 → (h 7 12) ≠ (nI 2) → (h 7 12) = (nI 3) → MC l E M_MD_checkpointAction [.inr 7, .inl (h 7 13)] h (fun r h' => WP l E M_MD_step 69 [(0, .inr 7), (1, .inl (x1)), (2, .inl (x2))] (rpush r []) h' Q))
    (e5 : ¬ x1 ≤ x2 → ¬ (h 7 12) = 0 → (h 7 12) = (nI 2) → MC l E M_MD_commitAction [.inr 7, .inl (h 7 13)] h (fun r h' => WP l E M_MD_step 50 [(0, .inr 7), (1, .inl (x1)), (2, .inl (x2))] (rpush r []) h' Q)) : WP l E M_MD_step 22 [(0, .inr 7), (1, .inl (x1)), (2, .inl (x2))] [] h Q := by
  refine wp_iload_n d_MD_step_22 rfl ?_
  refine wp_iload_n d_MD_step_23 rfl ?_
  refine wp_ic_ge (tgt := 112) d_MD_step_24 (by decide) (fun c1 => ?_) (fun c1 => ?_)
  · refine wp_iload_n d_MD_step_112 rfl ?_
    refine wp_ireturn d_MD_step_113 rfl ?_
    exact e1 c1
  · refine wp_aload_n d_MD_step_27 rfl ?_
    refine wp_getI d_MD_step_28 fl_MD_69 rfl rfl ?_
    refine wp_if_eq (tgt := 112) d_MD_step_31 (by decide) (fun c2 => ?_) (fun c2 => ?_)
    · refine wp_iload_n d_MD_step_112 rfl ?_
      refine wp_ireturn d_MD_step_113 rfl ?_
      exact e2 c1 c2
    · refine wp_aload_n d_MD_step_34 rfl ?_
      refine wp_getI d_MD_step_35 fl_MD_69 rfl rfl ?_
      refine wp_iconst (v := nI 2) d_MD_step_38 c_iconst_2 ?_
      refine wp_ic_ne (tgt := 53) d_MD_step_39 (by decide) (fun c3 => ?_) (fun c3 => ?_)
      · refine wp_aload_n d_MD_step_53 rfl ?_
        refine wp_getI d_MD_step_54 fl_MD_69 rfl rfl ?_
        refine wp_iconst (v := nI 3) d_MD_step_57 c_iconst_3 ?_
        refine wp_ic_ne (tgt := 72) d_MD_step_58 (by decide) (fun c4 => ?_) (fun c4 => ?_)
        · refine wp_aload_n d_MD_step_72 rfl ?_
          refine wp_aload_n d_MD_step_73 rfl ?_
          refine wp_getI d_MD_step_74 fl_MD_113 rfl rfl ?_
          refine wp_callV (as := [.inl (h 7 13)]) (rest := []) (Q' := fun r h' => WP l E M_MD_step 80 [(0, .inr 7), (1, .inl (x1)), (2, .inl (x2))] (rpush r []) h' Q) d_MD_step_77 vb_MD_step_183 ⟨gw_4_10, sw_43⟩ rfl rfl rfl rfl (Nat.le_of_ble_eq_true rfl) rfl (Nat.le_of_ble_eq_true rfl) ?_ (fun r h' z => z)
          exact e3 c1 c2 c3 c4
        · refine wp_aload_n d_MD_step_61 rfl ?_
          refine wp_aload_n d_MD_step_62 rfl ?_
          refine wp_getI d_MD_step_63 fl_MD_113 rfl rfl ?_
          refine wp_callV (as := [.inl (h 7 13)]) (rest := []) (Q' := fun r h' => WP l E M_MD_step 69 [(0, .inr 7), (1, .inl (x1)), (2, .inl (x2))] (rpush r []) h' Q) d_MD_step_66 vb_MD_step_180 ⟨gw_4_6, sw_42⟩ rfl rfl rfl rfl (Nat.le_of_ble_eq_true rfl) rfl (Nat.le_of_ble_eq_true rfl) ?_ (fun r h' z => z)
          exact e4 c1 c2 c3 c4
      · refine wp_aload_n d_MD_step_42 rfl ?_
        refine wp_aload_n d_MD_step_43 rfl ?_
        refine wp_getI d_MD_step_44 fl_MD_113 rfl rfl ?_
        refine wp_callV (as := [.inl (h 7 13)]) (rest := []) (Q' := fun r h' => WP l E M_MD_step 50 [(0, .inr 7), (1, .inl (x1)), (2, .inl (x2))] (rpush r []) h' Q) d_MD_step_47 vb_MD_step_177 ⟨gw_3_214, sw_34⟩ rfl rfl rfl rfl (Nat.le_of_ble_eq_true rfl) rfl (Nat.le_of_ble_eq_true rfl) ?_ (fun r h' z => z)
        exact e5 c1 c2 c3
set_option maxRecDepth 100000 in
set_option maxHeartbeats 4000000 in
theorem k_MD_step_80 {l : Launch} {E : xE} {x1 x2 : Int32} {h : xh} {Q : Option Int32 → xh → Prop}
    (e1 : ((h 7 13) + (nI 1)) ≠ (h 7 14) → WP l E M_MD_step 22 [(0, .inr 7), (1, .inl (x1)), (2, .inl ((x2) + (nI 1)))] [] (hw h 7 13 ((h 7 13) + (nI 1))) Q)
    (e2 : ((h 7 13) + (nI 1)) = (h 7 14) → MC l E M_MD_finish [.inr 7] (hw h 7 13 ((h 7 13) + (nI 1))) (fun r h' => WP l E M_MD_step 109 [(0, .inr 7), (1, .inl (x1)), (2, .inl ((x2) + (nI 1)))] (rpush r []) h' Q)) : WP l E M_MD_step 80 [(0, .inr 7), (1, .inl (x1)), (2, .inl (x2))] [] h Q := by
  refine wp_aload_n d_MD_step_80 rfl ?_
  refine wp_aload_n d_MD_step_81 rfl ?_
  refine wp_getI d_MD_step_82 fl_MD_113 rfl rfl ?_
  refine wp_iconst (v := nI 1) d_MD_step_85 c_iconst_1 ?_
  refine wp_iadd d_MD_step_86 ?_
  refine wp_putI d_MD_step_87 fm_MD_113 rfl rfl ?_
  refine wp_iload_n d_MD_step_90 rfl ?_
  refine wp_iconst (v := nI 1) d_MD_step_91 c_iconst_1 ?_
  refine wp_iadd d_MD_step_92 ?_
  refine wp_istore_n (ls' := [(0, .inr 7), (1, .inl (x1)), (2, .inl ((x2) + (nI 1)))]) d_MD_step_93 (by decide) rfl ?_
  refine wp_aload_n d_MD_step_94 rfl ?_
  refine wp_getI d_MD_step_95 fl_MD_113 rfl rfl ?_
  show WP l E M_MD_step 98 [(0, .inr 7), (1, .inl (x1)), (2, .inl ((x2) + (nI 1)))] [.inl ((h 7 13) + (nI 1))] (hw h 7 13 ((h 7 13) + (nI 1))) _
  refine wp_aload_n d_MD_step_98 rfl ?_
  refine wp_getI d_MD_step_99 fl_MD_116 rfl rfl ?_
  show WP l E M_MD_step 102 [(0, .inr 7), (1, .inl (x1)), (2, .inl ((x2) + (nI 1)))] [.inl (h 7 14), .inl ((h 7 13) + (nI 1))] (hw h 7 13 ((h 7 13) + (nI 1))) _
  refine wp_ic_ne (tgt := 22) d_MD_step_102 (by decide) (fun c1 => ?_) (fun c1 => ?_)
  · exact e1 c1
  · refine wp_aload_n d_MD_step_105 rfl ?_
    refine wp_callV (as := []) (rest := []) (Q' := fun r h' => WP l E M_MD_step 109 [(0, .inr 7), (1, .inl (x1)), (2, .inl ((x2) + (nI 1)))] (rpush r []) h' Q) d_MD_step_106 vb_MD_step_186 ⟨gw_4_14, sw_44⟩ rfl rfl rfl rfl (Nat.le_of_ble_eq_true rfl) rfl (Nat.le_of_ble_eq_true rfl) ?_ (fun r h' z => z)
    exact e2 c1
set_option maxRecDepth 100000 in
set_option maxHeartbeats 4000000 in
theorem k_MD_step_69 {l : Launch} {E : xE} {x1 x2 : Int32} {h : xh} {Q : Option Int32 → xh → Prop}
    (e1 : ((h 7 13) + (nI 1)) ≠ (h 7 14) → WP l E M_MD_step 22 [(0, .inr 7), (1, .inl (x1)), (2, .inl ((x2) + (nI 1)))] [] (hw h 7 13 ((h 7 13) + (nI 1))) Q)
    (e2 : ((h 7 13) + (nI 1)) = (h 7 14) → MC l E M_MD_finish [.inr 7] (hw h 7 13 ((h 7 13) + (nI 1))) (fun r h' => WP l E M_MD_step 109 [(0, .inr 7), (1, .inl (x1)), (2, .inl ((x2) + (nI 1)))] (rpush r []) h' Q)) : WP l E M_MD_step 69 [(0, .inr 7), (1, .inl (x1)), (2, .inl (x2))] [] h Q := by
  refine wp_goto (tgt := 80) d_MD_step_69 (by decide) ?_
  refine wp_aload_n d_MD_step_80 rfl ?_
  refine wp_aload_n d_MD_step_81 rfl ?_
  refine wp_getI d_MD_step_82 fl_MD_113 rfl rfl ?_
  refine wp_iconst (v := nI 1) d_MD_step_85 c_iconst_1 ?_
  refine wp_iadd d_MD_step_86 ?_
  refine wp_putI d_MD_step_87 fm_MD_113 rfl rfl ?_
  refine wp_iload_n d_MD_step_90 rfl ?_
  refine wp_iconst (v := nI 1) d_MD_step_91 c_iconst_1 ?_
  refine wp_iadd d_MD_step_92 ?_
  refine wp_istore_n (ls' := [(0, .inr 7), (1, .inl (x1)), (2, .inl ((x2) + (nI 1)))]) d_MD_step_93 (by decide) rfl ?_
  refine wp_aload_n d_MD_step_94 rfl ?_
  refine wp_getI d_MD_step_95 fl_MD_113 rfl rfl ?_
  show WP l E M_MD_step 98 [(0, .inr 7), (1, .inl (x1)), (2, .inl ((x2) + (nI 1)))] [.inl ((h 7 13) + (nI 1))] (hw h 7 13 ((h 7 13) + (nI 1))) _
  refine wp_aload_n d_MD_step_98 rfl ?_
  refine wp_getI d_MD_step_99 fl_MD_116 rfl rfl ?_
  show WP l E M_MD_step 102 [(0, .inr 7), (1, .inl (x1)), (2, .inl ((x2) + (nI 1)))] [.inl (h 7 14), .inl ((h 7 13) + (nI 1))] (hw h 7 13 ((h 7 13) + (nI 1))) _
  refine wp_ic_ne (tgt := 22) d_MD_step_102 (by decide) (fun c1 => ?_) (fun c1 => ?_)
  · exact e1 c1
  · refine wp_aload_n d_MD_step_105 rfl ?_
    refine wp_callV (as := []) (rest := []) (Q' := fun r h' => WP l E M_MD_step 109 [(0, .inr 7), (1, .inl (x1)), (2, .inl ((x2) + (nI 1)))] (rpush r []) h' Q) d_MD_step_106 vb_MD_step_186 ⟨gw_4_14, sw_44⟩ rfl rfl rfl rfl (Nat.le_of_ble_eq_true rfl) rfl (Nat.le_of_ble_eq_true rfl) ?_ (fun r h' z => z)
    exact e2 c1
set_option maxRecDepth 100000 in
set_option maxHeartbeats 4000000 in
theorem k_MD_step_50 {l : Launch} {E : xE} {x1 x2 : Int32} {h : xh} {Q : Option Int32 → xh → Prop}
    (e1 : ((h 7 13) + (nI 1)) ≠ (h 7 14) → WP l E M_MD_step 22 [(0, .inr 7), (1, .inl (x1)), (2, .inl ((x2) + (nI 1)))] [] (hw h 7 13 ((h 7 13) + (nI 1))) Q)
    (e2 : ((h 7 13) + (nI 1)) = (h 7 14) → MC l E M_MD_finish [.inr 7] (hw h 7 13 ((h 7 13) + (nI 1))) (fun r h' => WP l E M_MD_step 109 [(0, .inr 7), (1, .inl (x1)), (2, .inl ((x2) + (nI 1)))] (rpush r []) h' Q)) : WP l E M_MD_step 50 [(0, .inr 7), (1, .inl (x1)), (2, .inl (x2))] [] h Q := by
  refine wp_goto (tgt := 80) d_MD_step_50 (by decide) ?_
  refine wp_aload_n d_MD_step_80 rfl ?_
  refine wp_aload_n d_MD_step_81 rfl ?_
  refine wp_getI d_MD_step_82 fl_MD_113 rfl rfl ?_
  refine wp_iconst (v := nI 1) d_MD_step_85 c_iconst_1 ?_
  refine wp_iadd d_MD_step_86 ?_
  refine wp_putI d_MD_step_87 fm_MD_113 rfl rfl ?_
  refine wp_iload_n d_MD_step_90 rfl ?_
  refine wp_iconst (v := nI 1) d_MD_step_91 c_iconst_1 ?_
  refine wp_iadd d_MD_step_92 ?_
  refine wp_istore_n (ls' := [(0, .inr 7), (1, .inl (x1)), (2, .inl ((x2) + (nI 1)))]) d_MD_step_93 (by decide) rfl ?_
  refine wp_aload_n d_MD_step_94 rfl ?_
  refine wp_getI d_MD_step_95 fl_MD_113 rfl rfl ?_
  show WP l E M_MD_step 98 [(0, .inr 7), (1, .inl (x1)), (2, .inl ((x2) + (nI 1)))] [.inl ((h 7 13) + (nI 1))] (hw h 7 13 ((h 7 13) + (nI 1))) _
  refine wp_aload_n d_MD_step_98 rfl ?_
  refine wp_getI d_MD_step_99 fl_MD_116 rfl rfl ?_
  show WP l E M_MD_step 102 [(0, .inr 7), (1, .inl (x1)), (2, .inl ((x2) + (nI 1)))] [.inl (h 7 14), .inl ((h 7 13) + (nI 1))] (hw h 7 13 ((h 7 13) + (nI 1))) _
  refine wp_ic_ne (tgt := 22) d_MD_step_102 (by decide) (fun c1 => ?_) (fun c1 => ?_)
  · exact e1 c1
  · refine wp_aload_n d_MD_step_105 rfl ?_
    refine wp_callV (as := []) (rest := []) (Q' := fun r h' => WP l E M_MD_step 109 [(0, .inr 7), (1, .inl (x1)), (2, .inl ((x2) + (nI 1)))] (rpush r []) h' Q) d_MD_step_106 vb_MD_step_186 ⟨gw_4_14, sw_44⟩ rfl rfl rfl rfl (Nat.le_of_ble_eq_true rfl) rfl (Nat.le_of_ble_eq_true rfl) ?_ (fun r h' z => z)
    exact e2 c1
set_option maxRecDepth 100000 in
set_option maxHeartbeats 4000000 in
theorem k_MD_step_109 {l : Launch} {E : xE} {x1 x2 : Int32} {h : xh} {Q : Option Int32 → xh → Prop}
    (e1 : WP l E M_MD_step 22 [(0, .inr 7), (1, .inl (x1)), (2, .inl (x2))] [] h Q) : WP l E M_MD_step 109 [(0, .inr 7), (1, .inl (x1)), (2, .inl (x2))] [] h Q := by
  refine wp_goto (tgt := 22) d_MD_step_109 (by decide) ?_
  exact e1
set_option maxRecDepth 100000 in
set_option maxHeartbeats 4000000 in
theorem k_MD_crash_0 {l : Launch} {E : xE} {x1 x2 : Int32} {h : xh} {Q : Option Int32 → xh → Prop}
    (e1 : WP l E M_MD_crash 8 [(0, .inr 7), (1, .inl (x1)), (2, .inl (x2)), (3, .inl ((-1))), (4, .inl (nI 0)), (5, .inl (nI 0))] [] h Q) : MC l E M_MD_crash [.inr 7, .inl (x1), .inl (x2)] h Q := by
  refine wp_iconst (v := (-1)) d_MD_crash_0 c_iconst_m1 ?_
  refine wp_istore_n (ls' := [(0, .inr 7), (1, .inl (x1)), (2, .inl (x2)), (3, .inl ((-1)))]) d_MD_crash_1 (by decide) rfl ?_
  refine wp_iconst (v := nI 0) d_MD_crash_2 c_iconst_0 ?_
  refine wp_istore (ls' := [(0, .inr 7), (1, .inl (x1)), (2, .inl (x2)), (3, .inl ((-1))), (4, .inl (nI 0))]) d_MD_crash_3 (by decide) rfl ?_
  refine wp_iconst (v := nI 0) d_MD_crash_5 c_iconst_0 ?_
  refine wp_istore (ls' := [(0, .inr 7), (1, .inl (x1)), (2, .inl (x2)), (3, .inl ((-1))), (4, .inl (nI 0)), (5, .inl (nI 0))]) d_MD_crash_6 (by decide) rfl ?_
  exact e1
set_option maxRecDepth 100000 in
set_option maxHeartbeats 4000000 in
theorem k_MD_crash_8 {l : Launch} {E : xE} {x1 x2 x3 x4 x5 : Int32} {h : xh} {Q : Option Int32 → xh → Prop}
    (e1 : (h 7 1) ≤ x5 → WP l E M_MD_crash 71 [(0, .inr 7), (1, .inl (x1)), (2, .inl (x2)), (3, .inl (x3)), (4, .inl (x4)), (5, .inl (nI 0))] [] h Q)
    (e2 : ¬ (h 7 1) ≤ x5 → (((x1) >>> ((x5) &&& 31)) &&& (nI 1)) ≠ (nI 1) → WP l E M_MD_crash 8 [(0, .inr 7), (1, .inl (x1)), (2, .inl (x2)), (3, .inl (x3)), (4, .inl ((x4) + (nI 1))), (5, .inl (x5 + nI 1))] [] h Q)
    (e3 : ¬ (h 7 1) ≤ x5 → (((x1) >>> ((x5) &&& 31)) &&& (nI 1)) = (nI 1) → WP l E M_MD_crash 8 [(0, .inr 7), (1, .inl (x1)), (2, .inl (x2)), (3, .inl (x5)), (4, .inl (x4)), (5, .inl (x5 + nI 1))] [] h Q) : WP l E M_MD_crash 8 [(0, .inr 7), (1, .inl (x1)), (2, .inl (x2)), (3, .inl (x3)), (4, .inl (x4)), (5, .inl (x5))] [] h Q := by
  refine wp_iload d_MD_crash_8 rfl ?_
  refine wp_aload_n d_MD_crash_10 rfl ?_
  refine wp_getI d_MD_crash_11 fl_MD_50 rfl rfl ?_
  refine wp_ic_ge (tgt := 68) d_MD_crash_14 (by decide) (fun c1 => ?_) (fun c1 => ?_)
  · refine wp_iconst (v := nI 0) d_MD_crash_68 c_iconst_0 ?_
    refine wp_istore (ls' := [(0, .inr 7), (1, .inl (x1)), (2, .inl (x2)), (3, .inl (x3)), (4, .inl (x4)), (5, .inl (nI 0))]) d_MD_crash_69 (by decide) rfl ?_
    exact e1 c1
  · refine wp_iload_n d_MD_crash_17 rfl ?_
    refine wp_iload d_MD_crash_18 rfl ?_
    refine wp_ishr d_MD_crash_20 ?_
    refine wp_iconst (v := nI 1) d_MD_crash_21 c_iconst_1 ?_
    refine wp_iand d_MD_crash_22 ?_
    refine wp_iconst (v := nI 1) d_MD_crash_23 c_iconst_1 ?_
    refine wp_ic_ne (tgt := 31) d_MD_crash_24 (by decide) (fun c2 => ?_) (fun c2 => ?_)
    · refine wp_iconst (v := nI 0) d_MD_crash_31 c_iconst_0 ?_
      refine wp_istore (ls' := [(0, .inr 7), (1, .inl (x1)), (2, .inl (x2)), (3, .inl (x3)), (4, .inl (x4)), (5, .inl (x5)), (6, .inl (nI 0))]) d_MD_crash_32 (by decide) rfl ?_
      refine wp_iload d_MD_crash_34 rfl ?_
      refine wp_if_eq (tgt := 44) d_MD_crash_36 (by decide) (fun _ => ?_) (fun z => absurd z (by decide +kernel))
      refine wp_iload_n d_MD_crash_44 rfl ?_
      refine wp_istore_n (ls' := [(0, .inr 7), (1, .inl (x1)), (2, .inl (x2)), (3, .inl (x3)), (4, .inl (x4)), (5, .inl (x5)), (6, .inl (nI 0))]) d_MD_crash_45 (by decide) rfl ?_
      refine wp_iload d_MD_crash_46 rfl ?_
      refine wp_if_eq (tgt := 56) d_MD_crash_48 (by decide) (fun _ => ?_) (fun z => absurd z (by decide +kernel))
      refine wp_iload d_MD_crash_56 rfl ?_
      refine wp_iconst (v := nI 1) d_MD_crash_58 c_iconst_1 ?_
      refine wp_iadd d_MD_crash_59 ?_
      refine wp_istore (ls' := [(0, .inr 7), (1, .inl (x1)), (2, .inl (x2)), (3, .inl (x3)), (4, .inl ((x4) + (nI 1))), (5, .inl (x5)), (6, .inl (nI 0))]) d_MD_crash_60 (by decide) rfl ?_
      refine wp_iinc (v := x5 + nI 1) (ls' := [(0, .inr 7), (1, .inl (x1)), (2, .inl (x2)), (3, .inl (x3)), (4, .inl ((x4) + (nI 1))), (5, .inl (x5 + nI 1)), (6, .inl (nI 0))]) d_MD_crash_62 rfl (c_inc_1 _) (by decide) rfl ?_
      refine wp_goto (tgt := 8) d_MD_crash_65 (by decide) ?_
      refine wp_sub (ls' := [(0, .inr 7), (1, .inl (x1)), (2, .inl (x2)), (3, .inl (x3)), (4, .inl ((x4) + (nI 1))), (5, .inl (x5 + nI 1))]) [0, 1, 2, 3, 4, 5] rfl ?_
      exact e2 c1 c2
    · refine wp_iconst (v := nI 1) d_MD_crash_27 c_iconst_1 ?_
      refine wp_goto (tgt := 32) d_MD_crash_28 (by decide) ?_
      refine wp_istore (ls' := [(0, .inr 7), (1, .inl (x1)), (2, .inl (x2)), (3, .inl (x3)), (4, .inl (x4)), (5, .inl (x5)), (6, .inl (nI 1))]) d_MD_crash_32 (by decide) rfl ?_
      refine wp_iload d_MD_crash_34 rfl ?_
      refine wp_if_eq (tgt := 44) d_MD_crash_36 (by decide) (fun z => absurd z (by decide +kernel)) (fun _ => ?_)
      refine wp_iload d_MD_crash_39 rfl ?_
      refine wp_goto (tgt := 45) d_MD_crash_41 (by decide) ?_
      refine wp_istore_n (ls' := [(0, .inr 7), (1, .inl (x1)), (2, .inl (x2)), (3, .inl (x5)), (4, .inl (x4)), (5, .inl (x5)), (6, .inl (nI 1))]) d_MD_crash_45 (by decide) rfl ?_
      refine wp_iload d_MD_crash_46 rfl ?_
      refine wp_if_eq (tgt := 56) d_MD_crash_48 (by decide) (fun z => absurd z (by decide +kernel)) (fun _ => ?_)
      refine wp_iload d_MD_crash_51 rfl ?_
      refine wp_goto (tgt := 60) d_MD_crash_53 (by decide) ?_
      refine wp_istore (ls' := [(0, .inr 7), (1, .inl (x1)), (2, .inl (x2)), (3, .inl (x5)), (4, .inl (x4)), (5, .inl (x5)), (6, .inl (nI 1))]) d_MD_crash_60 (by decide) rfl ?_
      refine wp_iinc (v := x5 + nI 1) (ls' := [(0, .inr 7), (1, .inl (x1)), (2, .inl (x2)), (3, .inl (x5)), (4, .inl (x4)), (5, .inl (x5 + nI 1)), (6, .inl (nI 1))]) d_MD_crash_62 rfl (c_inc_1 _) (by decide) rfl ?_
      refine wp_goto (tgt := 8) d_MD_crash_65 (by decide) ?_
      refine wp_sub (ls' := [(0, .inr 7), (1, .inl (x1)), (2, .inl (x2)), (3, .inl (x5)), (4, .inl (x4)), (5, .inl (x5 + nI 1))]) [0, 1, 2, 3, 4, 5] rfl ?_
      exact e3 c1 c2
set_option maxRecDepth 100000 in
set_option maxHeartbeats 4000000 in
theorem k_MD_crash_71 {l : Launch} {E : xE} {x1 x2 x3 x4 x5 : Int32} {h : xh} {Q : Option Int32 → xh → Prop}
    (e1 : (h 7 1) ≤ x5 → Q (some (x4)) (hw (hw (hw h 7 1 (nI 0)) 7 4 (nI 0)) 7 12 (nI 0)))
    (e2 : ¬ (h 7 1) ≤ x5 → (((x1) >>> ((x5) &&& 31)) &&& (nI 1)) ≠ (nI 1) → WP l E M_MD_crash 71 [(0, .inr 7), (1, .inl (x1)), (2, .inl (x2)), (3, .inl (x3)), (4, .inl (x4)), (5, .inl (x5 + nI 1))] [] h Q)
    (e3 : ¬ (h 7 1) ≤ x5 → (((x1) >>> ((x5) &&& 31)) &&& (nI 1)) = (nI 1) → x5 ≠ x3 → MC l E M_MD_settle [.inr 7, .inl (x5), .inl (nI 4)] h (fun r h' => WP l E M_MD_crash 116 [(0, .inr 7), (1, .inl (x1)), (2, .inl (x2)), (3, .inl (x3)), (4, .inl (x4)), (5, .inl (x5))] (rpush r []) h' Q))
    (e4 : ¬ (h 7 1) ≤ x5 → (((x1) >>> ((x5) &&& 31)) &&& (nI 1)) = (nI 1) → x5 = x3 → x2 < 0 → MC l E M_MD_settle [.inr 7, .inl (x5), .inl (nI 4)] h (fun r h' => WP l E M_MD_crash 116 [(0, .inr 7), (1, .inl (x1)), (2, .inl (x2)), (3, .inl (x3)), (4, .inl (x4)), (5, .inl (x5))] (rpush r []) h' Q))
    (e5 : ¬ (h 7 1) ≤ x5 → (((x1) >>> ((x5) &&& 31)) &&& (nI 1)) = (nI 1) → x5 = x3 → ¬ x2 < 0 → (nI 3) < x2 → MC l E M_MD_settle [.inr 7, .inl (x5), .inl (nI 4)] h (fun r h' => WP l E M_MD_crash 116 [(0, .inr 7), (1, .inl (x1)), (2, .inl (x2)), (3, .inl (x3)), (4, .inl (x4)), (5, .inl (x5))] (rpush r []) h' Q))
    (e6 : ¬ (h 7 1) ≤ x5 → (((x1) >>> ((x5) &&& 31)) &&& (nI 1)) = (nI 1) → x5 = x3 → ¬ x2 < 0 → ¬ (nI 3) < x2 → MC l E M_MD_settle [.inr 7, .inl (x5), .inl (x2)] h (fun r h' => WP l E M_MD_crash 116 [(0, .inr 7), (1, .inl (x1)), (2, .inl (x2)), (3, .inl (x3)), (4, .inl (x4)), (5, .inl (x5))] (rpush r []) h' Q)) : WP l E M_MD_crash 71 [(0, .inr 7), (1, .inl (x1)), (2, .inl (x2)), (3, .inl (x3)), (4, .inl (x4)), (5, .inl (x5))] [] h Q := by
  refine wp_iload d_MD_crash_71 rfl ?_
  refine wp_aload_n d_MD_crash_73 rfl ?_
  refine wp_getI d_MD_crash_74 fl_MD_50 rfl rfl ?_
  refine wp_ic_ge (tgt := 122) d_MD_crash_77 (by decide) (fun c1 => ?_) (fun c1 => ?_)
  · refine wp_aload_n d_MD_crash_122 rfl ?_
    refine wp_iconst (v := nI 0) d_MD_crash_123 c_iconst_0 ?_
    refine wp_putI d_MD_crash_124 fm_MD_50 rfl rfl ?_
    refine wp_aload_n d_MD_crash_127 rfl ?_
    refine wp_iconst (v := nI 0) d_MD_crash_128 c_iconst_0 ?_
    refine wp_putZ d_MD_crash_129 fm_MD_19 rfl rfl (by decide) ?_
    refine wp_aload_n d_MD_crash_132 rfl ?_
    refine wp_iconst (v := nI 0) d_MD_crash_133 c_iconst_0 ?_
    refine wp_putI d_MD_crash_134 fm_MD_69 rfl rfl ?_
    refine wp_iload d_MD_crash_137 rfl ?_
    refine wp_ireturn d_MD_crash_139 rfl ?_
    exact e1 c1
  · refine wp_iload_n d_MD_crash_80 rfl ?_
    refine wp_iload d_MD_crash_81 rfl ?_
    refine wp_ishr d_MD_crash_83 ?_
    refine wp_iconst (v := nI 1) d_MD_crash_84 c_iconst_1 ?_
    refine wp_iand d_MD_crash_85 ?_
    refine wp_iconst (v := nI 1) d_MD_crash_86 c_iconst_1 ?_
    refine wp_ic_ne (tgt := 116) d_MD_crash_87 (by decide) (fun c2 => ?_) (fun c2 => ?_)
    · refine wp_iinc (v := x5 + nI 1) (ls' := [(0, .inr 7), (1, .inl (x1)), (2, .inl (x2)), (3, .inl (x3)), (4, .inl (x4)), (5, .inl (x5 + nI 1))]) d_MD_crash_116 rfl (c_inc_1 _) (by decide) rfl ?_
      refine wp_goto (tgt := 71) d_MD_crash_119 (by decide) ?_
      exact e2 c1 c2
    · refine wp_aload_n d_MD_crash_90 rfl ?_
      refine wp_iload d_MD_crash_91 rfl ?_
      refine wp_iload d_MD_crash_93 rfl ?_
      refine wp_iload_n d_MD_crash_95 rfl ?_
      refine wp_ic_ne (tgt := 112) d_MD_crash_96 (by decide) (fun c3 => ?_) (fun c3 => ?_)
      · refine wp_iconst (v := nI 4) d_MD_crash_112 c_iconst_4 ?_
        refine wp_callV (as := [.inl (x5), .inl (nI 4)]) (rest := []) (Q' := fun r h' => WP l E M_MD_crash 116 [(0, .inr 7), (1, .inl (x1)), (2, .inl (x2)), (3, .inl (x3)), (4, .inl (x4)), (5, .inl (x5))] (rpush r []) h' Q) d_MD_crash_113 vb_MD_crash_53 ⟨gw_4_2, sw_41⟩ rfl rfl rfl rfl (Nat.le_of_ble_eq_true rfl) rfl (Nat.le_of_ble_eq_true rfl) ?_ (fun r h' z => z)
        exact e3 c1 c2 c3
      · refine wp_iload_n d_MD_crash_99 rfl ?_
        refine wp_if_lt (tgt := 112) d_MD_crash_100 (by decide) (fun c4 => ?_) (fun c4 => ?_)
        · refine wp_iconst (v := nI 4) d_MD_crash_112 c_iconst_4 ?_
          refine wp_callV (as := [.inl (x5), .inl (nI 4)]) (rest := []) (Q' := fun r h' => WP l E M_MD_crash 116 [(0, .inr 7), (1, .inl (x1)), (2, .inl (x2)), (3, .inl (x3)), (4, .inl (x4)), (5, .inl (x5))] (rpush r []) h' Q) d_MD_crash_113 vb_MD_crash_53 ⟨gw_4_2, sw_41⟩ rfl rfl rfl rfl (Nat.le_of_ble_eq_true rfl) rfl (Nat.le_of_ble_eq_true rfl) ?_ (fun r h' z => z)
          exact e4 c1 c2 c3 c4
        · refine wp_iload_n d_MD_crash_103 rfl ?_
          refine wp_iconst (v := nI 3) d_MD_crash_104 c_iconst_3 ?_
          refine wp_ic_gt (tgt := 112) d_MD_crash_105 (by decide) (fun c5 => ?_) (fun c5 => ?_)
          · refine wp_iconst (v := nI 4) d_MD_crash_112 c_iconst_4 ?_
            refine wp_callV (as := [.inl (x5), .inl (nI 4)]) (rest := []) (Q' := fun r h' => WP l E M_MD_crash 116 [(0, .inr 7), (1, .inl (x1)), (2, .inl (x2)), (3, .inl (x3)), (4, .inl (x4)), (5, .inl (x5))] (rpush r []) h' Q) d_MD_crash_113 vb_MD_crash_53 ⟨gw_4_2, sw_41⟩ rfl rfl rfl rfl (Nat.le_of_ble_eq_true rfl) rfl (Nat.le_of_ble_eq_true rfl) ?_ (fun r h' z => z)
            exact e5 c1 c2 c3 c4 c5
          · refine wp_iload_n d_MD_crash_108 rfl ?_
            refine wp_goto (tgt := 113) d_MD_crash_109 (by decide) ?_
            refine wp_callV (as := [.inl (x5), .inl (x2)]) (rest := []) (Q' := fun r h' => WP l E M_MD_crash 116 [(0, .inr 7), (1, .inl (x1)), (2, .inl (x2)), (3, .inl (x3)), (4, .inl (x4)), (5, .inl (x5))] (rpush r []) h' Q) d_MD_crash_113 vb_MD_crash_53 ⟨gw_4_2, sw_41⟩ rfl rfl rfl rfl (Nat.le_of_ble_eq_true rfl) rfl (Nat.le_of_ble_eq_true rfl) ?_ (fun r h' z => z)
            exact e6 c1 c2 c3 c4 c5
set_option maxRecDepth 100000 in
set_option maxHeartbeats 4000000 in
theorem k_MD_crash_116 {l : Launch} {E : xE} {x1 x2 x3 x4 x5 : Int32} {h : xh} {Q : Option Int32 → xh → Prop}
    (e1 : WP l E M_MD_crash 71 [(0, .inr 7), (1, .inl (x1)), (2, .inl (x2)), (3, .inl (x3)), (4, .inl (x4)), (5, .inl (x5 + nI 1))] [] h Q) : WP l E M_MD_crash 116 [(0, .inr 7), (1, .inl (x1)), (2, .inl (x2)), (3, .inl (x3)), (4, .inl (x4)), (5, .inl (x5))] [] h Q := by
  refine wp_iinc (v := x5 + nI 1) (ls' := [(0, .inr 7), (1, .inl (x1)), (2, .inl (x2)), (3, .inl (x3)), (4, .inl (x4)), (5, .inl (x5 + nI 1))]) d_MD_crash_116 rfl (c_inc_1 _) (by decide) rfl ?_
  refine wp_goto (tgt := 71) d_MD_crash_119 (by decide) ?_
  exact e1
set_option maxRecDepth 100000 in
set_option maxHeartbeats 4000000 in
theorem k_MD_state_0 {l : Launch} {E : xE} {h : xh} {Q : Option Int32 → xh → Prop}
    (e1 : (h 7 12) = 0 → (h 7 4) = 0 → Q (some (nI 0)) h)
    (e2 : (h 7 12) = 0 → ¬ (h 7 4) = 0 → Q (some (nI 1)) h)
    (e3 : ¬ (h 7 12) = 0 → Q (some (h 7 12)) h) : MC l E M_MD_state [.inr 7] h Q := by
  refine wp_aload_n d_MD_state_0 rfl ?_
  refine wp_getI d_MD_state_1 fl_MD_69 rfl rfl ?_
  refine wp_if_eq (tgt := 14) d_MD_state_4 (by decide) (fun c1 => ?_) (fun c1 => ?_)
  · refine wp_aload_n d_MD_state_14 rfl ?_
    refine wp_getI d_MD_state_15 fl_MD_19 rfl rfl ?_
    refine wp_if_eq (tgt := 25) d_MD_state_18 (by decide) (fun c2 => ?_) (fun c2 => ?_)
    · refine wp_iconst (v := nI 0) d_MD_state_25 c_iconst_0 ?_
      refine wp_ireturn d_MD_state_26 rfl ?_
      exact e1 c1 c2
    · refine wp_iconst (v := nI 1) d_MD_state_21 c_iconst_1 ?_
      refine wp_goto (tgt := 26) d_MD_state_22 (by decide) ?_
      refine wp_ireturn d_MD_state_26 rfl ?_
      exact e2 c1 c2
  · refine wp_aload_n d_MD_state_7 rfl ?_
    refine wp_getI d_MD_state_8 fl_MD_69 rfl rfl ?_
    refine wp_goto (tgt := 26) d_MD_state_11 (by decide) ?_
    refine wp_ireturn d_MD_state_26 rfl ?_
    exact e3 c1
set_option maxRecDepth 100000 in
set_option maxHeartbeats 4000000 in
theorem k_MD_number_0 {l : Launch} {E : xE} {h : xh} {Q : Option Int32 → xh → Prop}
    (e1 : (h 7 4) = 0 → Q (some ((-1))) h)
    (e2 : ¬ (h 7 4) = 0 → Q (some (h 7 5)) h) : MC l E M_MD_number [.inr 7] h Q := by
  refine wp_aload_n d_MD_number_0 rfl ?_
  refine wp_getI d_MD_number_1 fl_MD_19 rfl rfl ?_
  refine wp_if_eq (tgt := 14) d_MD_number_4 (by decide) (fun c1 => ?_) (fun c1 => ?_)
  · refine wp_iconst (v := (-1)) d_MD_number_14 c_iconst_m1 ?_
    refine wp_ireturn d_MD_number_15 rfl ?_
    exact e1 c1
  · refine wp_aload_n d_MD_number_7 rfl ?_
    refine wp_getI d_MD_number_8 fl_MD_23 rfl rfl ?_
    refine wp_goto (tgt := 15) d_MD_number_11 (by decide) ?_
    refine wp_ireturn d_MD_number_15 rfl ?_
    exact e2 c1
set_option maxRecDepth 100000 in
set_option maxHeartbeats 4000000 in
theorem k_MD_used_0 {l : Launch} {E : xE} {h : xh} {Q : Option Int32 → xh → Prop}
    (e1 : (h 7 4) = 0 → Q (some ((-1))) h)
    (e2 : ¬ (h 7 4) = 0 → Q (some (h 7 7)) h) : MC l E M_MD_used [.inr 7] h Q := by
  refine wp_aload_n d_MD_used_0 rfl ?_
  refine wp_getI d_MD_used_1 fl_MD_19 rfl rfl ?_
  refine wp_if_eq (tgt := 14) d_MD_used_4 (by decide) (fun c1 => ?_) (fun c1 => ?_)
  · refine wp_iconst (v := (-1)) d_MD_used_14 c_iconst_m1 ?_
    refine wp_ireturn d_MD_used_15 rfl ?_
    exact e1 c1
  · refine wp_aload_n d_MD_used_7 rfl ?_
    refine wp_getI d_MD_used_8 fl_MD_110 rfl rfl ?_
    refine wp_goto (tgt := 15) d_MD_used_11 (by decide) ?_
    refine wp_ireturn d_MD_used_15 rfl ?_
    exact e2 c1
set_option maxRecDepth 100000 in
set_option maxHeartbeats 4000000 in
theorem k_MD_left_0 {l : Launch} {E : xE} {h : xh} {Q : Option Int32 → xh → Prop}
    (e1 : (h 7 12) ≠ 0 → Q (some ((h 7 14) - (h 7 13))) h)
    (e2 : (h 7 12) = 0 → Q (some (nI 0)) h) : MC l E M_MD_left [.inr 7] h Q := by
  refine wp_aload_n d_MD_left_0 rfl ?_
  refine wp_getI d_MD_left_1 fl_MD_69 rfl rfl ?_
  refine wp_if_ne (tgt := 11) d_MD_left_4 (by decide) (fun c1 => ?_) (fun c1 => ?_)
  · refine wp_aload_n d_MD_left_11 rfl ?_
    refine wp_getI d_MD_left_12 fl_MD_116 rfl rfl ?_
    refine wp_aload_n d_MD_left_15 rfl ?_
    refine wp_getI d_MD_left_16 fl_MD_113 rfl rfl ?_
    refine wp_isub d_MD_left_19 ?_
    refine wp_ireturn d_MD_left_20 rfl ?_
    exact e1 c1
  · refine wp_iconst (v := nI 0) d_MD_left_7 c_iconst_0 ?_
    refine wp_goto (tgt := 20) d_MD_left_8 (by decide) ?_
    refine wp_ireturn d_MD_left_20 rfl ?_
    exact e2 c1
