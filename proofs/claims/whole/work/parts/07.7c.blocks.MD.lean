set_option maxRecDepth 100000 in
set_option maxHeartbeats 4000000 in
theorem k_MD_countPending_0 {l : Launch} {E : xE} {h : xh} {Q : Option Int32 → xh → Prop}
    (e1 : WP l E M_MD_countPending 4 [(0, .inr 7), (1, .inl (nI 0)), (2, .inl (nI 0))] [] h Q) : MC l E M_MD_countPending [.inr 7] h Q := by
  refine wp_iconst (v := nI 0) d_MD_countPending_0 c_iconst_0 ?_
  refine wp_istore_n (ls' := [(0, .inr 7), (1, .inl (nI 0))]) d_MD_countPending_1 (by decide) rfl ?_
  refine wp_iconst (v := nI 0) d_MD_countPending_2 c_iconst_0 ?_
  refine wp_istore_n (ls' := [(0, .inr 7), (1, .inl (nI 0)), (2, .inl (nI 0))]) d_MD_countPending_3 (by decide) rfl ?_
  exact e1
set_option maxRecDepth 100000 in
set_option maxHeartbeats 4000000 in
theorem k_MD_countPending_4 {l : Launch} {E : xE} {x1 x2 : Int32} {h : xh} {Q : Option Int32 → xh → Prop}
    (e1 : (nI 16) ≤ x2 → Q (some (x1)) h)
    (o1 : ¬ (nI 16) ≤ x2 → vp_in (x2) 16)
    (e2 : ¬ (nI 16) ≤ x2 → (h 30 ((x2).toNatClampNeg)) = 0 → WP l E M_MD_countPending 4 [(0, .inr 7), (1, .inl (x1)), (2, .inl (x2 + nI 1))] [] h Q)
    (e3 : ¬ (nI 16) ≤ x2 → ¬ (h 30 ((x2).toNatClampNeg)) = 0 → WP l E M_MD_countPending 4 [(0, .inr 7), (1, .inl ((x1) + (nI 1))), (2, .inl (x2 + nI 1))] [] h Q) : WP l E M_MD_countPending 4 [(0, .inr 7), (1, .inl (x1)), (2, .inl (x2))] [] h Q := by
  refine wp_iload_n d_MD_countPending_4 rfl ?_
  refine wp_bipush (v := nI 16) d_MD_countPending_5 c_bipush_16 ?_
  refine wp_ic_ge (tgt := 33) d_MD_countPending_7 (by decide) (fun c1 => ?_) (fun c1 => ?_)
  · refine wp_iload_n d_MD_countPending_33 rfl ?_
    refine wp_ireturn d_MD_countPending_34 rfl ?_
    exact e1 c1
  · refine wp_aload_n d_MD_countPending_10 rfl ?_
    refine wp_getR d_MD_countPending_11 fl_MD_33 rfl rfl ?_
    refine wp_iload_n d_MD_countPending_14 rfl ?_
    refine wp_baload d_MD_countPending_15 rfl (o1 c1) ?_
    refine wp_if_eq (tgt := 25) d_MD_countPending_16 (by decide) (fun c2 => ?_) (fun c2 => ?_)
    · refine wp_iload_n d_MD_countPending_25 rfl ?_
      refine wp_istore_n (ls' := [(0, .inr 7), (1, .inl (x1)), (2, .inl (x2))]) d_MD_countPending_26 (by decide) rfl ?_
      refine wp_iinc (v := x2 + nI 1) (ls' := [(0, .inr 7), (1, .inl (x1)), (2, .inl (x2 + nI 1))]) d_MD_countPending_27 rfl (c_inc_1 _) (by decide) rfl ?_
      refine wp_goto (tgt := 4) d_MD_countPending_30 (by decide) ?_
      exact e2 c1 c2
    · refine wp_iload_n d_MD_countPending_19 rfl ?_
      refine wp_iconst (v := nI 1) d_MD_countPending_20 c_iconst_1 ?_
      refine wp_iadd d_MD_countPending_21 ?_
      refine wp_goto (tgt := 26) d_MD_countPending_22 (by decide) ?_
      refine wp_istore_n (ls' := [(0, .inr 7), (1, .inl ((x1) + (nI 1))), (2, .inl (x2))]) d_MD_countPending_26 (by decide) rfl ?_
      refine wp_iinc (v := x2 + nI 1) (ls' := [(0, .inr 7), (1, .inl ((x1) + (nI 1))), (2, .inl (x2 + nI 1))]) d_MD_countPending_27 rfl (c_inc_1 _) (by decide) rfl ?_
      refine wp_goto (tgt := 4) d_MD_countPending_30 (by decide) ?_
      exact e3 c1 c2
set_option maxRecDepth 100000 in
set_option maxHeartbeats 4000000 in
theorem k_MD_checkpoint_0 {l : Launch} {E : xE} {h : xh} {Q : Option Int32 → xh → Prop}
    (e1 : (h 7 4) = 0 → Q (some ((-1))) h)
    (e2 : ¬ (h 7 4) = 0 → (h 7 12) ≠ 0 → Q (some ((-1))) h)
    (e3 : ¬ (h 7 4) = 0 → (h 7 12) = 0 → MC l E M_MD_countPending [.inr 7] (hw (hw h 7 12 (nI 3)) 7 13 (nI 0)) (fun r h' => WP l E M_MD_checkpoint 24 [(0, .inr 7)] (rpush r [.inr 7]) h' Q)) : MC l E M_MD_checkpoint [.inr 7] h Q := by
  refine wp_aload_n d_MD_checkpoint_0 rfl ?_
  refine wp_callV (as := []) (rest := []) (Q' := fun r h' => WP l E M_MD_checkpoint 4 [(0, .inr 7)] (rpush r []) h' _) d_MD_checkpoint_1 vb_MD_checkpoint_72 ⟨gw_3_129, sw_21⟩ rfl rfl rfl rfl (Nat.le_of_ble_eq_true rfl) rfl (Nat.le_of_ble_eq_true rfl) ?_ (fun r h' z => z)
  show WP l E M_MD_idle 0 [(0, .inr 7)] [] h _
  refine wp_aload_n d_MD_idle_0 rfl ?_
  refine wp_getI d_MD_idle_1 fl_MD_19 rfl rfl ?_
  refine wp_if_eq (tgt := 18) d_MD_idle_4 (by decide) (fun c1 => ?_) (fun c1 => ?_)
  · refine wp_iconst (v := nI 0) d_MD_idle_18 c_iconst_0 ?_
    refine wp_zreturn d_MD_idle_19 rfl (by decide) ?_
    show WP l E M_MD_checkpoint 4 [(0, .inr 7)] [.inl (nI 0)] h _
    refine wp_if_ne (tgt := 9) d_MD_checkpoint_4 (by decide) (fun z => absurd z (by decide +kernel)) (fun _ => ?_)
    refine wp_iconst (v := (-1)) d_MD_checkpoint_7 c_iconst_m1 ?_
    refine wp_ireturn d_MD_checkpoint_8 rfl ?_
    exact e1 c1
  · refine wp_aload_n d_MD_idle_7 rfl ?_
    refine wp_getI d_MD_idle_8 fl_MD_69 rfl rfl ?_
    refine wp_if_ne (tgt := 18) d_MD_idle_11 (by decide) (fun c2 => ?_) (fun c2 => ?_)
    · refine wp_iconst (v := nI 0) d_MD_idle_18 c_iconst_0 ?_
      refine wp_zreturn d_MD_idle_19 rfl (by decide) ?_
      show WP l E M_MD_checkpoint 4 [(0, .inr 7)] [.inl (nI 0)] h _
      refine wp_if_ne (tgt := 9) d_MD_checkpoint_4 (by decide) (fun z => absurd z (by decide +kernel)) (fun _ => ?_)
      refine wp_iconst (v := (-1)) d_MD_checkpoint_7 c_iconst_m1 ?_
      refine wp_ireturn d_MD_checkpoint_8 rfl ?_
      exact e2 c1 c2
    · refine wp_iconst (v := nI 1) d_MD_idle_14 c_iconst_1 ?_
      refine wp_goto (tgt := 19) d_MD_idle_15 (by decide) ?_
      refine wp_zreturn d_MD_idle_19 rfl (by decide) ?_
      show WP l E M_MD_checkpoint 4 [(0, .inr 7)] [.inl (nI 1)] h _
      refine wp_if_ne (tgt := 9) d_MD_checkpoint_4 (by decide) (fun _ => ?_) (fun z => absurd z (by decide +kernel))
      refine wp_aload_n d_MD_checkpoint_9 rfl ?_
      refine wp_iconst (v := nI 3) d_MD_checkpoint_10 c_iconst_3 ?_
      refine wp_putI d_MD_checkpoint_11 fm_MD_69 rfl rfl ?_
      refine wp_aload_n d_MD_checkpoint_14 rfl ?_
      refine wp_iconst (v := nI 0) d_MD_checkpoint_15 c_iconst_0 ?_
      refine wp_putI d_MD_checkpoint_16 fm_MD_113 rfl rfl ?_
      refine wp_aload_n d_MD_checkpoint_19 rfl ?_
      refine wp_aload_n d_MD_checkpoint_20 rfl ?_
      refine wp_callV (as := []) (rest := [.inr 7]) (Q' := fun r h' => WP l E M_MD_checkpoint 24 [(0, .inr 7)] (rpush r [.inr 7]) h' Q) d_MD_checkpoint_21 vb_MD_checkpoint_128 ⟨gw_3_166, sw_25⟩ rfl rfl rfl rfl (Nat.le_of_ble_eq_true rfl) rfl (Nat.le_of_ble_eq_true rfl) ?_ (fun r h' z => z)
      exact e3 c1 c2
set_option maxRecDepth 100000 in
set_option maxHeartbeats 4000000 in
theorem k_MD_checkpoint_24 {l : Launch} {E : xE} {v0 : Int32} {h : xh} {Q : Option Int32 → xh → Prop}
    (e1 : Q (some (((v0) + (nI 3)) - (nI 3))) (hw h 7 14 ((v0) + (nI 3)))) : WP l E M_MD_checkpoint 24 [(0, .inr 7)] [.inl (v0), .inr 7] h Q := by
  refine wp_iconst (v := nI 3) d_MD_checkpoint_24 c_iconst_3 ?_
  refine wp_iadd d_MD_checkpoint_25 ?_
  refine wp_putI d_MD_checkpoint_26 fm_MD_116 rfl rfl ?_
  refine wp_aload_n d_MD_checkpoint_29 rfl ?_
  refine wp_getI d_MD_checkpoint_30 fl_MD_116 rfl rfl ?_
  show WP l E M_MD_checkpoint 33 [(0, .inr 7)] [.inl ((v0) + (nI 3))] (hw h 7 14 ((v0) + (nI 3))) _
  refine wp_iconst (v := nI 3) d_MD_checkpoint_33 c_iconst_3 ?_
  refine wp_isub d_MD_checkpoint_34 ?_
  refine wp_ireturn d_MD_checkpoint_35 rfl ?_
  exact e1
set_option maxRecDepth 100000 in
set_option maxHeartbeats 4000000 in
theorem k_MD_checkpointAction_0 {l : Launch} {E : xE} {x1 : Int32} {h : xh} {Q : Option Int32 → xh → Prop}
    (e1 : ((h 7 14) - (nI 3)) ≤ x1 → x1 ≠ (((h 7 14) - (nI 3)) + (nI 1)) → MC l E M_MD_flush [.inr 7] h (fun r h' => WP l E M_MD_checkpointAction 161 [(0, .inr 7), (1, .inl (x1)), (2, .inl ((h 7 14) - (nI 3)))] (rpush r []) h' Q))
    (e2 : ((h 7 14) - (nI 3)) ≤ x1 → x1 = (((h 7 14) - (nI 3)) + (nI 1)) → MC l E M_MD_say [.inr 7, .inl (nI 77001), .inl (h 7 5), .inl (h 7 6), .inl (nI 0)] h (fun r h' => WP l E M_MD_checkpointAction 148 [(0, .inr 7), (1, .inl (x1)), (2, .inl ((h 7 14) - (nI 3)))] (rpush r []) h' Q))
    (e3 : ¬ ((h 7 14) - (nI 3)) ≤ x1 → WP l E M_MD_checkpointAction 17 [(0, .inr 7), (1, .inl (x1)), (2, .inl ((h 7 14) - (nI 3))), (3, .inl (nI 0)), (4, .inl (nI 0))] [] h Q) : MC l E M_MD_checkpointAction [.inr 7, .inl (x1)] h Q := by
  refine wp_aload_n d_MD_checkpointAction_0 rfl ?_
  refine wp_getI d_MD_checkpointAction_1 fl_MD_116 rfl rfl ?_
  refine wp_iconst (v := nI 3) d_MD_checkpointAction_4 c_iconst_3 ?_
  refine wp_isub d_MD_checkpointAction_5 ?_
  refine wp_istore_n (ls' := [(0, .inr 7), (1, .inl (x1)), (2, .inl ((h 7 14) - (nI 3)))]) d_MD_checkpointAction_6 (by decide) rfl ?_
  refine wp_iload_n d_MD_checkpointAction_7 rfl ?_
  refine wp_iload_n d_MD_checkpointAction_8 rfl ?_
  refine wp_ic_ge (tgt := 126) d_MD_checkpointAction_9 (by decide) (fun c1 => ?_) (fun c1 => ?_)
  · refine wp_iload_n d_MD_checkpointAction_126 rfl ?_
    refine wp_iload_n d_MD_checkpointAction_127 rfl ?_
    refine wp_iconst (v := nI 1) d_MD_checkpointAction_128 c_iconst_1 ?_
    refine wp_iadd d_MD_checkpointAction_129 ?_
    refine wp_ic_ne (tgt := 157) d_MD_checkpointAction_130 (by decide) (fun c2 => ?_) (fun c2 => ?_)
    · refine wp_aload_n d_MD_checkpointAction_157 rfl ?_
      refine wp_callV (as := []) (rest := []) (Q' := fun r h' => WP l E M_MD_checkpointAction 161 [(0, .inr 7), (1, .inl (x1)), (2, .inl ((h 7 14) - (nI 3)))] (rpush r []) h' Q) d_MD_checkpointAction_158 vb_MD_checkpointAction_125 ⟨gw_3_238, sw_40⟩ rfl rfl rfl rfl (Nat.le_of_ble_eq_true rfl) rfl (Nat.le_of_ble_eq_true rfl) ?_ (fun r h' z => z)
      exact e1 c1 c2
    · refine wp_aload_n d_MD_checkpointAction_133 rfl ?_
      refine wp_ldcN d_MD_checkpointAction_134 gw_3_29 c_lit_77001 ?_
      refine wp_aload_n d_MD_checkpointAction_136 rfl ?_
      refine wp_getI d_MD_checkpointAction_137 fl_MD_23 rfl rfl ?_
      refine wp_aload_n d_MD_checkpointAction_140 rfl ?_
      refine wp_getI d_MD_checkpointAction_141 fl_MD_119 rfl rfl ?_
      refine wp_iconst (v := nI 0) d_MD_checkpointAction_144 c_iconst_0 ?_
      refine wp_callV (as := [.inl (nI 77001), .inl (h 7 5), .inl (h 7 6), .inl (nI 0)]) (rest := []) (Q' := fun r h' => WP l E M_MD_checkpointAction 148 [(0, .inr 7), (1, .inl (x1)), (2, .inl ((h 7 14) - (nI 3)))] (rpush r []) h' Q) d_MD_checkpointAction_145 vb_MD_checkpointAction_94 ⟨gw_3_206, sw_33⟩ rfl rfl rfl rfl (Nat.le_of_ble_eq_true rfl) rfl (Nat.le_of_ble_eq_true rfl) ?_ (fun r h' z => z)
      exact e2 c1 c2
  · refine wp_iconst (v := nI 0) d_MD_checkpointAction_12 c_iconst_0 ?_
    refine wp_istore_n (ls' := [(0, .inr 7), (1, .inl (x1)), (2, .inl ((h 7 14) - (nI 3))), (3, .inl (nI 0))]) d_MD_checkpointAction_13 (by decide) rfl ?_
    refine wp_iconst (v := nI 0) d_MD_checkpointAction_14 c_iconst_0 ?_
    refine wp_istore (ls' := [(0, .inr 7), (1, .inl (x1)), (2, .inl ((h 7 14) - (nI 3))), (3, .inl (nI 0)), (4, .inl (nI 0))]) d_MD_checkpointAction_15 (by decide) rfl ?_
    exact e3 c1
set_option maxRecDepth 100000 in
set_option maxHeartbeats 4000000 in
theorem k_MD_checkpointAction_161 {l : Launch} {E : xE} {x1 x2 : Int32} {h : xh} {Q : Option Int32 → xh → Prop}
    (e1 : Q none h) : WP l E M_MD_checkpointAction 161 [(0, .inr 7), (1, .inl (x1)), (2, .inl (x2))] [] h Q := by
  refine wp_return d_MD_checkpointAction_161 rfl ?_
  exact e1
set_option maxRecDepth 100000 in
set_option maxHeartbeats 4000000 in
theorem k_MD_checkpointAction_148 {l : Launch} {E : xE} {x1 x2 : Int32} {h : xh} {Q : Option Int32 → xh → Prop}
    (e1 : MC l E M_MD_writeOut [.inr 7, .inl (nI 16)] h (fun r h' => WP l E M_MD_checkpointAction 154 [(0, .inr 7), (1, .inl (x1)), (2, .inl (x2))] (rpush r []) h' Q)) : WP l E M_MD_checkpointAction 148 [(0, .inr 7), (1, .inl (x1)), (2, .inl (x2))] [] h Q := by
  refine wp_aload_n d_MD_checkpointAction_148 rfl ?_
  refine wp_bipush (v := nI 16) d_MD_checkpointAction_149 c_bipush_16 ?_
  refine wp_callV (as := [.inl (nI 16)]) (rest := []) (Q' := fun r h' => WP l E M_MD_checkpointAction 154 [(0, .inr 7), (1, .inl (x1)), (2, .inl (x2))] (rpush r []) h' Q) d_MD_checkpointAction_151 vb_MD_checkpointAction_83 ⟨gw_3_146, sw_23⟩ rfl rfl rfl rfl (Nat.le_of_ble_eq_true rfl) rfl (Nat.le_of_ble_eq_true rfl) ?_ (fun r h' z => z)
  exact e1
set_option maxRecDepth 100000 in
set_option maxHeartbeats 4000000 in
theorem k_MD_checkpointAction_17 {l : Launch} {E : xE} {x1 x2 x3 x4 : Int32} {h : xh} {Q : Option Int32 → xh → Prop}
    (e1 : (nI 16) ≤ x4 → MC l E M_MD_writeOut [.inr 7, .inl (h 7 16)] h (fun r h' => WP l E M_MD_checkpointAction 123 [(0, .inr 7), (1, .inl (x1)), (2, .inl (x2)), (3, .inl (x3)), (4, .inl (x4))] (rpush r []) h' Q))
    (o1 : ¬ (nI 16) ≤ x4 → vp_in (x4) 16)
    (o2 : ¬ (nI 16) ≤ x4 → (h 30 ((x4).toNatClampNeg)) = 0 → vp_in (x4) 16)
    (e2 : ¬ (nI 16) ≤ x4 → (h 30 ((x4).toNatClampNeg)) = 0 → (h 30 ((x4).toNatClampNeg)) = 0 → WP l E M_MD_checkpointAction 17 [(0, .inr 7), (1, .inl (x1)), (2, .inl (x2)), (3, .inl (x3)), (4, .inl (x4 + nI 1))] [] h Q)
    (e3 : ¬ (nI 16) ≤ x4 → (h 30 ((x4).toNatClampNeg)) = 0 → ¬ (h 30 ((x4).toNatClampNeg)) = 0 → WP l E M_MD_checkpointAction 17 [(0, .inr 7), (1, .inl (x1)), (2, .inl (x2)), (3, .inl ((x3) + (nI 1))), (4, .inl (x4 + nI 1))] [] h Q)
    (o3 : ¬ (nI 16) ≤ x4 → ¬ (h 30 ((x4).toNatClampNeg)) = 0 → x3 ≠ x1 → vp_in (x4) 16)
    (e4 : ¬ (nI 16) ≤ x4 → ¬ (h 30 ((x4).toNatClampNeg)) = 0 → x3 ≠ x1 → (h 30 ((x4).toNatClampNeg)) = 0 → WP l E M_MD_checkpointAction 17 [(0, .inr 7), (1, .inl (x1)), (2, .inl (x2)), (3, .inl (x3)), (4, .inl (x4 + nI 1))] [] h Q)
    (e5 : ¬ (nI 16) ≤ x4 → ¬ (h 30 ((x4).toNatClampNeg)) = 0 → x3 ≠ x1 → ¬ (h 30 ((x4).toNatClampNeg)) = 0 → WP l E M_MD_checkpointAction 17 [(0, .inr 7), (1, .inl (x1)), (2, .inl (x2)), (3, .inl ((x3) + (nI 1))), (4, .inl (x4 + nI 1))] [] h Q)
    (o4 : ¬ (nI 16) ≤ x4 → ¬ (h 30 ((x4).toNatClampNeg)) = 0 → x3 = x1 → vp_in ((nI 4) * (x4)) 64)
    (o5 : ¬ (nI 16) ≤ x4 → ¬ (h 30 ((x4).toNatClampNeg)) = 0 → x3 = x1 → vp_in (((nI 4) * (x4)) + (nI 1)) 64)
    (o6 : ¬ (nI 16) ≤ x4 → ¬ (h 30 ((x4).toNatClampNeg)) = 0 → x3 = x1 → vp_in (((nI 4) * (x4)) + (nI 2)) 64)
    (o7 : ¬ (nI 16) ≤ x4 → ¬ (h 30 ((x4).toNatClampNeg)) = 0 → x3 = x1 → vp_in (((nI 4) * (x4)) + (nI 3)) 64)
    (e6 : ¬ (nI 16) ≤ x4 → ¬ (h 30 ((x4).toNatClampNeg)) = 0 → x3 = x1 → MC l E M_MD_say [.inr 7, .inl (h 31 (((nI 4) * (x4)).toNatClampNeg)), .inl (h 31 ((((nI 4) * (x4)) + (nI 1)).toNatClampNeg)), .inl (h 31 ((((nI 4) * (x4)) + (nI 2)).toNatClampNeg)), .inl (h 31 ((((nI 4) * (x4)) + (nI 3)).toNatClampNeg))] h (fun r h' => WP l E M_MD_checkpointAction 85 [(0, .inr 7), (1, .inl (x1)), (2, .inl (x2)), (3, .inl (x3)), (4, .inl (x4))] (rpush r []) h' Q)) : WP l E M_MD_checkpointAction 17 [(0, .inr 7), (1, .inl (x1)), (2, .inl (x2)), (3, .inl (x3)), (4, .inl (x4))] [] h Q := by
  refine wp_iload d_MD_checkpointAction_17 rfl ?_
  refine wp_bipush (v := nI 16) d_MD_checkpointAction_19 c_bipush_16 ?_
  refine wp_ic_ge (tgt := 115) d_MD_checkpointAction_21 (by decide) (fun c1 => ?_) (fun c1 => ?_)
  · refine wp_aload_n d_MD_checkpointAction_115 rfl ?_
    refine wp_aload_n d_MD_checkpointAction_116 rfl ?_
    refine wp_getI d_MD_checkpointAction_117 fl_MD_131 rfl rfl ?_
    refine wp_callV (as := [.inl (h 7 16)]) (rest := []) (Q' := fun r h' => WP l E M_MD_checkpointAction 123 [(0, .inr 7), (1, .inl (x1)), (2, .inl (x2)), (3, .inl (x3)), (4, .inl (x4))] (rpush r []) h' Q) d_MD_checkpointAction_120 vb_MD_checkpointAction_83 ⟨gw_3_146, sw_23⟩ rfl rfl rfl rfl (Nat.le_of_ble_eq_true rfl) rfl (Nat.le_of_ble_eq_true rfl) ?_ (fun r h' z => z)
    exact e1 c1
  · refine wp_aload_n d_MD_checkpointAction_24 rfl ?_
    refine wp_getR d_MD_checkpointAction_25 fl_MD_33 rfl rfl ?_
    refine wp_iload d_MD_checkpointAction_28 rfl ?_
    refine wp_baload d_MD_checkpointAction_30 rfl (o1 c1) ?_
    refine wp_if_eq (tgt := 91) d_MD_checkpointAction_31 (by decide) (fun c2 => ?_) (fun c2 => ?_)
    · refine wp_aload_n d_MD_checkpointAction_91 rfl ?_
      refine wp_getR d_MD_checkpointAction_92 fl_MD_33 rfl rfl ?_
      refine wp_iload d_MD_checkpointAction_95 rfl ?_
      refine wp_baload d_MD_checkpointAction_97 rfl (o2 c1 c2) ?_
      refine wp_if_eq (tgt := 107) d_MD_checkpointAction_98 (by decide) (fun c3 => ?_) (fun c3 => ?_)
      · refine wp_iload_n d_MD_checkpointAction_107 rfl ?_
        refine wp_istore_n (ls' := [(0, .inr 7), (1, .inl (x1)), (2, .inl (x2)), (3, .inl (x3)), (4, .inl (x4))]) d_MD_checkpointAction_108 (by decide) rfl ?_
        refine wp_iinc (v := x4 + nI 1) (ls' := [(0, .inr 7), (1, .inl (x1)), (2, .inl (x2)), (3, .inl (x3)), (4, .inl (x4 + nI 1))]) d_MD_checkpointAction_109 rfl (c_inc_1 _) (by decide) rfl ?_
        refine wp_goto (tgt := 17) d_MD_checkpointAction_112 (by decide) ?_
        exact e2 c1 c2 c3
      · refine wp_iload_n d_MD_checkpointAction_101 rfl ?_
        refine wp_iconst (v := nI 1) d_MD_checkpointAction_102 c_iconst_1 ?_
        refine wp_iadd d_MD_checkpointAction_103 ?_
        refine wp_goto (tgt := 108) d_MD_checkpointAction_104 (by decide) ?_
        refine wp_istore_n (ls' := [(0, .inr 7), (1, .inl (x1)), (2, .inl (x2)), (3, .inl ((x3) + (nI 1))), (4, .inl (x4))]) d_MD_checkpointAction_108 (by decide) rfl ?_
        refine wp_iinc (v := x4 + nI 1) (ls' := [(0, .inr 7), (1, .inl (x1)), (2, .inl (x2)), (3, .inl ((x3) + (nI 1))), (4, .inl (x4 + nI 1))]) d_MD_checkpointAction_109 rfl (c_inc_1 _) (by decide) rfl ?_
        refine wp_goto (tgt := 17) d_MD_checkpointAction_112 (by decide) ?_
        exact e3 c1 c2 c3
    · refine wp_iload_n d_MD_checkpointAction_34 rfl ?_
      refine wp_iload_n d_MD_checkpointAction_35 rfl ?_
      refine wp_ic_ne (tgt := 91) d_MD_checkpointAction_36 (by decide) (fun c4 => ?_) (fun c4 => ?_)
      · refine wp_aload_n d_MD_checkpointAction_91 rfl ?_
        refine wp_getR d_MD_checkpointAction_92 fl_MD_33 rfl rfl ?_
        refine wp_iload d_MD_checkpointAction_95 rfl ?_
        refine wp_baload d_MD_checkpointAction_97 rfl (o3 c1 c2 c4) ?_
        refine wp_if_eq (tgt := 107) d_MD_checkpointAction_98 (by decide) (fun c5 => ?_) (fun c5 => ?_)
        · refine wp_iload_n d_MD_checkpointAction_107 rfl ?_
          refine wp_istore_n (ls' := [(0, .inr 7), (1, .inl (x1)), (2, .inl (x2)), (3, .inl (x3)), (4, .inl (x4))]) d_MD_checkpointAction_108 (by decide) rfl ?_
          refine wp_iinc (v := x4 + nI 1) (ls' := [(0, .inr 7), (1, .inl (x1)), (2, .inl (x2)), (3, .inl (x3)), (4, .inl (x4 + nI 1))]) d_MD_checkpointAction_109 rfl (c_inc_1 _) (by decide) rfl ?_
          refine wp_goto (tgt := 17) d_MD_checkpointAction_112 (by decide) ?_
          exact e4 c1 c2 c4 c5
        · refine wp_iload_n d_MD_checkpointAction_101 rfl ?_
          refine wp_iconst (v := nI 1) d_MD_checkpointAction_102 c_iconst_1 ?_
          refine wp_iadd d_MD_checkpointAction_103 ?_
          refine wp_goto (tgt := 108) d_MD_checkpointAction_104 (by decide) ?_
          refine wp_istore_n (ls' := [(0, .inr 7), (1, .inl (x1)), (2, .inl (x2)), (3, .inl ((x3) + (nI 1))), (4, .inl (x4))]) d_MD_checkpointAction_108 (by decide) rfl ?_
          refine wp_iinc (v := x4 + nI 1) (ls' := [(0, .inr 7), (1, .inl (x1)), (2, .inl (x2)), (3, .inl ((x3) + (nI 1))), (4, .inl (x4 + nI 1))]) d_MD_checkpointAction_109 rfl (c_inc_1 _) (by decide) rfl ?_
          refine wp_goto (tgt := 17) d_MD_checkpointAction_112 (by decide) ?_
          exact e5 c1 c2 c4 c5
      · refine wp_aload_n d_MD_checkpointAction_39 rfl ?_
        refine wp_aload_n d_MD_checkpointAction_40 rfl ?_
        refine wp_getR d_MD_checkpointAction_41 fl_MD_37 rfl rfl ?_
        refine wp_iconst (v := nI 4) d_MD_checkpointAction_44 c_iconst_4 ?_
        refine wp_iload d_MD_checkpointAction_45 rfl ?_
        refine wp_imul d_MD_checkpointAction_47 ?_
        refine wp_iaload d_MD_checkpointAction_48 rfl (o4 c1 c2 c4) ?_
        refine wp_aload_n d_MD_checkpointAction_49 rfl ?_
        refine wp_getR d_MD_checkpointAction_50 fl_MD_37 rfl rfl ?_
        refine wp_iconst (v := nI 4) d_MD_checkpointAction_53 c_iconst_4 ?_
        refine wp_iload d_MD_checkpointAction_54 rfl ?_
        refine wp_imul d_MD_checkpointAction_56 ?_
        refine wp_iconst (v := nI 1) d_MD_checkpointAction_57 c_iconst_1 ?_
        refine wp_iadd d_MD_checkpointAction_58 ?_
        refine wp_iaload d_MD_checkpointAction_59 rfl (o5 c1 c2 c4) ?_
        refine wp_aload_n d_MD_checkpointAction_60 rfl ?_
        refine wp_getR d_MD_checkpointAction_61 fl_MD_37 rfl rfl ?_
        refine wp_iconst (v := nI 4) d_MD_checkpointAction_64 c_iconst_4 ?_
        refine wp_iload d_MD_checkpointAction_65 rfl ?_
        refine wp_imul d_MD_checkpointAction_67 ?_
        refine wp_iconst (v := nI 2) d_MD_checkpointAction_68 c_iconst_2 ?_
        refine wp_iadd d_MD_checkpointAction_69 ?_
        refine wp_iaload d_MD_checkpointAction_70 rfl (o6 c1 c2 c4) ?_
        refine wp_aload_n d_MD_checkpointAction_71 rfl ?_
        refine wp_getR d_MD_checkpointAction_72 fl_MD_37 rfl rfl ?_
        refine wp_iconst (v := nI 4) d_MD_checkpointAction_75 c_iconst_4 ?_
        refine wp_iload d_MD_checkpointAction_76 rfl ?_
        refine wp_imul d_MD_checkpointAction_78 ?_
        refine wp_iconst (v := nI 3) d_MD_checkpointAction_79 c_iconst_3 ?_
        refine wp_iadd d_MD_checkpointAction_80 ?_
        refine wp_iaload d_MD_checkpointAction_81 rfl (o7 c1 c2 c4) ?_
        refine wp_callV (as := [.inl (h 31 (((nI 4) * (x4)).toNatClampNeg)), .inl (h 31 ((((nI 4) * (x4)) + (nI 1)).toNatClampNeg)), .inl (h 31 ((((nI 4) * (x4)) + (nI 2)).toNatClampNeg)), .inl (h 31 ((((nI 4) * (x4)) + (nI 3)).toNatClampNeg))]) (rest := []) (Q' := fun r h' => WP l E M_MD_checkpointAction 85 [(0, .inr 7), (1, .inl (x1)), (2, .inl (x2)), (3, .inl (x3)), (4, .inl (x4))] (rpush r []) h' Q) d_MD_checkpointAction_82 vb_MD_checkpointAction_94 ⟨gw_3_206, sw_33⟩ rfl rfl rfl rfl (Nat.le_of_ble_eq_true rfl) rfl (Nat.le_of_ble_eq_true rfl) ?_ (fun r h' z => z)
        exact e6 c1 c2 c4
set_option maxRecDepth 100000 in
set_option maxHeartbeats 4000000 in
theorem k_MD_checkpointAction_154 {l : Launch} {E : xE} {x1 x2 : Int32} {h : xh} {Q : Option Int32 → xh → Prop}
    (e1 : Q none h) : WP l E M_MD_checkpointAction 154 [(0, .inr 7), (1, .inl (x1)), (2, .inl (x2))] [] h Q := by
  refine wp_goto (tgt := 161) d_MD_checkpointAction_154 (by decide) ?_
  refine wp_return d_MD_checkpointAction_161 rfl ?_
  exact e1
set_option maxRecDepth 100000 in
set_option maxHeartbeats 4000000 in
theorem k_MD_checkpointAction_123 {l : Launch} {E : xE} {x1 x2 x3 x4 : Int32} {h : xh} {Q : Option Int32 → xh → Prop}
    (e1 : Q none h) : WP l E M_MD_checkpointAction 123 [(0, .inr 7), (1, .inl (x1)), (2, .inl (x2)), (3, .inl (x3)), (4, .inl (x4))] [] h Q := by
  refine wp_goto (tgt := 161) d_MD_checkpointAction_123 (by decide) ?_
  refine wp_return d_MD_checkpointAction_161 rfl ?_
  exact e1
set_option maxRecDepth 100000 in
set_option maxHeartbeats 4000000 in
theorem k_MD_checkpointAction_85 {l : Launch} {E : xE} {x1 x2 x3 x4 : Int32} {h : xh} {Q : Option Int32 → xh → Prop}
    (o1 : vp_in (x4) 16)
    (e1 : (h 30 ((x4).toNatClampNeg)) = 0 → WP l E M_MD_checkpointAction 17 [(0, .inr 7), (1, .inl (x1)), (2, .inl (x2)), (3, .inl (x3)), (4, .inl (x4 + nI 1))] [] (hw h 7 16 (x4)) Q)
    (e2 : ¬ (h 30 ((x4).toNatClampNeg)) = 0 → WP l E M_MD_checkpointAction 17 [(0, .inr 7), (1, .inl (x1)), (2, .inl (x2)), (3, .inl ((x3) + (nI 1))), (4, .inl (x4 + nI 1))] [] (hw h 7 16 (x4)) Q) : WP l E M_MD_checkpointAction 85 [(0, .inr 7), (1, .inl (x1)), (2, .inl (x2)), (3, .inl (x3)), (4, .inl (x4))] [] h Q := by
  refine wp_aload_n d_MD_checkpointAction_85 rfl ?_
  refine wp_iload d_MD_checkpointAction_86 rfl ?_
  refine wp_putI d_MD_checkpointAction_88 fm_MD_131 rfl rfl ?_
  refine wp_aload_n d_MD_checkpointAction_91 rfl ?_
  refine wp_getR d_MD_checkpointAction_92 fl_MD_33 rfl rfl ?_
  refine wp_iload d_MD_checkpointAction_95 rfl ?_
  refine wp_baload d_MD_checkpointAction_97 rfl o1 ?_
  show WP l E M_MD_checkpointAction 98 [(0, .inr 7), (1, .inl (x1)), (2, .inl (x2)), (3, .inl (x3)), (4, .inl (x4))] [.inl (h 30 ((x4).toNatClampNeg))] (hw h 7 16 (x4)) _
  refine wp_if_eq (tgt := 107) d_MD_checkpointAction_98 (by decide) (fun c1 => ?_) (fun c1 => ?_)
  · refine wp_iload_n d_MD_checkpointAction_107 rfl ?_
    refine wp_istore_n (ls' := [(0, .inr 7), (1, .inl (x1)), (2, .inl (x2)), (3, .inl (x3)), (4, .inl (x4))]) d_MD_checkpointAction_108 (by decide) rfl ?_
    refine wp_iinc (v := x4 + nI 1) (ls' := [(0, .inr 7), (1, .inl (x1)), (2, .inl (x2)), (3, .inl (x3)), (4, .inl (x4 + nI 1))]) d_MD_checkpointAction_109 rfl (c_inc_1 _) (by decide) rfl ?_
    refine wp_goto (tgt := 17) d_MD_checkpointAction_112 (by decide) ?_
    exact e1 c1
  · refine wp_iload_n d_MD_checkpointAction_101 rfl ?_
    refine wp_iconst (v := nI 1) d_MD_checkpointAction_102 c_iconst_1 ?_
    refine wp_iadd d_MD_checkpointAction_103 ?_
    refine wp_goto (tgt := 108) d_MD_checkpointAction_104 (by decide) ?_
    refine wp_istore_n (ls' := [(0, .inr 7), (1, .inl (x1)), (2, .inl (x2)), (3, .inl ((x3) + (nI 1))), (4, .inl (x4))]) d_MD_checkpointAction_108 (by decide) rfl ?_
    refine wp_iinc (v := x4 + nI 1) (ls' := [(0, .inr 7), (1, .inl (x1)), (2, .inl (x2)), (3, .inl ((x3) + (nI 1))), (4, .inl (x4 + nI 1))]) d_MD_checkpointAction_109 rfl (c_inc_1 _) (by decide) rfl ?_
    refine wp_goto (tgt := 17) d_MD_checkpointAction_112 (by decide) ?_
    exact e2 c1
set_option maxRecDepth 100000 in
set_option maxHeartbeats 4000000 in
theorem k_MD_checkpointed_0 {l : Launch} {E : xE} {h : xh} {Q : Option Int32 → xh → Prop}
    (e1 : WP l E M_MD_checkpointed 7 [(0, .inr 7), (1, .inl (nI 0))] [] (hw h 7 7 (nI 0)) Q) : MC l E M_MD_checkpointed [.inr 7] h Q := by
  refine wp_aload_n d_MD_checkpointed_0 rfl ?_
  refine wp_iconst (v := nI 0) d_MD_checkpointed_1 c_iconst_0 ?_
  refine wp_putI d_MD_checkpointed_2 fm_MD_110 rfl rfl ?_
  refine wp_iconst (v := nI 0) d_MD_checkpointed_5 c_iconst_0 ?_
  refine wp_istore_n (ls' := [(0, .inr 7), (1, .inl (nI 0))]) d_MD_checkpointed_6 (by decide) rfl ?_
  exact e1
set_option maxRecDepth 100000 in
set_option maxHeartbeats 4000000 in
theorem k_MD_checkpointed_7 {l : Launch} {E : xE} {x1 : Int32} {h : xh} {Q : Option Int32 → xh → Prop}
    (e1 : (nI 16) ≤ x1 → Q none h)
    (o1 : ¬ (nI 16) ≤ x1 → vp_in (x1) 16)
    (e2 : ¬ (nI 16) ≤ x1 → WP l E M_MD_checkpointed 7 [(0, .inr 7), (1, .inl (x1 + nI 1))] [] (hw h 30 ((x1).toNatClampNeg) (nI 0)) Q) : WP l E M_MD_checkpointed 7 [(0, .inr 7), (1, .inl (x1))] [] h Q := by
  refine wp_iload_n d_MD_checkpointed_7 rfl ?_
  refine wp_bipush (v := nI 16) d_MD_checkpointed_8 c_bipush_16 ?_
  refine wp_ic_ge (tgt := 26) d_MD_checkpointed_10 (by decide) (fun c1 => ?_) (fun c1 => ?_)
  · refine wp_return d_MD_checkpointed_26 rfl ?_
    exact e1 c1
  · refine wp_aload_n d_MD_checkpointed_13 rfl ?_
    refine wp_getR d_MD_checkpointed_14 fl_MD_33 rfl rfl ?_
    refine wp_iload_n d_MD_checkpointed_17 rfl ?_
    refine wp_iconst (v := nI 0) d_MD_checkpointed_18 c_iconst_0 ?_
    refine wp_bastore d_MD_checkpointed_19 rfl (o1 c1) (nar01 (by decide)) ?_
    refine wp_iinc (v := x1 + nI 1) (ls' := [(0, .inr 7), (1, .inl (x1 + nI 1))]) d_MD_checkpointed_20 rfl (c_inc_1 _) (by decide) rfl ?_
    refine wp_goto (tgt := 7) d_MD_checkpointed_23 (by decide) ?_
    exact e2 c1
set_option maxRecDepth 100000 in
set_option maxHeartbeats 4000000 in
theorem k_MD_logWord_0 {l : Launch} {E : xE} {x1 x2 : Int32} {h : xh} {Q : Option Int32 → xh → Prop}
    (e1 : MC l E M_MD_read [.inr 7, .inl ((nI 17) + (irem ((h 7 17) + (x1)) (nI 24))), .inl (x2)] h (fun r h' => WP l E M_MD_logWord 17 [(0, .inr 7), (1, .inl (x1)), (2, .inl (x2))] (rpush r []) h' Q)) : MC l E M_MD_logWord [.inr 7, .inl (x1), .inl (x2)] h Q := by
  refine wp_aload_n d_MD_logWord_0 rfl ?_
  refine wp_bipush (v := nI 17) d_MD_logWord_1 c_bipush_17 ?_
  refine wp_aload_n d_MD_logWord_3 rfl ?_
  refine wp_getI d_MD_logWord_4 fl_MD_134 rfl rfl ?_
  refine wp_iload_n d_MD_logWord_7 rfl ?_
  refine wp_iadd d_MD_logWord_8 ?_
  refine wp_bipush (v := nI 24) d_MD_logWord_9 c_bipush_24 ?_
  refine wp_irem d_MD_logWord_11 (by decide +kernel) ?_
  refine wp_iadd d_MD_logWord_12 ?_
  refine wp_iload_n d_MD_logWord_13 rfl ?_
  refine wp_callV (as := [.inl ((nI 17) + (irem ((h 7 17) + (x1)) (nI 24))), .inl (x2)]) (rest := []) (Q' := fun r h' => WP l E M_MD_logWord 17 [(0, .inr 7), (1, .inl (x1)), (2, .inl (x2))] (rpush r []) h' Q) d_MD_logWord_14 vb_MD_logWord_65 ⟨gw_3_101, gw_3_102⟩ rfl rfl rfl rfl (Nat.le_of_ble_eq_true rfl) rfl (Nat.le_of_ble_eq_true rfl) ?_ (fun r h' z => z)
  exact e1
set_option maxRecDepth 100000 in
set_option maxHeartbeats 4000000 in
theorem k_MD_logWord_17 {l : Launch} {E : xE} {v0 x1 x2 : Int32} {h : xh} {Q : Option Int32 → xh → Prop}
    (e1 : Q (some (v0)) h) : WP l E M_MD_logWord 17 [(0, .inr 7), (1, .inl (x1)), (2, .inl (x2))] [.inl (v0)] h Q := by
  refine wp_ireturn d_MD_logWord_17 rfl ?_
  exact e1
set_option maxRecDepth 100000 in
set_option maxHeartbeats 4000000 in
theorem k_MD_mixSector_0 {l : Launch} {E : xE} {x1 x2 : Int32} {h : xh} {Q : Option Int32 → xh → Prop}
    (e1 : WP l E M_MD_mixSector 5 [(0, .inr 7), (1, .inl (x1)), (2, .inl (x2)), (3, .inl (x1)), (4, .inl (nI 0))] [] h Q) : MC l E M_MD_mixSector [.inr 7, .inl (x1), .inl (x2)] h Q := by
  refine wp_iload_n d_MD_mixSector_0 rfl ?_
  refine wp_istore_n (ls' := [(0, .inr 7), (1, .inl (x1)), (2, .inl (x2)), (3, .inl (x1))]) d_MD_mixSector_1 (by decide) rfl ?_
  refine wp_iconst (v := nI 0) d_MD_mixSector_2 c_iconst_0 ?_
  refine wp_istore (ls' := [(0, .inr 7), (1, .inl (x1)), (2, .inl (x2)), (3, .inl (x1)), (4, .inl (nI 0))]) d_MD_mixSector_3 (by decide) rfl ?_
  exact e1
set_option maxRecDepth 100000 in
set_option maxHeartbeats 4000000 in
theorem k_MD_mixSector_5 {l : Launch} {E : xE} {x1 x2 x3 x4 : Int32} {h : xh} {Q : Option Int32 → xh → Prop}
    (e1 : (nI 4) ≤ x4 → Q (some (x3)) h)
    (e2 : ¬ (nI 4) ≤ x4 → MC l E M_MD_logWord [.inr 7, .inl (x2), .inl (x4)] h (fun r h' => WP l E M_MD_mixSector 19 [(0, .inr 7), (1, .inl (x1)), (2, .inl (x2)), (3, .inl (x3)), (4, .inl (x4))] (rpush r [.inl (x3)]) h' Q)) : WP l E M_MD_mixSector 5 [(0, .inr 7), (1, .inl (x1)), (2, .inl (x2)), (3, .inl (x3)), (4, .inl (x4))] [] h Q := by
  refine wp_iload d_MD_mixSector_5 rfl ?_
  refine wp_iconst (v := nI 4) d_MD_mixSector_7 c_iconst_4 ?_
  refine wp_ic_ge (tgt := 29) d_MD_mixSector_8 (by decide) (fun c1 => ?_) (fun c1 => ?_)
  · refine wp_iload_n d_MD_mixSector_29 rfl ?_
    refine wp_ireturn d_MD_mixSector_30 rfl ?_
    exact e1 c1
  · refine wp_iload_n d_MD_mixSector_11 rfl ?_
    refine wp_aload_n d_MD_mixSector_12 rfl ?_
    refine wp_iload_n d_MD_mixSector_13 rfl ?_
    refine wp_iload d_MD_mixSector_14 rfl ?_
    refine wp_callV (as := [.inl (x2), .inl (x4)]) (rest := [.inl (x3)]) (Q' := fun r h' => WP l E M_MD_mixSector 19 [(0, .inr 7), (1, .inl (x1)), (2, .inl (x2)), (3, .inl (x3)), (4, .inl (x4))] (rpush r [.inl (x3)]) h' Q) d_MD_mixSector_16 vb_MD_mixSector_137 ⟨gw_3_190, sw_30⟩ rfl rfl rfl rfl (Nat.le_of_ble_eq_true rfl) rfl (Nat.le_of_ble_eq_true rfl) ?_ (fun r h' z => z)
    exact e2 c1
set_option maxRecDepth 100000 in
set_option maxHeartbeats 4000000 in
theorem k_MD_mixSector_19 {l : Launch} {E : xE} {s0 v0 x1 x2 x3 x4 : Int32} {h : xh} {Q : Option Int32 → xh → Prop}
    (e1 : WP l E M_MD_mixSector 5 [(0, .inr 7), (1, .inl (x1)), (2, .inl (x2)), (3, .inl (((((s0) ^^^ (v0)) * (nI 40503)) + (nI 7)) ^^^ (ushr ((((s0) ^^^ (v0)) * (nI 40503)) + (nI 7)) (nI 15)))), (4, .inl (x4 + nI 1))] [] h Q) : WP l E M_MD_mixSector 19 [(0, .inr 7), (1, .inl (x1)), (2, .inl (x2)), (3, .inl (x3)), (4, .inl (x4))] [.inl (v0), .inl (s0)] h Q := by
  refine wp_callS (as := [.inl (s0), .inl (v0)]) (rest := []) (Q' := fun r h' => WP l E M_MD_mixSector 22 [(0, .inr 7), (1, .inl (x1)), (2, .inl (x2)), (3, .inl (x3)), (4, .inl (x4))] (rpush r []) h' _) d_MD_mixSector_19 vb_MD_mixSector_104 gw_3_197 rfl (Nat.le_of_ble_eq_true rfl) rfl (Nat.le_of_ble_eq_true rfl) ?_ (fun r h' z => z)
  show WP l E M_MD_mix 0 [(0, .inl (s0)), (1, .inl (v0))] [] h _
  refine wp_iload_n d_MD_mix_0 rfl ?_
  refine wp_iload_n d_MD_mix_1 rfl ?_
  refine wp_ixor d_MD_mix_2 ?_
  refine wp_ldcN d_MD_mix_3 gw_3_199 c_lit_40503 ?_
  refine wp_imul d_MD_mix_5 ?_
  refine wp_bipush (v := nI 7) d_MD_mix_6 c_bipush_7 ?_
  refine wp_iadd d_MD_mix_8 ?_
  refine wp_istore_n (ls' := [(0, .inl (s0)), (1, .inl (v0)), (2, .inl ((((s0) ^^^ (v0)) * (nI 40503)) + (nI 7)))]) d_MD_mix_9 (by decide) rfl ?_
  refine wp_iload_n d_MD_mix_10 rfl ?_
  refine wp_iload_n d_MD_mix_11 rfl ?_
  refine wp_bipush (v := nI 15) d_MD_mix_12 c_bipush_15 ?_
  refine wp_iushr d_MD_mix_14 ?_
  refine wp_ixor d_MD_mix_15 ?_
  refine wp_ireturn d_MD_mix_16 rfl ?_
  show WP l E M_MD_mixSector 22 [(0, .inr 7), (1, .inl (x1)), (2, .inl (x2)), (3, .inl (x3)), (4, .inl (x4))] [.inl (((((s0) ^^^ (v0)) * (nI 40503)) + (nI 7)) ^^^ (ushr ((((s0) ^^^ (v0)) * (nI 40503)) + (nI 7)) (nI 15)))] h _
  refine wp_istore_n (ls' := [(0, .inr 7), (1, .inl (x1)), (2, .inl (x2)), (3, .inl (((((s0) ^^^ (v0)) * (nI 40503)) + (nI 7)) ^^^ (ushr ((((s0) ^^^ (v0)) * (nI 40503)) + (nI 7)) (nI 15)))), (4, .inl (x4))]) d_MD_mixSector_22 (by decide) rfl ?_
  refine wp_iinc (v := x4 + nI 1) (ls' := [(0, .inr 7), (1, .inl (x1)), (2, .inl (x2)), (3, .inl (((((s0) ^^^ (v0)) * (nI 40503)) + (nI 7)) ^^^ (ushr ((((s0) ^^^ (v0)) * (nI 40503)) + (nI 7)) (nI 15)))), (4, .inl (x4 + nI 1))]) d_MD_mixSector_23 rfl (c_inc_1 _) (by decide) rfl ?_
  refine wp_goto (tgt := 5) d_MD_mixSector_26 (by decide) ?_
  exact e1
set_option maxRecDepth 100000 in
set_option maxHeartbeats 4000000 in
theorem k_MD_validAt_0 {l : Launch} {E : xE} {x1 x2 : Int32} {h : xh} {Q : Option Int32 → xh → Prop}
    (e1 : WP l E M_MD_validAt 8 [(0, .inr 7), (1, .inl (x1)), (2, .inl (x2)), (3, .inl (x2)), (4, .inl (x1)), (5, .inl (nI 1))] [] h Q) : MC l E M_MD_validAt [.inr 7, .inl (x1), .inl (x2)] h Q := by
  refine wp_iload_n d_MD_validAt_0 rfl ?_
  refine wp_istore_n (ls' := [(0, .inr 7), (1, .inl (x1)), (2, .inl (x2)), (3, .inl (x2))]) d_MD_validAt_1 (by decide) rfl ?_
  refine wp_iload_n d_MD_validAt_2 rfl ?_
  refine wp_istore (ls' := [(0, .inr 7), (1, .inl (x1)), (2, .inl (x2)), (3, .inl (x2)), (4, .inl (x1))]) d_MD_validAt_3 (by decide) rfl ?_
  refine wp_iconst (v := nI 1) d_MD_validAt_5 c_iconst_1 ?_
  refine wp_istore (ls' := [(0, .inr 7), (1, .inl (x1)), (2, .inl (x2)), (3, .inl (x2)), (4, .inl (x1)), (5, .inl (nI 1))]) d_MD_validAt_6 (by decide) rfl ?_
  exact e1
set_option maxRecDepth 100000 in
set_option maxHeartbeats 4000000 in
theorem k_MD_validAt_8 {l : Launch} {E : xE} {x1 x2 x3 x4 x5 : Int32} {h : xh} {Q : Option Int32 → xh → Prop}
    (e1 : (nI 24) ≤ x4 → Q (some (nI 0)) h)
    (e2 : ¬ (nI 24) ≤ x4 → MC l E M_MD_logWord [.inr 7, .inl (x4), .inl (nI 0)] h (fun r h' => WP l E M_MD_validAt 22 [(0, .inr 7), (1, .inl (x1)), (2, .inl (x2)), (3, .inl (x3)), (4, .inl (x4)), (5, .inl (x5))] (rpush r []) h' Q)) : WP l E M_MD_validAt 8 [(0, .inr 7), (1, .inl (x1)), (2, .inl (x2)), (3, .inl (x3)), (4, .inl (x4)), (5, .inl (x5))] [] h Q := by
  refine wp_iload d_MD_validAt_8 rfl ?_
  refine wp_bipush (v := nI 24) d_MD_validAt_10 c_bipush_24 ?_
  refine wp_ic_ge (tgt := 201) d_MD_validAt_12 (by decide) (fun c1 => ?_) (fun c1 => ?_)
  · refine wp_iconst (v := nI 0) d_MD_validAt_201 c_iconst_0 ?_
    refine wp_ireturn d_MD_validAt_202 rfl ?_
    exact e1 c1
  · refine wp_aload_n d_MD_validAt_15 rfl ?_
    refine wp_iload d_MD_validAt_16 rfl ?_
    refine wp_iconst (v := nI 0) d_MD_validAt_18 c_iconst_0 ?_
    refine wp_callV (as := [.inl (x4), .inl (nI 0)]) (rest := []) (Q' := fun r h' => WP l E M_MD_validAt 22 [(0, .inr 7), (1, .inl (x1)), (2, .inl (x2)), (3, .inl (x3)), (4, .inl (x4)), (5, .inl (x5))] (rpush r []) h' Q) d_MD_validAt_19 vb_MD_validAt_137 ⟨gw_3_190, sw_30⟩ rfl rfl rfl rfl (Nat.le_of_ble_eq_true rfl) rfl (Nat.le_of_ble_eq_true rfl) ?_ (fun r h' z => z)
    exact e2 c1
set_option maxRecDepth 100000 in
set_option maxHeartbeats 4000000 in
theorem k_MD_validAt_22 {l : Launch} {E : xE} {v0 x1 x2 x3 x4 x5 : Int32} {h : xh} {Q : Option Int32 → xh → Prop}
    (e1 : v0 ≠ (nI 77001) → Q (some (nI 0)) h)
    (e2 : v0 = (nI 77001) → MC l E M_MD_logWord [.inr 7, .inl (x4), .inl (nI 2)] h (fun r h' => WP l E M_MD_validAt 34 [(0, .inr 7), (1, .inl (x1)), (2, .inl (x2)), (3, .inl (x3)), (4, .inl (x4)), (5, .inl (x5))] (rpush r []) h' Q)) : WP l E M_MD_validAt 22 [(0, .inr 7), (1, .inl (x1)), (2, .inl (x2)), (3, .inl (x3)), (4, .inl (x4)), (5, .inl (x5))] [.inl (v0)] h Q := by
  refine wp_ldcN d_MD_validAt_22 gw_3_29 c_lit_77001 ?_
  refine wp_ic_ne (tgt := 201) d_MD_validAt_24 (by decide) (fun c1 => ?_) (fun c1 => ?_)
  · refine wp_iconst (v := nI 0) d_MD_validAt_201 c_iconst_0 ?_
    refine wp_ireturn d_MD_validAt_202 rfl ?_
    exact e1 c1
  · refine wp_aload_n d_MD_validAt_27 rfl ?_
    refine wp_iload d_MD_validAt_28 rfl ?_
    refine wp_iconst (v := nI 2) d_MD_validAt_30 c_iconst_2 ?_
    refine wp_callV (as := [.inl (x4), .inl (nI 2)]) (rest := []) (Q' := fun r h' => WP l E M_MD_validAt 34 [(0, .inr 7), (1, .inl (x1)), (2, .inl (x2)), (3, .inl (x3)), (4, .inl (x4)), (5, .inl (x5))] (rpush r []) h' Q) d_MD_validAt_31 vb_MD_validAt_137 ⟨gw_3_190, sw_30⟩ rfl rfl rfl rfl (Nat.le_of_ble_eq_true rfl) rfl (Nat.le_of_ble_eq_true rfl) ?_ (fun r h' z => z)
    exact e2 c1
set_option maxRecDepth 100000 in
set_option maxHeartbeats 4000000 in
theorem k_MD_validAt_34 {l : Launch} {E : xE} {v0 x1 x2 x3 x4 x5 : Int32} {h : xh} {Q : Option Int32 → xh → Prop}
    (e1 : v0 ≠ x2 → Q (some (nI 0)) h)
    (e2 : v0 = x2 → MC l E M_MD_logWord [.inr 7, .inl (x4), .inl (nI 1)] h (fun r h' => WP l E M_MD_validAt 45 [(0, .inr 7), (1, .inl (x1)), (2, .inl (x2)), (3, .inl (x3)), (4, .inl (x4)), (5, .inl (x5))] (rpush r []) h' Q)) : WP l E M_MD_validAt 34 [(0, .inr 7), (1, .inl (x1)), (2, .inl (x2)), (3, .inl (x3)), (4, .inl (x4)), (5, .inl (x5))] [.inl (v0)] h Q := by
  refine wp_iload_n d_MD_validAt_34 rfl ?_
  refine wp_ic_ne (tgt := 201) d_MD_validAt_35 (by decide) (fun c1 => ?_) (fun c1 => ?_)
  · refine wp_iconst (v := nI 0) d_MD_validAt_201 c_iconst_0 ?_
    refine wp_ireturn d_MD_validAt_202 rfl ?_
    exact e1 c1
  · refine wp_aload_n d_MD_validAt_38 rfl ?_
    refine wp_iload d_MD_validAt_39 rfl ?_
    refine wp_iconst (v := nI 1) d_MD_validAt_41 c_iconst_1 ?_
    refine wp_callV (as := [.inl (x4), .inl (nI 1)]) (rest := []) (Q' := fun r h' => WP l E M_MD_validAt 45 [(0, .inr 7), (1, .inl (x1)), (2, .inl (x2)), (3, .inl (x3)), (4, .inl (x4)), (5, .inl (x5))] (rpush r []) h' Q) d_MD_validAt_42 vb_MD_validAt_137 ⟨gw_3_190, sw_30⟩ rfl rfl rfl rfl (Nat.le_of_ble_eq_true rfl) rfl (Nat.le_of_ble_eq_true rfl) ?_ (fun r h' z => z)
    exact e2 c1
set_option maxRecDepth 100000 in
set_option maxHeartbeats 4000000 in
theorem k_MD_validAt_45 {l : Launch} {E : xE} {v0 x1 x2 x3 x4 x5 : Int32} {h : xh} {Q : Option Int32 → xh → Prop}
    (e1 : MC l E M_MD_logWord [.inr 7, .inl (x4), .inl (nI 3)] h (fun r h' => WP l E M_MD_validAt 54 [(0, .inr 7), (1, .inl (x1)), (2, .inl (x2)), (3, .inl (x3)), (4, .inl (x4)), (5, .inl (x5)), (6, .inl (v0))] (rpush r []) h' Q)) : WP l E M_MD_validAt 45 [(0, .inr 7), (1, .inl (x1)), (2, .inl (x2)), (3, .inl (x3)), (4, .inl (x4)), (5, .inl (x5))] [.inl (v0)] h Q := by
  refine wp_istore (ls' := [(0, .inr 7), (1, .inl (x1)), (2, .inl (x2)), (3, .inl (x3)), (4, .inl (x4)), (5, .inl (x5)), (6, .inl (v0))]) d_MD_validAt_45 (by decide) rfl ?_
  refine wp_aload_n d_MD_validAt_47 rfl ?_
  refine wp_iload d_MD_validAt_48 rfl ?_
  refine wp_iconst (v := nI 3) d_MD_validAt_50 c_iconst_3 ?_
  refine wp_callV (as := [.inl (x4), .inl (nI 3)]) (rest := []) (Q' := fun r h' => WP l E M_MD_validAt 54 [(0, .inr 7), (1, .inl (x1)), (2, .inl (x2)), (3, .inl (x3)), (4, .inl (x4)), (5, .inl (x5)), (6, .inl (v0))] (rpush r []) h' Q) d_MD_validAt_51 vb_MD_validAt_137 ⟨gw_3_190, sw_30⟩ rfl rfl rfl rfl (Nat.le_of_ble_eq_true rfl) rfl (Nat.le_of_ble_eq_true rfl) ?_ (fun r h' z => z)
  exact e1
set_option maxRecDepth 100000 in
set_option maxHeartbeats 4000000 in
theorem k_MD_validAt_54 {l : Launch} {E : xE} {v0 x1 x2 x3 x4 x5 x6 : Int32} {h : xh} {Q : Option Int32 → xh → Prop}
    (e1 : x6 ≠ (nI 3) → x6 ≠ (nI 1) → x6 ≠ (nI 2) → Q (some (nI 0)) h)
    (e2 : x6 ≠ (nI 3) → x6 ≠ (nI 1) → x6 = (nI 2) → x5 ≠ 0 → WP l E M_MD_validAt 163 [(0, .inr 7), (1, .inl (x1)), (2, .inl (x2)), (3, .inl (x3)), (4, .inl (x4)), (5, .inl (x5)), (6, .inl (x6)), (7, .inl ((v0) &&& (nI 7))), (8, .inl (nI 0)), (9, .inl (nI 1)), (10, .inl (nI 0))] [] h Q)
    (e3 : x6 ≠ (nI 3) → x6 ≠ (nI 1) → x6 = (nI 2) → x5 = 0 → Q (some (nI 0)) h)
    (e4 : x6 ≠ (nI 3) → x6 = (nI 1) → x5 = 0 → x6 ≠ (nI 2) → Q (some (nI 0)) h)
    (e5 : x6 ≠ (nI 3) → x6 = (nI 1) → x5 = 0 → x6 = (nI 2) → x5 ≠ 0 → WP l E M_MD_validAt 163 [(0, .inr 7), (1, .inl (x1)), (2, .inl (x2)), (3, .inl (x3)), (4, .inl (x4)), (5, .inl (x5)), (6, .inl (x6)), (7, .inl ((v0) &&& (nI 7))), (8, .inl (nI 0)), (9, .inl (nI 1)), (10, .inl (nI 0))] [] h Q)
    (e6 : x6 ≠ (nI 3) → x6 = (nI 1) → x5 = 0 → x6 = (nI 2) → x5 = 0 → Q (some (nI 0)) h)
    (e7 : x6 ≠ (nI 3) → x6 = (nI 1) → ¬ x5 = 0 → ((v0) &&& (nI 7)) < (nI 1) → x6 ≠ (nI 2) → Q (some (nI 0)) h)
    (e8 : x6 ≠ (nI 3) → x6 = (nI 1) → ¬ x5 = 0 → ((v0) &&& (nI 7)) < (nI 1) → x6 = (nI 2) → x5 ≠ 0 → WP l E M_MD_validAt 163 [(0, .inr 7), (1, .inl (x1)), (2, .inl (x2)), (3, .inl (x3)), (4, .inl (x4)), (5, .inl (x5)), (6, .inl (x6)), (7, .inl ((v0) &&& (nI 7))), (8, .inl (nI 0)), (9, .inl (nI 1)), (10, .inl (nI 0))] [] h Q)
    (e9 : x6 ≠ (nI 3) → x6 = (nI 1) → ¬ x5 = 0 → ((v0) &&& (nI 7)) < (nI 1) → x6 = (nI 2) → x5 = 0 → Q (some (nI 0)) h)
    (e10 : x6 ≠ (nI 3) → x6 = (nI 1) → ¬ x5 = 0 → ¬ ((v0) &&& (nI 7)) < (nI 1) → (nI 4) < ((v0) &&& (nI 7)) → x6 ≠ (nI 2) → Q (some (nI 0)) h)
    (e11 : x6 ≠ (nI 3) → x6 = (nI 1) → ¬ x5 = 0 → ¬ ((v0) &&& (nI 7)) < (nI 1) → (nI 4) < ((v0) &&& (nI 7)) → x6 = (nI 2) → x5 ≠ 0 → WP l E M_MD_validAt 163 [(0, .inr 7), (1, .inl (x1)), (2, .inl (x2)), (3, .inl (x3)), (4, .inl (x4)), (5, .inl (x5)), (6, .inl (x6)), (7, .inl ((v0) &&& (nI 7))), (8, .inl (nI 0)), (9, .inl (nI 1)), (10, .inl (nI 0))] [] h Q)
    (e12 : x6 ≠ (nI 3) → x6 = (nI 1) → ¬ x5 = 0 → ¬ ((v0) &&& (nI 7)) < (nI 1) → (nI 4) < ((v0) &&& (nI 7)) → x6 = (nI 2) → x5 = 0 → Q (some (nI 0)) h)
    (e13 : x6 ≠ (nI 3) → x6 = (nI 1) → ¬ x5 = 0 → ¬ ((v0) &&& (nI 7)) < (nI 1) → ¬ (nI 4) < ((v0) &&& (nI 7)) → (nI 24) ≤ ((x4) + ((v0) &&& (nI 7))) → x6 ≠ (nI 2) → Q (some (nI 0)) h)
    (e14 : x6 ≠ (nI 3) → x6 = (nI 1) → ¬ x5 = 0 → ¬ ((v0) &&& (nI 7)) < (nI 1) → ¬ (nI 4) < ((v0) &&& (nI 7)) → (nI 24) ≤ ((x4) + ((v0) &&& (nI 7))) → x6 = (nI 2) → x5 ≠ 0 → WP l E M_MD_validAt 163 [(0, .inr 7), (1, .inl (x1)), (2, .inl (x2)), (3, .inl (x3)), (4, .inl (x4)), (5, .inl (x5)), (6, .inl (x6)), (7, .inl ((v0) &&& (nI 7))), (8, .inl (nI 0)), (9, .inl (nI 1)), (10, .inl (nI 0))] [] h Q)
    (e15 : x6 ≠ (nI 3) → x6 = (nI 1) → ¬ x5 = 0 → ¬ ((v0) &&& (nI 7)) < (nI 1) → ¬ (nI 4) < ((v0) &&& (nI 7)) → (nI 24) ≤ ((x4) + ((v0) &&& (nI 7))) → x6 = (nI 2) → x5 = 0 → Q (some (nI 0)) h)
    (e16 : x6 ≠ (nI 3) → x6 = (nI 1) → ¬ x5 = 0 → ¬ ((v0) &&& (nI 7)) < (nI 1) → ¬ (nI 4) < ((v0) &&& (nI 7)) → ¬ (nI 24) ≤ ((x4) + ((v0) &&& (nI 7))) → WP l E M_MD_validAt 163 [(0, .inr 7), (1, .inl (x1)), (2, .inl (x2)), (3, .inl (x3)), (4, .inl (x4)), (5, .inl (x5)), (6, .inl (x6)), (7, .inl ((v0) &&& (nI 7))), (8, .inl (nI 1)), (9, .inl ((nI 1) + ((v0) &&& (nI 7)))), (10, .inl (nI 0))] [] h Q)
    (e17 : x6 = (nI 3) → MC l E M_MD_logWord [.inr 7, .inl (x4), .inl (nI 3)] h (fun r h' => WP l E M_MD_validAt 72 [(0, .inr 7), (1, .inl (x1)), (2, .inl (x2)), (3, .inl (x3)), (4, .inl (x4)), (5, .inl (x5)), (6, .inl (x6)), (7, .inl ((v0) &&& (nI 7)))] (rpush r []) h' Q)) : WP l E M_MD_validAt 54 [(0, .inr 7), (1, .inl (x1)), (2, .inl (x2)), (3, .inl (x3)), (4, .inl (x4)), (5, .inl (x5)), (6, .inl (x6))] [.inl (v0)] h Q := by
  refine wp_bipush (v := nI 7) d_MD_validAt_54 c_bipush_7 ?_
  refine wp_iand d_MD_validAt_56 ?_
  refine wp_istore (ls' := [(0, .inr 7), (1, .inl (x1)), (2, .inl (x2)), (3, .inl (x3)), (4, .inl (x4)), (5, .inl (x5)), (6, .inl (x6)), (7, .inl ((v0) &&& (nI 7)))]) d_MD_validAt_57 (by decide) rfl ?_
  refine wp_iload d_MD_validAt_59 rfl ?_
  refine wp_iconst (v := nI 3) d_MD_validAt_61 c_iconst_3 ?_
  refine wp_ic_ne (tgt := 87) d_MD_validAt_62 (by decide) (fun c1 => ?_) (fun c1 => ?_)
  · refine wp_iload d_MD_validAt_87 rfl ?_
    refine wp_iconst (v := nI 1) d_MD_validAt_89 c_iconst_1 ?_
    refine wp_ic_ne (tgt := 124) d_MD_validAt_90 (by decide) (fun c2 => ?_) (fun c2 => ?_)
    · refine wp_iconst (v := nI 0) d_MD_validAt_124 c_iconst_0 ?_
      refine wp_istore (ls' := [(0, .inr 7), (1, .inl (x1)), (2, .inl (x2)), (3, .inl (x3)), (4, .inl (x4)), (5, .inl (x5)), (6, .inl (x6)), (7, .inl ((v0) &&& (nI 7))), (8, .inl (nI 0))]) d_MD_validAt_125 (by decide) rfl ?_
      refine wp_iload d_MD_validAt_127 rfl ?_
      refine wp_if_ne (tgt := 145) d_MD_validAt_129 (by decide) (fun z => absurd z (by decide +kernel)) (fun _ => ?_)
      refine wp_iload d_MD_validAt_132 rfl ?_
      refine wp_iconst (v := nI 2) d_MD_validAt_134 c_iconst_2 ?_
      refine wp_ic_ne (tgt := 143) d_MD_validAt_135 (by decide) (fun c3 => ?_) (fun c3 => ?_)
      · refine wp_iconst (v := nI 0) d_MD_validAt_143 c_iconst_0 ?_
        refine wp_ireturn d_MD_validAt_144 rfl ?_
        exact e1 c1 c2 c3
      · refine wp_iload d_MD_validAt_138 rfl ?_
        refine wp_if_ne (tgt := 145) d_MD_validAt_140 (by decide) (fun c4 => ?_) (fun c4 => ?_)
        · refine wp_iload d_MD_validAt_145 rfl ?_
          refine wp_if_eq (tgt := 157) d_MD_validAt_147 (by decide) (fun _ => ?_) (fun z => absurd z (by decide +kernel))
          refine wp_iconst (v := nI 1) d_MD_validAt_157 c_iconst_1 ?_
          refine wp_istore (ls' := [(0, .inr 7), (1, .inl (x1)), (2, .inl (x2)), (3, .inl (x3)), (4, .inl (x4)), (5, .inl (x5)), (6, .inl (x6)), (7, .inl ((v0) &&& (nI 7))), (8, .inl (nI 0)), (9, .inl (nI 1))]) d_MD_validAt_158 (by decide) rfl ?_
          refine wp_iconst (v := nI 0) d_MD_validAt_160 c_iconst_0 ?_
          refine wp_istore (ls' := [(0, .inr 7), (1, .inl (x1)), (2, .inl (x2)), (3, .inl (x3)), (4, .inl (x4)), (5, .inl (x5)), (6, .inl (x6)), (7, .inl ((v0) &&& (nI 7))), (8, .inl (nI 0)), (9, .inl (nI 1)), (10, .inl (nI 0))]) d_MD_validAt_161 (by decide) rfl ?_
          exact e2 c1 c2 c3 c4
        · refine wp_iconst (v := nI 0) d_MD_validAt_143 c_iconst_0 ?_
          refine wp_ireturn d_MD_validAt_144 rfl ?_
          exact e3 c1 c2 c3 c4
    · refine wp_iload d_MD_validAt_93 rfl ?_
      refine wp_if_eq (tgt := 124) d_MD_validAt_95 (by decide) (fun c5 => ?_) (fun c5 => ?_)
      · refine wp_iconst (v := nI 0) d_MD_validAt_124 c_iconst_0 ?_
        refine wp_istore (ls' := [(0, .inr 7), (1, .inl (x1)), (2, .inl (x2)), (3, .inl (x3)), (4, .inl (x4)), (5, .inl (x5)), (6, .inl (x6)), (7, .inl ((v0) &&& (nI 7))), (8, .inl (nI 0))]) d_MD_validAt_125 (by decide) rfl ?_
        refine wp_iload d_MD_validAt_127 rfl ?_
        refine wp_if_ne (tgt := 145) d_MD_validAt_129 (by decide) (fun z => absurd z (by decide +kernel)) (fun _ => ?_)
        refine wp_iload d_MD_validAt_132 rfl ?_
        refine wp_iconst (v := nI 2) d_MD_validAt_134 c_iconst_2 ?_
        refine wp_ic_ne (tgt := 143) d_MD_validAt_135 (by decide) (fun c6 => ?_) (fun c6 => ?_)
        · refine wp_iconst (v := nI 0) d_MD_validAt_143 c_iconst_0 ?_
          refine wp_ireturn d_MD_validAt_144 rfl ?_
          exact e4 c1 c2 c5 c6
        · refine wp_iload d_MD_validAt_138 rfl ?_
          refine wp_if_ne (tgt := 145) d_MD_validAt_140 (by decide) (fun c7 => ?_) (fun c7 => ?_)
          · refine wp_iload d_MD_validAt_145 rfl ?_
            refine wp_if_eq (tgt := 157) d_MD_validAt_147 (by decide) (fun _ => ?_) (fun z => absurd z (by decide +kernel))
            refine wp_iconst (v := nI 1) d_MD_validAt_157 c_iconst_1 ?_
            refine wp_istore (ls' := [(0, .inr 7), (1, .inl (x1)), (2, .inl (x2)), (3, .inl (x3)), (4, .inl (x4)), (5, .inl (x5)), (6, .inl (x6)), (7, .inl ((v0) &&& (nI 7))), (8, .inl (nI 0)), (9, .inl (nI 1))]) d_MD_validAt_158 (by decide) rfl ?_
            refine wp_iconst (v := nI 0) d_MD_validAt_160 c_iconst_0 ?_
            refine wp_istore (ls' := [(0, .inr 7), (1, .inl (x1)), (2, .inl (x2)), (3, .inl (x3)), (4, .inl (x4)), (5, .inl (x5)), (6, .inl (x6)), (7, .inl ((v0) &&& (nI 7))), (8, .inl (nI 0)), (9, .inl (nI 1)), (10, .inl (nI 0))]) d_MD_validAt_161 (by decide) rfl ?_
            exact e5 c1 c2 c5 c6 c7
          · refine wp_iconst (v := nI 0) d_MD_validAt_143 c_iconst_0 ?_
            refine wp_ireturn d_MD_validAt_144 rfl ?_
            exact e6 c1 c2 c5 c6 c7
      · refine wp_iload d_MD_validAt_98 rfl ?_
        refine wp_iconst (v := nI 1) d_MD_validAt_100 c_iconst_1 ?_
        refine wp_ic_lt (tgt := 124) d_MD_validAt_101 (by decide) (fun c8 => ?_) (fun c8 => ?_)
        · refine wp_iconst (v := nI 0) d_MD_validAt_124 c_iconst_0 ?_
          refine wp_istore (ls' := [(0, .inr 7), (1, .inl (x1)), (2, .inl (x2)), (3, .inl (x3)), (4, .inl (x4)), (5, .inl (x5)), (6, .inl (x6)), (7, .inl ((v0) &&& (nI 7))), (8, .inl (nI 0))]) d_MD_validAt_125 (by decide) rfl ?_
          refine wp_iload d_MD_validAt_127 rfl ?_
          refine wp_if_ne (tgt := 145) d_MD_validAt_129 (by decide) (fun z => absurd z (by decide +kernel)) (fun _ => ?_)
          refine wp_iload d_MD_validAt_132 rfl ?_
          refine wp_iconst (v := nI 2) d_MD_validAt_134 c_iconst_2 ?_
          refine wp_ic_ne (tgt := 143) d_MD_validAt_135 (by decide) (fun c9 => ?_) (fun c9 => ?_)
          · refine wp_iconst (v := nI 0) d_MD_validAt_143 c_iconst_0 ?_
            refine wp_ireturn d_MD_validAt_144 rfl ?_
            exact e7 c1 c2 c5 c8 c9
          · refine wp_iload d_MD_validAt_138 rfl ?_
            refine wp_if_ne (tgt := 145) d_MD_validAt_140 (by decide) (fun c10 => ?_) (fun c10 => ?_)
            · refine wp_iload d_MD_validAt_145 rfl ?_
              refine wp_if_eq (tgt := 157) d_MD_validAt_147 (by decide) (fun _ => ?_) (fun z => absurd z (by decide +kernel))
              refine wp_iconst (v := nI 1) d_MD_validAt_157 c_iconst_1 ?_
              refine wp_istore (ls' := [(0, .inr 7), (1, .inl (x1)), (2, .inl (x2)), (3, .inl (x3)), (4, .inl (x4)), (5, .inl (x5)), (6, .inl (x6)), (7, .inl ((v0) &&& (nI 7))), (8, .inl (nI 0)), (9, .inl (nI 1))]) d_MD_validAt_158 (by decide) rfl ?_
              refine wp_iconst (v := nI 0) d_MD_validAt_160 c_iconst_0 ?_
              refine wp_istore (ls' := [(0, .inr 7), (1, .inl (x1)), (2, .inl (x2)), (3, .inl (x3)), (4, .inl (x4)), (5, .inl (x5)), (6, .inl (x6)), (7, .inl ((v0) &&& (nI 7))), (8, .inl (nI 0)), (9, .inl (nI 1)), (10, .inl (nI 0))]) d_MD_validAt_161 (by decide) rfl ?_
              exact e8 c1 c2 c5 c8 c9 c10
            · refine wp_iconst (v := nI 0) d_MD_validAt_143 c_iconst_0 ?_
              refine wp_ireturn d_MD_validAt_144 rfl ?_
              exact e9 c1 c2 c5 c8 c9 c10
        · refine wp_iload d_MD_validAt_104 rfl ?_
          refine wp_iconst (v := nI 4) d_MD_validAt_106 c_iconst_4 ?_
          refine wp_ic_gt (tgt := 124) d_MD_validAt_107 (by decide) (fun c11 => ?_) (fun c11 => ?_)
          · refine wp_iconst (v := nI 0) d_MD_validAt_124 c_iconst_0 ?_
            refine wp_istore (ls' := [(0, .inr 7), (1, .inl (x1)), (2, .inl (x2)), (3, .inl (x3)), (4, .inl (x4)), (5, .inl (x5)), (6, .inl (x6)), (7, .inl ((v0) &&& (nI 7))), (8, .inl (nI 0))]) d_MD_validAt_125 (by decide) rfl ?_
            refine wp_iload d_MD_validAt_127 rfl ?_
            refine wp_if_ne (tgt := 145) d_MD_validAt_129 (by decide) (fun z => absurd z (by decide +kernel)) (fun _ => ?_)
            refine wp_iload d_MD_validAt_132 rfl ?_
            refine wp_iconst (v := nI 2) d_MD_validAt_134 c_iconst_2 ?_
            refine wp_ic_ne (tgt := 143) d_MD_validAt_135 (by decide) (fun c12 => ?_) (fun c12 => ?_)
            · refine wp_iconst (v := nI 0) d_MD_validAt_143 c_iconst_0 ?_
              refine wp_ireturn d_MD_validAt_144 rfl ?_
              exact e10 c1 c2 c5 c8 c11 c12
            · refine wp_iload d_MD_validAt_138 rfl ?_
              refine wp_if_ne (tgt := 145) d_MD_validAt_140 (by decide) (fun c13 => ?_) (fun c13 => ?_)
              · refine wp_iload d_MD_validAt_145 rfl ?_
                refine wp_if_eq (tgt := 157) d_MD_validAt_147 (by decide) (fun _ => ?_) (fun z => absurd z (by decide +kernel))
                refine wp_iconst (v := nI 1) d_MD_validAt_157 c_iconst_1 ?_
                refine wp_istore (ls' := [(0, .inr 7), (1, .inl (x1)), (2, .inl (x2)), (3, .inl (x3)), (4, .inl (x4)), (5, .inl (x5)), (6, .inl (x6)), (7, .inl ((v0) &&& (nI 7))), (8, .inl (nI 0)), (9, .inl (nI 1))]) d_MD_validAt_158 (by decide) rfl ?_
                refine wp_iconst (v := nI 0) d_MD_validAt_160 c_iconst_0 ?_
                refine wp_istore (ls' := [(0, .inr 7), (1, .inl (x1)), (2, .inl (x2)), (3, .inl (x3)), (4, .inl (x4)), (5, .inl (x5)), (6, .inl (x6)), (7, .inl ((v0) &&& (nI 7))), (8, .inl (nI 0)), (9, .inl (nI 1)), (10, .inl (nI 0))]) d_MD_validAt_161 (by decide) rfl ?_
                exact e11 c1 c2 c5 c8 c11 c12 c13
              · refine wp_iconst (v := nI 0) d_MD_validAt_143 c_iconst_0 ?_
                refine wp_ireturn d_MD_validAt_144 rfl ?_
                exact e12 c1 c2 c5 c8 c11 c12 c13
          · refine wp_iload d_MD_validAt_110 rfl ?_
            refine wp_iload d_MD_validAt_112 rfl ?_
            refine wp_iadd d_MD_validAt_114 ?_
            refine wp_bipush (v := nI 24) d_MD_validAt_115 c_bipush_24 ?_
            refine wp_ic_ge (tgt := 124) d_MD_validAt_117 (by decide) (fun c14 => ?_) (fun c14 => ?_)
            · refine wp_iconst (v := nI 0) d_MD_validAt_124 c_iconst_0 ?_
              refine wp_istore (ls' := [(0, .inr 7), (1, .inl (x1)), (2, .inl (x2)), (3, .inl (x3)), (4, .inl (x4)), (5, .inl (x5)), (6, .inl (x6)), (7, .inl ((v0) &&& (nI 7))), (8, .inl (nI 0))]) d_MD_validAt_125 (by decide) rfl ?_
              refine wp_iload d_MD_validAt_127 rfl ?_
              refine wp_if_ne (tgt := 145) d_MD_validAt_129 (by decide) (fun z => absurd z (by decide +kernel)) (fun _ => ?_)
              refine wp_iload d_MD_validAt_132 rfl ?_
              refine wp_iconst (v := nI 2) d_MD_validAt_134 c_iconst_2 ?_
              refine wp_ic_ne (tgt := 143) d_MD_validAt_135 (by decide) (fun c15 => ?_) (fun c15 => ?_)
              · refine wp_iconst (v := nI 0) d_MD_validAt_143 c_iconst_0 ?_
                refine wp_ireturn d_MD_validAt_144 rfl ?_
                exact e13 c1 c2 c5 c8 c11 c14 c15
              · refine wp_iload d_MD_validAt_138 rfl ?_
                refine wp_if_ne (tgt := 145) d_MD_validAt_140 (by decide) (fun c16 => ?_) (fun c16 => ?_)
                · refine wp_iload d_MD_validAt_145 rfl ?_
                  refine wp_if_eq (tgt := 157) d_MD_validAt_147 (by decide) (fun _ => ?_) (fun z => absurd z (by decide +kernel))
                  refine wp_iconst (v := nI 1) d_MD_validAt_157 c_iconst_1 ?_
                  refine wp_istore (ls' := [(0, .inr 7), (1, .inl (x1)), (2, .inl (x2)), (3, .inl (x3)), (4, .inl (x4)), (5, .inl (x5)), (6, .inl (x6)), (7, .inl ((v0) &&& (nI 7))), (8, .inl (nI 0)), (9, .inl (nI 1))]) d_MD_validAt_158 (by decide) rfl ?_
                  refine wp_iconst (v := nI 0) d_MD_validAt_160 c_iconst_0 ?_
                  refine wp_istore (ls' := [(0, .inr 7), (1, .inl (x1)), (2, .inl (x2)), (3, .inl (x3)), (4, .inl (x4)), (5, .inl (x5)), (6, .inl (x6)), (7, .inl ((v0) &&& (nI 7))), (8, .inl (nI 0)), (9, .inl (nI 1)), (10, .inl (nI 0))]) d_MD_validAt_161 (by decide) rfl ?_
                  exact e14 c1 c2 c5 c8 c11 c14 c15 c16
                · refine wp_iconst (v := nI 0) d_MD_validAt_143 c_iconst_0 ?_
                  refine wp_ireturn d_MD_validAt_144 rfl ?_
                  exact e15 c1 c2 c5 c8 c11 c14 c15 c16
            · refine wp_iconst (v := nI 1) d_MD_validAt_120 c_iconst_1 ?_
              refine wp_goto (tgt := 125) d_MD_validAt_121 (by decide) ?_
              refine wp_istore (ls' := [(0, .inr 7), (1, .inl (x1)), (2, .inl (x2)), (3, .inl (x3)), (4, .inl (x4)), (5, .inl (x5)), (6, .inl (x6)), (7, .inl ((v0) &&& (nI 7))), (8, .inl (nI 1))]) d_MD_validAt_125 (by decide) rfl ?_
              refine wp_iload d_MD_validAt_127 rfl ?_
              refine wp_if_ne (tgt := 145) d_MD_validAt_129 (by decide) (fun _ => ?_) (fun z => absurd z (by decide +kernel))
              refine wp_iload d_MD_validAt_145 rfl ?_
              refine wp_if_eq (tgt := 157) d_MD_validAt_147 (by decide) (fun z => absurd z (by decide +kernel)) (fun _ => ?_)
              refine wp_iconst (v := nI 1) d_MD_validAt_150 c_iconst_1 ?_
              refine wp_iload d_MD_validAt_151 rfl ?_
              refine wp_iadd d_MD_validAt_153 ?_
              refine wp_goto (tgt := 158) d_MD_validAt_154 (by decide) ?_
              refine wp_istore (ls' := [(0, .inr 7), (1, .inl (x1)), (2, .inl (x2)), (3, .inl (x3)), (4, .inl (x4)), (5, .inl (x5)), (6, .inl (x6)), (7, .inl ((v0) &&& (nI 7))), (8, .inl (nI 1)), (9, .inl ((nI 1) + ((v0) &&& (nI 7))))]) d_MD_validAt_158 (by decide) rfl ?_
              refine wp_iconst (v := nI 0) d_MD_validAt_160 c_iconst_0 ?_
              refine wp_istore (ls' := [(0, .inr 7), (1, .inl (x1)), (2, .inl (x2)), (3, .inl (x3)), (4, .inl (x4)), (5, .inl (x5)), (6, .inl (x6)), (7, .inl ((v0) &&& (nI 7))), (8, .inl (nI 1)), (9, .inl ((nI 1) + ((v0) &&& (nI 7)))), (10, .inl (nI 0))]) d_MD_validAt_161 (by decide) rfl ?_
              exact e16 c1 c2 c5 c8 c11 c14
  · refine wp_aload_n d_MD_validAt_65 rfl ?_
    refine wp_iload d_MD_validAt_66 rfl ?_
    refine wp_iconst (v := nI 3) d_MD_validAt_68 c_iconst_3 ?_
    refine wp_callV (as := [.inl (x4), .inl (nI 3)]) (rest := []) (Q' := fun r h' => WP l E M_MD_validAt 72 [(0, .inr 7), (1, .inl (x1)), (2, .inl (x2)), (3, .inl (x3)), (4, .inl (x4)), (5, .inl (x5)), (6, .inl (x6)), (7, .inl ((v0) &&& (nI 7)))] (rpush r []) h' Q) d_MD_validAt_69 vb_MD_validAt_137 ⟨gw_3_190, sw_30⟩ rfl rfl rfl rfl (Nat.le_of_ble_eq_true rfl) rfl (Nat.le_of_ble_eq_true rfl) ?_ (fun r h' z => z)
    exact e17 c1
set_option maxRecDepth 100000 in
set_option maxHeartbeats 4000000 in
theorem k_MD_validAt_163 {l : Launch} {E : xE} {x1 x10 x2 x3 x4 x5 x6 x7 x8 x9 : Int32} {h : xh} {Q : Option Int32 → xh → Prop}
    (e1 : x9 ≤ x10 → WP l E M_MD_validAt 8 [(0, .inr 7), (1, .inl (x1)), (2, .inl (x2)), (3, .inl (x3)), (4, .inl ((x4) + (x9))), (5, .inl (x8))] [] h Q)
    (e2 : ¬ x9 ≤ x10 → MC l E M_MD_mixSector [.inr 7, .inl (x3), .inl ((x4) + (x10))] h (fun r h' => WP l E M_MD_validAt 180 [(0, .inr 7), (1, .inl (x1)), (2, .inl (x2)), (3, .inl (x3)), (4, .inl (x4)), (5, .inl (x5)), (6, .inl (x6)), (7, .inl (x7)), (8, .inl (x8)), (9, .inl (x9)), (10, .inl (x10))] (rpush r []) h' Q)) : WP l E M_MD_validAt 163 [(0, .inr 7), (1, .inl (x1)), (2, .inl (x2)), (3, .inl (x3)), (4, .inl (x4)), (5, .inl (x5)), (6, .inl (x6)), (7, .inl (x7)), (8, .inl (x8)), (9, .inl (x9)), (10, .inl (x10))] [] h Q := by
  refine wp_iload d_MD_validAt_163 rfl ?_
  refine wp_iload d_MD_validAt_165 rfl ?_
  refine wp_ic_ge (tgt := 187) d_MD_validAt_167 (by decide) (fun c1 => ?_) (fun c1 => ?_)
  · refine wp_iload d_MD_validAt_187 rfl ?_
    refine wp_iload d_MD_validAt_189 rfl ?_
    refine wp_iadd d_MD_validAt_191 ?_
    refine wp_istore (ls' := [(0, .inr 7), (1, .inl (x1)), (2, .inl (x2)), (3, .inl (x3)), (4, .inl ((x4) + (x9))), (5, .inl (x5)), (6, .inl (x6)), (7, .inl (x7)), (8, .inl (x8)), (9, .inl (x9)), (10, .inl (x10))]) d_MD_validAt_192 (by decide) rfl ?_
    refine wp_iload d_MD_validAt_194 rfl ?_
    refine wp_istore (ls' := [(0, .inr 7), (1, .inl (x1)), (2, .inl (x2)), (3, .inl (x3)), (4, .inl ((x4) + (x9))), (5, .inl (x8)), (6, .inl (x6)), (7, .inl (x7)), (8, .inl (x8)), (9, .inl (x9)), (10, .inl (x10))]) d_MD_validAt_196 (by decide) rfl ?_
    refine wp_goto (tgt := 8) d_MD_validAt_198 (by decide) ?_
    refine wp_sub (ls' := [(0, .inr 7), (1, .inl (x1)), (2, .inl (x2)), (3, .inl (x3)), (4, .inl ((x4) + (x9))), (5, .inl (x8))]) [0, 1, 2, 3, 4, 5] rfl ?_
    exact e1 c1
  · refine wp_aload_n d_MD_validAt_170 rfl ?_
    refine wp_iload_n d_MD_validAt_171 rfl ?_
    refine wp_iload d_MD_validAt_172 rfl ?_
    refine wp_iload d_MD_validAt_174 rfl ?_
    refine wp_iadd d_MD_validAt_176 ?_
    refine wp_callV (as := [.inl (x3), .inl ((x4) + (x10))]) (rest := []) (Q' := fun r h' => WP l E M_MD_validAt 180 [(0, .inr 7), (1, .inl (x1)), (2, .inl (x2)), (3, .inl (x3)), (4, .inl (x4)), (5, .inl (x5)), (6, .inl (x6)), (7, .inl (x7)), (8, .inl (x8)), (9, .inl (x9)), (10, .inl (x10))] (rpush r []) h' Q) d_MD_validAt_177 vb_MD_validAt_140 ⟨gw_3_194, sw_31⟩ rfl rfl rfl rfl (Nat.le_of_ble_eq_true rfl) rfl (Nat.le_of_ble_eq_true rfl) ?_ (fun r h' z => z)
    exact e2 c1
set_option maxRecDepth 100000 in
set_option maxHeartbeats 4000000 in
theorem k_MD_validAt_72 {l : Launch} {E : xE} {v0 x1 x2 x3 x4 x5 x6 x7 : Int32} {h : xh} {Q : Option Int32 → xh → Prop}
    (e1 : v0 ≠ x3 → Q (some (nI 0)) h)
    (e2 : v0 = x3 → Q (some (((x4) + (nI 1)) - (x1))) h) : WP l E M_MD_validAt 72 [(0, .inr 7), (1, .inl (x1)), (2, .inl (x2)), (3, .inl (x3)), (4, .inl (x4)), (5, .inl (x5)), (6, .inl (x6)), (7, .inl (x7))] [.inl (v0)] h Q := by
  refine wp_iload_n d_MD_validAt_72 rfl ?_
  refine wp_ic_ne (tgt := 85) d_MD_validAt_73 (by decide) (fun c1 => ?_) (fun c1 => ?_)
  · refine wp_iconst (v := nI 0) d_MD_validAt_85 c_iconst_0 ?_
    refine wp_ireturn d_MD_validAt_86 rfl ?_
    exact e1 c1
  · refine wp_iload d_MD_validAt_76 rfl ?_
    refine wp_iconst (v := nI 1) d_MD_validAt_78 c_iconst_1 ?_
    refine wp_iadd d_MD_validAt_79 ?_
    refine wp_iload_n d_MD_validAt_80 rfl ?_
    refine wp_isub d_MD_validAt_81 ?_
    refine wp_goto (tgt := 86) d_MD_validAt_82 (by decide) ?_
    refine wp_ireturn d_MD_validAt_86 rfl ?_
    exact e2 c1
set_option maxRecDepth 100000 in
set_option maxHeartbeats 4000000 in
theorem k_MD_validAt_180 {l : Launch} {E : xE} {v0 x1 x10 x2 x3 x4 x5 x6 x7 x8 x9 : Int32} {h : xh} {Q : Option Int32 → xh → Prop}
    (e1 : WP l E M_MD_validAt 163 [(0, .inr 7), (1, .inl (x1)), (2, .inl (x2)), (3, .inl (v0)), (4, .inl (x4)), (5, .inl (x5)), (6, .inl (x6)), (7, .inl (x7)), (8, .inl (x8)), (9, .inl (x9)), (10, .inl (x10 + nI 1))] [] h Q) : WP l E M_MD_validAt 180 [(0, .inr 7), (1, .inl (x1)), (2, .inl (x2)), (3, .inl (x3)), (4, .inl (x4)), (5, .inl (x5)), (6, .inl (x6)), (7, .inl (x7)), (8, .inl (x8)), (9, .inl (x9)), (10, .inl (x10))] [.inl (v0)] h Q := by
  refine wp_istore_n (ls' := [(0, .inr 7), (1, .inl (x1)), (2, .inl (x2)), (3, .inl (v0)), (4, .inl (x4)), (5, .inl (x5)), (6, .inl (x6)), (7, .inl (x7)), (8, .inl (x8)), (9, .inl (x9)), (10, .inl (x10))]) d_MD_validAt_180 (by decide) rfl ?_
  refine wp_iinc (v := x10 + nI 1) (ls' := [(0, .inr 7), (1, .inl (x1)), (2, .inl (x2)), (3, .inl (v0)), (4, .inl (x4)), (5, .inl (x5)), (6, .inl (x6)), (7, .inl (x7)), (8, .inl (x8)), (9, .inl (x9)), (10, .inl (x10 + nI 1))]) d_MD_validAt_181 rfl (c_inc_1 _) (by decide) rfl ?_
  refine wp_goto (tgt := 163) d_MD_validAt_184 (by decide) ?_
  exact e1
