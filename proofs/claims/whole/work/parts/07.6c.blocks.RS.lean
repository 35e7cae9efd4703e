set_option maxRecDepth 100000 in
set_option maxHeartbeats 4000000 in
theorem k_RS_left_0 {l : Launch} {E : xE} {h : xh} {Q : Option Int32 → xh → Prop}
    (e1 : Q (some ((h 6 3) - (h 6 4))) h) : MC l E M_RS_left [.inr 0] h Q := by
  refine wp_aload_n d_RS_left_0 rfl ?_
  refine wp_getR d_RS_left_1 fl_RS_43 rfl rfl ?_
  refine wp_callV (as := []) (rest := []) (Q' := fun r h' => WP l E M_RS_left 7 [(0, .inr 0)] (rpush r []) h' _) d_RS_left_4 vb_RS_left_153 ⟨gw_2_160, gw_2_161⟩ rfl rfl rfl rfl (Nat.le_of_ble_eq_true rfl) rfl (Nat.le_of_ble_eq_true rfl) ?_ (fun r h' z => z)
  show WP l E M_JB_remaining 0 [(0, .inr 6)] [] h _
  refine wp_aload_n d_JB_remaining_0 rfl ?_
  refine wp_getI d_JB_remaining_1 fl_JB_22 rfl rfl ?_
  refine wp_aload_n d_JB_remaining_4 rfl ?_
  refine wp_getI d_JB_remaining_5 fl_JB_25 rfl rfl ?_
  refine wp_isub d_JB_remaining_8 ?_
  refine wp_ireturn d_JB_remaining_9 rfl ?_
  show WP l E M_RS_left 7 [(0, .inr 0)] [.inl ((h 6 3) - (h 6 4))] h _
  refine wp_ireturn d_RS_left_7 rfl ?_
  exact e1
set_option maxRecDepth 100000 in
set_option maxHeartbeats 4000000 in
theorem k_RS_volumeWord_0 {l : Launch} {E : xE} {x1 x2 : Int32} {h : xh} {Q : Option Int32 → xh → Prop}
    (o1 : vp_in (x1) 16)
    (o2 : h 11 ((x1).toNatClampNeg) = 0 ∨ h 11 ((x1).toNatClampNeg) = 1)
    (o3 : (h 11 ((x1).toNatClampNeg)) = 0 → vp_in (x1) 16)
    (o4 : (h 11 ((x1).toNatClampNeg)) = 0 → h 13 ((x1).toNatClampNeg) = 0 ∨ h 13 ((x1).toNatClampNeg) = 1)
    (e1 : (h 11 ((x1).toNatClampNeg)) = 0 → (h 13 ((x1).toNatClampNeg)) = 0 → MC l E M_DV_newestWord [.inr 1, .inl (x1), .inl (x2)] h (fun r h' => WP l E M_RS_volumeWord 53 [(0, .inr 0), (1, .inl (x1)), (2, .inl (x2))] (rpush r []) h' Q))
    (o5 : (h 11 ((x1).toNatClampNeg)) = 0 → ¬ (h 13 ((x1).toNatClampNeg)) = 0 → vp_in (((x1) * (nI 4)) + (x2)) 64)
    (e2 : (h 11 ((x1).toNatClampNeg)) = 0 → ¬ (h 13 ((x1).toNatClampNeg)) = 0 → Q (some (h 14 ((((x1) * (nI 4)) + (x2)).toNatClampNeg))) h)
    (o6 : ¬ (h 11 ((x1).toNatClampNeg)) = 0 → vp_in (((x1) * (nI 4)) + (x2)) 64)
    (e3 : ¬ (h 11 ((x1).toNatClampNeg)) = 0 → Q (some (h 12 ((((x1) * (nI 4)) + (x2)).toNatClampNeg))) h) : MC l E M_RS_volumeWord [.inr 0, .inl (x1), .inl (x2)] h Q := by
  refine wp_aload_n d_RS_volumeWord_0 rfl ?_
  refine wp_getR d_RS_volumeWord_1 fl_RS_19 rfl rfl ?_
  refine wp_iload_n d_RS_volumeWord_4 rfl ?_
  refine wp_callV (as := [.inl (x1)]) (rest := []) (Q' := fun r h' => WP l E M_RS_volumeWord 8 [(0, .inr 0), (1, .inl (x1)), (2, .inl (x2))] (rpush r []) h' _) d_RS_volumeWord_5 vb_RS_volumeWord_59 ⟨gw_1_205, gw_1_206⟩ rfl rfl rfl rfl (Nat.le_of_ble_eq_true rfl) rfl (Nat.le_of_ble_eq_true rfl) ?_ (fun r h' z => z)
  show WP l E M_IM_holds 0 [(0, .inr 2), (1, .inl (x1))] [] h _
  refine wp_aload_n d_IM_holds_0 rfl ?_
  refine wp_getR d_IM_holds_1 fl_IM_9 rfl rfl ?_
  refine wp_iload_n d_IM_holds_4 rfl ?_
  refine wp_baload d_IM_holds_5 rfl o1 ?_
  refine wp_zreturn d_IM_holds_6 rfl o2 ?_
  show WP l E M_RS_volumeWord 8 [(0, .inr 0), (1, .inl (x1)), (2, .inl (x2))] [.inl (h 11 ((x1).toNatClampNeg))] h _
  refine wp_if_eq (tgt := 21) d_RS_volumeWord_8 (by decide) (fun c1 => ?_) (fun c1 => ?_)
  · refine wp_aload_n d_RS_volumeWord_21 rfl ?_
    refine wp_getR d_RS_volumeWord_22 fl_RS_23 rfl rfl ?_
    refine wp_iload_n d_RS_volumeWord_25 rfl ?_
    refine wp_callV (as := [.inl (x1)]) (rest := []) (Q' := fun r h' => WP l E M_RS_volumeWord 29 [(0, .inr 0), (1, .inl (x1)), (2, .inl (x2))] (rpush r []) h' _) d_RS_volumeWord_26 vb_RS_volumeWord_59 ⟨gw_1_205, gw_1_206⟩ rfl rfl rfl rfl (Nat.le_of_ble_eq_true rfl) rfl (Nat.le_of_ble_eq_true rfl) ?_ (fun r h' z => z)
    show WP l E M_IM_holds 0 [(0, .inr 3), (1, .inl (x1))] [] h _
    refine wp_aload_n d_IM_holds_0 rfl ?_
    refine wp_getR d_IM_holds_1 fl_IM_9 rfl rfl ?_
    refine wp_iload_n d_IM_holds_4 rfl ?_
    refine wp_baload d_IM_holds_5 rfl (o3 c1) ?_
    refine wp_zreturn d_IM_holds_6 rfl (o4 c1) ?_
    show WP l E M_RS_volumeWord 29 [(0, .inr 0), (1, .inl (x1)), (2, .inl (x2))] [.inl (h 13 ((x1).toNatClampNeg))] h _
    refine wp_if_eq (tgt := 44) d_RS_volumeWord_29 (by decide) (fun c2 => ?_) (fun c2 => ?_)
    · refine wp_aload_n d_RS_volumeWord_44 rfl ?_
      refine wp_getR d_RS_volumeWord_45 fl_RS_12 rfl rfl ?_
      refine wp_iload_n d_RS_volumeWord_48 rfl ?_
      refine wp_iload_n d_RS_volumeWord_49 rfl ?_
      refine wp_callV (as := [.inl (x1), .inl (x2)]) (rest := []) (Q' := fun r h' => WP l E M_RS_volumeWord 53 [(0, .inr 0), (1, .inl (x1)), (2, .inl (x2))] (rpush r []) h' Q) d_RS_volumeWord_50 vb_RS_volumeWord_179 ⟨gw_1_225, gw_1_226⟩ rfl rfl rfl rfl (Nat.le_of_ble_eq_true rfl) rfl (Nat.le_of_ble_eq_true rfl) ?_ (fun r h' z => z)
      exact e1 c1 c2
    · refine wp_aload_n d_RS_volumeWord_32 rfl ?_
      refine wp_getR d_RS_volumeWord_33 fl_RS_23 rfl rfl ?_
      refine wp_iload_n d_RS_volumeWord_36 rfl ?_
      refine wp_iload_n d_RS_volumeWord_37 rfl ?_
      refine wp_callV (as := [.inl (x1), .inl (x2)]) (rest := []) (Q' := fun r h' => WP l E M_RS_volumeWord 41 [(0, .inr 0), (1, .inl (x1)), (2, .inl (x2))] (rpush r []) h' _) d_RS_volumeWord_38 vb_RS_volumeWord_113 ⟨gw_1_221, gw_1_222⟩ rfl rfl rfl rfl (Nat.le_of_ble_eq_true rfl) rfl (Nat.le_of_ble_eq_true rfl) ?_ (fun r h' z => z)
      show WP l E M_IM_word 0 [(0, .inr 3), (1, .inl (x1)), (2, .inl (x2))] [] h _
      refine wp_aload_n d_IM_word_0 rfl ?_
      refine wp_getR d_IM_word_1 fl_IM_15 rfl rfl ?_
      refine wp_iload_n d_IM_word_4 rfl ?_
      refine wp_iconst (v := nI 4) d_IM_word_5 c_iconst_4 ?_
      refine wp_imul d_IM_word_6 ?_
      refine wp_iload_n d_IM_word_7 rfl ?_
      refine wp_iadd d_IM_word_8 ?_
      refine wp_iaload d_IM_word_9 rfl (o5 c1 c2) ?_
      refine wp_ireturn d_IM_word_10 rfl ?_
      show WP l E M_RS_volumeWord 41 [(0, .inr 0), (1, .inl (x1)), (2, .inl (x2))] [.inl (h 14 ((((x1) * (nI 4)) + (x2)).toNatClampNeg))] h _
      refine wp_goto (tgt := 53) d_RS_volumeWord_41 (by decide) ?_
      refine wp_ireturn d_RS_volumeWord_53 rfl ?_
      exact e2 c1 c2
  · refine wp_aload_n d_RS_volumeWord_11 rfl ?_
    refine wp_getR d_RS_volumeWord_12 fl_RS_19 rfl rfl ?_
    refine wp_iload_n d_RS_volumeWord_15 rfl ?_
    refine wp_iload_n d_RS_volumeWord_16 rfl ?_
    refine wp_callV (as := [.inl (x1), .inl (x2)]) (rest := []) (Q' := fun r h' => WP l E M_RS_volumeWord 20 [(0, .inr 0), (1, .inl (x1)), (2, .inl (x2))] (rpush r []) h' _) d_RS_volumeWord_17 vb_RS_volumeWord_113 ⟨gw_1_221, gw_1_222⟩ rfl rfl rfl rfl (Nat.le_of_ble_eq_true rfl) rfl (Nat.le_of_ble_eq_true rfl) ?_ (fun r h' z => z)
    show WP l E M_IM_word 0 [(0, .inr 2), (1, .inl (x1)), (2, .inl (x2))] [] h _
    refine wp_aload_n d_IM_word_0 rfl ?_
    refine wp_getR d_IM_word_1 fl_IM_15 rfl rfl ?_
    refine wp_iload_n d_IM_word_4 rfl ?_
    refine wp_iconst (v := nI 4) d_IM_word_5 c_iconst_4 ?_
    refine wp_imul d_IM_word_6 ?_
    refine wp_iload_n d_IM_word_7 rfl ?_
    refine wp_iadd d_IM_word_8 ?_
    refine wp_iaload d_IM_word_9 rfl (o6 c1) ?_
    refine wp_ireturn d_IM_word_10 rfl ?_
    show WP l E M_RS_volumeWord 20 [(0, .inr 0), (1, .inl (x1)), (2, .inl (x2))] [.inl (h 12 ((((x1) * (nI 4)) + (x2)).toNatClampNeg))] h _
    refine wp_ireturn d_RS_volumeWord_20 rfl ?_
    exact e3 c1
set_option maxRecDepth 100000 in
set_option maxHeartbeats 4000000 in
theorem k_RS_volumeWord_53 {l : Launch} {E : xE} {v0 x1 x2 : Int32} {h : xh} {Q : Option Int32 → xh → Prop}
    (e1 : Q (some (v0)) h) : WP l E M_RS_volumeWord 53 [(0, .inr 0), (1, .inl (x1)), (2, .inl (x2))] [.inl (v0)] h Q := by
  refine wp_ireturn d_RS_volumeWord_53 rfl ?_
  exact e1
set_option maxRecDepth 100000 in
set_option maxHeartbeats 4000000 in
theorem k_RS_beginImage_0 {l : Launch} {E : xE} {x1 : Int32} {h : xh} {Q : Option Int32 → xh → Prop}
    (e1 : WP l E M_RS_beginImage 2 [(0, .inr 0), (1, .inl (x1)), (2, .inl (nI 0))] [] h Q) : MC l E M_RS_beginImage [.inr 0, .inl (x1)] h Q := by
  refine wp_iconst (v := nI 0) d_RS_beginImage_0 c_iconst_0 ?_
  refine wp_istore_n (ls' := [(0, .inr 0), (1, .inl (x1)), (2, .inl (nI 0))]) d_RS_beginImage_1 (by decide) rfl ?_
  exact e1
set_option maxRecDepth 100000 in
set_option maxHeartbeats 4000000 in
theorem k_RS_beginImage_2 {l : Launch} {E : xE} {x1 x2 : Int32} {h : xh} {Q : Option Int32 → xh → Prop}
    (e1 : (nI 4) ≤ x2 → MC l E M_IM_hold [.inr 2, .inl (x1)] h (fun r h' => WP l E M_RS_beginImage 36 [(0, .inr 0), (1, .inl (x1)), (2, .inl (x2))] (rpush r []) h' Q))
    (e2 : ¬ (nI 4) ≤ x2 → MC l E M_RS_volumeWord [.inr 0, .inl (x1), .inl (x2)] h (fun r h' => WP l E M_RS_beginImage 19 [(0, .inr 0), (1, .inl (x1)), (2, .inl (x2))] (rpush r [.inl (x2), .inl (x1), .inr 2]) h' Q)) : WP l E M_RS_beginImage 2 [(0, .inr 0), (1, .inl (x1)), (2, .inl (x2))] [] h Q := by
  refine wp_iload_n d_RS_beginImage_2 rfl ?_
  refine wp_iconst (v := nI 4) d_RS_beginImage_3 c_iconst_4 ?_
  refine wp_ic_ge (tgt := 28) d_RS_beginImage_4 (by decide) (fun c1 => ?_) (fun c1 => ?_)
  · refine wp_aload_n d_RS_beginImage_28 rfl ?_
    refine wp_getR d_RS_beginImage_29 fl_RS_19 rfl rfl ?_
    refine wp_iload_n d_RS_beginImage_32 rfl ?_
    refine wp_callV (as := [.inl (x1)]) (rest := []) (Q' := fun r h' => WP l E M_RS_beginImage 36 [(0, .inr 0), (1, .inl (x1)), (2, .inl (x2))] (rpush r []) h' Q) d_RS_beginImage_33 vb_RS_beginImage_192 ⟨gw_1_237, gw_1_238⟩ rfl rfl rfl rfl (Nat.le_of_ble_eq_true rfl) rfl (Nat.le_of_ble_eq_true rfl) ?_ (fun r h' z => z)
    exact e1 c1
  · refine wp_aload_n d_RS_beginImage_7 rfl ?_
    refine wp_getR d_RS_beginImage_8 fl_RS_19 rfl rfl ?_
    refine wp_iload_n d_RS_beginImage_11 rfl ?_
    refine wp_iload_n d_RS_beginImage_12 rfl ?_
    refine wp_aload_n d_RS_beginImage_13 rfl ?_
    refine wp_iload_n d_RS_beginImage_14 rfl ?_
    refine wp_iload_n d_RS_beginImage_15 rfl ?_
    refine wp_callV (as := [.inl (x1), .inl (x2)]) (rest := [.inl (x2), .inl (x1), .inr 2]) (Q' := fun r h' => WP l E M_RS_beginImage 19 [(0, .inr 0), (1, .inl (x1)), (2, .inl (x2))] (rpush r [.inl (x2), .inl (x1), .inr 2]) h' Q) d_RS_beginImage_16 vb_RS_beginImage_173 ⟨gw_1_218, sw_3⟩ rfl rfl rfl rfl (Nat.le_of_ble_eq_true rfl) rfl (Nat.le_of_ble_eq_true rfl) ?_ (fun r h' z => z)
    exact e2 c1
set_option maxRecDepth 100000 in
set_option maxHeartbeats 4000000 in
theorem k_RS_beginImage_36 {l : Launch} {E : xE} {x1 x2 : Int32} {h : xh} {Q : Option Int32 → xh → Prop}
    (e1 : Q none (hw h 0 7 ((h 0 7) &&& (((nI 1) <<< ((x1) &&& 31)) ^^^ ((-1)))))) : WP l E M_RS_beginImage 36 [(0, .inr 0), (1, .inl (x1)), (2, .inl (x2))] [] h Q := by
  refine wp_aload_n d_RS_beginImage_36 rfl ?_
  refine wp_dup d_RS_beginImage_37 ?_
  refine wp_getI d_RS_beginImage_38 fl_RS_81 rfl rfl ?_
  refine wp_iconst (v := nI 1) d_RS_beginImage_41 c_iconst_1 ?_
  refine wp_iload_n d_RS_beginImage_42 rfl ?_
  refine wp_ishl d_RS_beginImage_43 ?_
  refine wp_iconst (v := (-1)) d_RS_beginImage_44 c_iconst_m1 ?_
  refine wp_ixor d_RS_beginImage_45 ?_
  refine wp_iand d_RS_beginImage_46 ?_
  refine wp_putI d_RS_beginImage_47 fm_RS_81 rfl rfl ?_
  refine wp_return d_RS_beginImage_50 rfl ?_
  exact e1
set_option maxRecDepth 100000 in
set_option maxHeartbeats 4000000 in
theorem k_RS_beginImage_19 {l : Launch} {E : xE} {s1 s2 v0 x1 x2 : Int32} {h : xh} {Q : Option Int32 → xh → Prop}
    (o1 : vp_in (((s1) * (nI 4)) + (s2)) 64)
    (e1 : WP l E M_RS_beginImage 2 [(0, .inr 0), (1, .inl (x1)), (2, .inl (x2 + nI 1))] [] (hw h 12 ((((s1) * (nI 4)) + (s2)).toNatClampNeg) (v0)) Q) : WP l E M_RS_beginImage 19 [(0, .inr 0), (1, .inl (x1)), (2, .inl (x2))] [.inl (v0), .inl (s2), .inl (s1), .inr 2] h Q := by
  refine wp_callV (as := [.inl (s1), .inl (s2), .inl (v0)]) (rest := []) (Q' := fun r h' => WP l E M_RS_beginImage 22 [(0, .inr 0), (1, .inl (x1)), (2, .inl (x2))] (rpush r []) h' _) d_RS_beginImage_19 vb_RS_beginImage_71 ⟨gw_1_233, gw_1_234⟩ rfl rfl rfl rfl (Nat.le_of_ble_eq_true rfl) rfl (Nat.le_of_ble_eq_true rfl) ?_ (fun r h' z => z)
  show WP l E M_IM_setWord 0 [(0, .inr 2), (1, .inl (s1)), (2, .inl (s2)), (3, .inl (v0))] [] h _
  refine wp_aload_n d_IM_setWord_0 rfl ?_
  refine wp_getR d_IM_setWord_1 fl_IM_15 rfl rfl ?_
  refine wp_iload_n d_IM_setWord_4 rfl ?_
  refine wp_iconst (v := nI 4) d_IM_setWord_5 c_iconst_4 ?_
  refine wp_imul d_IM_setWord_6 ?_
  refine wp_iload_n d_IM_setWord_7 rfl ?_
  refine wp_iadd d_IM_setWord_8 ?_
  refine wp_iload_n d_IM_setWord_9 rfl ?_
  refine wp_iastore d_IM_setWord_10 rfl o1 ?_
  refine wp_return d_IM_setWord_11 rfl ?_
  show WP l E M_RS_beginImage 22 [(0, .inr 0), (1, .inl (x1)), (2, .inl (x2))] [] (hw h 12 ((((s1) * (nI 4)) + (s2)).toNatClampNeg) (v0)) _
  refine wp_iinc (v := x2 + nI 1) (ls' := [(0, .inr 0), (1, .inl (x1)), (2, .inl (x2 + nI 1))]) d_RS_beginImage_22 rfl (c_inc_1 _) (by decide) rfl ?_
  refine wp_goto (tgt := 2) d_RS_beginImage_25 (by decide) ?_
  exact e1
set_option maxRecDepth 100000 in
set_option maxHeartbeats 4000000 in
theorem k_RS_planRowSector_0 {l : Launch} {E : xE} {x1 : Int32} {h : xh} {Q : Option Int32 → xh → Prop}
    (o1 : vp_in (((x1) * (nI 4)) + (nI 0)) 48)
    (o2 : vp_in (((x1) * (nI 4)) + (nI 1)) 48)
    (o3 : vp_in (((x1) * (nI 4)) + (nI 2)) 48)
    (o4 : vp_in (((x1) * (nI 4)) + (nI 3)) 48)
    (e1 : MC l E M_JB_addWrite [.inr 6, .inl ((nI 17) + (irem ((h 0 9) + (x1)) (nI 24))), .inl (h 15 ((((x1) * (nI 4)) + (nI 0)).toNatClampNeg)), .inl (h 15 ((((x1) * (nI 4)) + (nI 1)).toNatClampNeg)), .inl (h 15 ((((x1) * (nI 4)) + (nI 2)).toNatClampNeg)), .inl (h 15 ((((x1) * (nI 4)) + (nI 3)).toNatClampNeg))] h (fun r h' => WP l E M_RS_planRowSector 52 [(0, .inr 0), (1, .inl (x1))] (rpush r []) h' Q)) : MC l E M_RS_planRowSector [.inr 0, .inl (x1)] h Q := by
  refine wp_aload_n d_RS_planRowSector_0 rfl ?_
  refine wp_getR d_RS_planRowSector_1 fl_RS_43 rfl rfl ?_
  refine wp_aload_n d_RS_planRowSector_4 rfl ?_
  refine wp_getI d_RS_planRowSector_5 fl_RS_121 rfl rfl ?_
  refine wp_iload_n d_RS_planRowSector_8 rfl ?_
  refine wp_iadd d_RS_planRowSector_9 ?_
  refine wp_callS (as := [.inl ((h 0 9) + (x1))]) (rest := [.inr 6]) (Q' := fun r h' => WP l E M_RS_planRowSector 13 [(0, .inr 0), (1, .inl (x1))] (rpush r [.inr 6]) h' _) d_RS_planRowSector_10 vb_RS_planRowSector_195 gw_2_57 rfl (Nat.le_of_ble_eq_true rfl) rfl (Nat.le_of_ble_eq_true rfl) ?_ (fun r h' z => z)
  show WP l E M_RS_logSector 0 [(0, .inl ((h 0 9) + (x1)))] [] h _
  refine wp_bipush (v := nI 17) d_RS_logSector_0 c_bipush_17 ?_
  refine wp_iload_n d_RS_logSector_2 rfl ?_
  refine wp_bipush (v := nI 24) d_RS_logSector_3 c_bipush_24 ?_
  refine wp_irem d_RS_logSector_5 (by decide +kernel) ?_
  refine wp_iadd d_RS_logSector_6 ?_
  refine wp_ireturn d_RS_logSector_7 rfl ?_
  show WP l E M_RS_planRowSector 13 [(0, .inr 0), (1, .inl (x1))] [.inl ((nI 17) + (irem ((h 0 9) + (x1)) (nI 24))), .inr 6] h _
  refine wp_aload_n d_RS_planRowSector_13 rfl ?_
  refine wp_getR d_RS_planRowSector_14 fl_RS_29 rfl rfl ?_
  refine wp_iload_n d_RS_planRowSector_17 rfl ?_
  refine wp_iconst (v := nI 0) d_RS_planRowSector_18 c_iconst_0 ?_
  refine wp_callV (as := [.inl (x1), .inl (nI 0)]) (rest := [.inl ((nI 17) + (irem ((h 0 9) + (x1)) (nI 24))), .inr 6]) (Q' := fun r h' => WP l E M_RS_planRowSector 22 [(0, .inr 0), (1, .inl (x1))] (rpush r [.inl ((nI 17) + (irem ((h 0 9) + (x1)) (nI 24))), .inr 6]) h' _) d_RS_planRowSector_19 vb_RS_planRowSector_198 ⟨gw_2_60, gw_2_61⟩ rfl rfl rfl rfl (Nat.le_of_ble_eq_true rfl) rfl (Nat.le_of_ble_eq_true rfl) ?_ (fun r h' z => z)
  show WP l E M_RW_word 0 [(0, .inr 4), (1, .inl (x1)), (2, .inl (nI 0))] [] h _
  refine wp_aload_n d_RW_word_0 rfl ?_
  refine wp_getR d_RW_word_1 fl_RW_11 rfl rfl ?_
  refine wp_iload_n d_RW_word_4 rfl ?_
  refine wp_iconst (v := nI 4) d_RW_word_5 c_iconst_4 ?_
  refine wp_imul d_RW_word_6 ?_
  refine wp_iload_n d_RW_word_7 rfl ?_
  refine wp_iadd d_RW_word_8 ?_
  refine wp_iaload d_RW_word_9 rfl o1 ?_
  refine wp_ireturn d_RW_word_10 rfl ?_
  show WP l E M_RS_planRowSector 22 [(0, .inr 0), (1, .inl (x1))] [.inl (h 15 ((((x1) * (nI 4)) + (nI 0)).toNatClampNeg)), .inl ((nI 17) + (irem ((h 0 9) + (x1)) (nI 24))), .inr 6] h _
  refine wp_aload_n d_RS_planRowSector_22 rfl ?_
  refine wp_getR d_RS_planRowSector_23 fl_RS_29 rfl rfl ?_
  refine wp_iload_n d_RS_planRowSector_26 rfl ?_
  refine wp_iconst (v := nI 1) d_RS_planRowSector_27 c_iconst_1 ?_
  refine wp_callV (as := [.inl (x1), .inl (nI 1)]) (rest := [.inl (h 15 ((((x1) * (nI 4)) + (nI 0)).toNatClampNeg)), .inl ((nI 17) + (irem ((h 0 9) + (x1)) (nI 24))), .inr 6]) (Q' := fun r h' => WP l E M_RS_planRowSector 31 [(0, .inr 0), (1, .inl (x1))] (rpush r [.inl (h 15 ((((x1) * (nI 4)) + (nI 0)).toNatClampNeg)), .inl ((nI 17) + (irem ((h 0 9) + (x1)) (nI 24))), .inr 6]) h' _) d_RS_planRowSector_28 vb_RS_planRowSector_198 ⟨gw_2_60, gw_2_61⟩ rfl rfl rfl rfl (Nat.le_of_ble_eq_true rfl) rfl (Nat.le_of_ble_eq_true rfl) ?_ (fun r h' z => z)
  show WP l E M_RW_word 0 [(0, .inr 4), (1, .inl (x1)), (2, .inl (nI 1))] [] h _
  refine wp_aload_n d_RW_word_0 rfl ?_
  refine wp_getR d_RW_word_1 fl_RW_11 rfl rfl ?_
  refine wp_iload_n d_RW_word_4 rfl ?_
  refine wp_iconst (v := nI 4) d_RW_word_5 c_iconst_4 ?_
  refine wp_imul d_RW_word_6 ?_
  refine wp_iload_n d_RW_word_7 rfl ?_
  refine wp_iadd d_RW_word_8 ?_
  refine wp_iaload d_RW_word_9 rfl o2 ?_
  refine wp_ireturn d_RW_word_10 rfl ?_
  show WP l E M_RS_planRowSector 31 [(0, .inr 0), (1, .inl (x1))] [.inl (h 15 ((((x1) * (nI 4)) + (nI 1)).toNatClampNeg)), .inl (h 15 ((((x1) * (nI 4)) + (nI 0)).toNatClampNeg)), .inl ((nI 17) + (irem ((h 0 9) + (x1)) (nI 24))), .inr 6] h _
  refine wp_aload_n d_RS_planRowSector_31 rfl ?_
  refine wp_getR d_RS_planRowSector_32 fl_RS_29 rfl rfl ?_
  refine wp_iload_n d_RS_planRowSector_35 rfl ?_
  refine wp_iconst (v := nI 2) d_RS_planRowSector_36 c_iconst_2 ?_
  refine wp_callV (as := [.inl (x1), .inl (nI 2)]) (rest := [.inl (h 15 ((((x1) * (nI 4)) + (nI 1)).toNatClampNeg)), .inl (h 15 ((((x1) * (nI 4)) + (nI 0)).toNatClampNeg)), .inl ((nI 17) + (irem ((h 0 9) + (x1)) (nI 24))), .inr 6]) (Q' := fun r h' => WP l E M_RS_planRowSector 40 [(0, .inr 0), (1, .inl (x1))] (rpush r [.inl (h 15 ((((x1) * (nI 4)) + (nI 1)).toNatClampNeg)), .inl (h 15 ((((x1) * (nI 4)) + (nI 0)).toNatClampNeg)), .inl ((nI 17) + (irem ((h 0 9) + (x1)) (nI 24))), .inr 6]) h' _) d_RS_planRowSector_37 vb_RS_planRowSector_198 ⟨gw_2_60, gw_2_61⟩ rfl rfl rfl rfl (Nat.le_of_ble_eq_true rfl) rfl (Nat.le_of_ble_eq_true rfl) ?_ (fun r h' z => z)
  show WP l E M_RW_word 0 [(0, .inr 4), (1, .inl (x1)), (2, .inl (nI 2))] [] h _
  refine wp_aload_n d_RW_word_0 rfl ?_
  refine wp_getR d_RW_word_1 fl_RW_11 rfl rfl ?_
  refine wp_iload_n d_RW_word_4 rfl ?_
  refine wp_iconst (v := nI 4) d_RW_word_5 c_iconst_4 ?_
  refine wp_imul d_RW_word_6 ?_
  refine wp_iload_n d_RW_word_7 rfl ?_
  refine wp_iadd d_RW_word_8 ?_
  refine wp_iaload d_RW_word_9 rfl o3 ?_
  refine wp_ireturn d_RW_word_10 rfl ?_
  show WP l E M_RS_planRowSector 40 [(0, .inr 0), (1, .inl (x1))] [.inl (h 15 ((((x1) * (nI 4)) + (nI 2)).toNatClampNeg)), .inl (h 15 ((((x1) * (nI 4)) + (nI 1)).toNatClampNeg)), .inl (h 15 ((((x1) * (nI 4)) + (nI 0)).toNatClampNeg)), .inl ((nI 17) + (irem ((h 0 9) + (x1)) (nI 24))), .inr 6] h _
  refine wp_aload_n d_RS_planRowSector_40 rfl ?_
  refine wp_getR d_RS_planRowSector_41 fl_RS_29 rfl rfl ?_
  refine wp_iload_n d_RS_planRowSector_44 rfl ?_
  refine wp_iconst (v := nI 3) d_RS_planRowSector_45 c_iconst_3 ?_
  refine wp_callV (as := [.inl (x1), .inl (nI 3)]) (rest := [.inl (h 15 ((((x1) * (nI 4)) + (nI 2)).toNatClampNeg)), .inl (h 15 ((((x1) * (nI 4)) + (nI 1)).toNatClampNeg)), .inl (h 15 ((((x1) * (nI 4)) + (nI 0)).toNatClampNeg)), .inl ((nI 17) + (irem ((h 0 9) + (x1)) (nI 24))), .inr 6]) (Q' := fun r h' => WP l E M_RS_planRowSector 49 [(0, .inr 0), (1, .inl (x1))] (rpush r [.inl (h 15 ((((x1) * (nI 4)) + (nI 2)).toNatClampNeg)), .inl (h 15 ((((x1) * (nI 4)) + (nI 1)).toNatClampNeg)), .inl (h 15 ((((x1) * (nI 4)) + (nI 0)).toNatClampNeg)), .inl ((nI 17) + (irem ((h 0 9) + (x1)) (nI 24))), .inr 6]) h' _) d_RS_planRowSector_46 vb_RS_planRowSector_198 ⟨gw_2_60, gw_2_61⟩ rfl rfl rfl rfl (Nat.le_of_ble_eq_true rfl) rfl (Nat.le_of_ble_eq_true rfl) ?_ (fun r h' z => z)
  show WP l E M_RW_word 0 [(0, .inr 4), (1, .inl (x1)), (2, .inl (nI 3))] [] h _
  refine wp_aload_n d_RW_word_0 rfl ?_
  refine wp_getR d_RW_word_1 fl_RW_11 rfl rfl ?_
  refine wp_iload_n d_RW_word_4 rfl ?_
  refine wp_iconst (v := nI 4) d_RW_word_5 c_iconst_4 ?_
  refine wp_imul d_RW_word_6 ?_
  refine wp_iload_n d_RW_word_7 rfl ?_
  refine wp_iadd d_RW_word_8 ?_
  refine wp_iaload d_RW_word_9 rfl o4 ?_
  refine wp_ireturn d_RW_word_10 rfl ?_
  show WP l E M_RS_planRowSector 49 [(0, .inr 0), (1, .inl (x1))] [.inl (h 15 ((((x1) * (nI 4)) + (nI 3)).toNatClampNeg)), .inl (h 15 ((((x1) * (nI 4)) + (nI 2)).toNatClampNeg)), .inl (h 15 ((((x1) * (nI 4)) + (nI 1)).toNatClampNeg)), .inl (h 15 ((((x1) * (nI 4)) + (nI 0)).toNatClampNeg)), .inl ((nI 17) + (irem ((h 0 9) + (x1)) (nI 24))), .inr 6] h _
  refine wp_callV (as := [.inl ((nI 17) + (irem ((h 0 9) + (x1)) (nI 24))), .inl (h 15 ((((x1) * (nI 4)) + (nI 0)).toNatClampNeg)), .inl (h 15 ((((x1) * (nI 4)) + (nI 1)).toNatClampNeg)), .inl (h 15 ((((x1) * (nI 4)) + (nI 2)).toNatClampNeg)), .inl (h 15 ((((x1) * (nI 4)) + (nI 3)).toNatClampNeg))]) (rest := []) (Q' := fun r h' => WP l E M_RS_planRowSector 52 [(0, .inr 0), (1, .inl (x1))] (rpush r []) h' Q) d_RS_planRowSector_49 vb_RS_planRowSector_117 ⟨gw_2_64, gw_2_65⟩ rfl rfl rfl rfl (Nat.le_of_ble_eq_true rfl) rfl (Nat.le_of_ble_eq_true rfl) ?_ (fun r h' z => z)
  exact e1
set_option maxRecDepth 100000 in
set_option maxHeartbeats 4000000 in
theorem k_RS_planRowSector_52 {l : Launch} {E : xE} {x1 : Int32} {h : xh} {Q : Option Int32 → xh → Prop}
    (e1 : Q none h) : WP l E M_RS_planRowSector 52 [(0, .inr 0), (1, .inl (x1))] [] h Q := by
  refine wp_return d_RS_planRowSector_52 rfl ?_
  exact e1
set_option maxRecDepth 100000 in
set_option maxHeartbeats 4000000 in
theorem k_RS_planHead_0 {l : Launch} {E : xE} {x1 x2 : Int32} {h : xh} {Q : Option Int32 → xh → Prop}
    (e1 : MC l E M_JB_addFlush [.inr 6] h (fun r h' => WP l E M_RS_planHead 7 [(0, .inr 0), (1, .inl (x1)), (2, .inl (x2))] (rpush r []) h' Q)) : MC l E M_RS_planHead [.inr 0, .inl (x1), .inl (x2)] h Q := by
  refine wp_aload_n d_RS_planHead_0 rfl ?_
  refine wp_getR d_RS_planHead_1 fl_RS_43 rfl rfl ?_
  refine wp_callV (as := []) (rest := []) (Q' := fun r h' => WP l E M_RS_planHead 7 [(0, .inr 0), (1, .inl (x1)), (2, .inl (x2))] (rpush r []) h' Q) d_RS_planHead_4 vb_RS_planHead_110 ⟨gw_2_68, gw_2_69⟩ rfl rfl rfl rfl (Nat.le_of_ble_eq_true rfl) rfl (Nat.le_of_ble_eq_true rfl) ?_ (fun r h' z => z)
  exact e1
set_option maxRecDepth 100000 in
set_option maxHeartbeats 4000000 in
theorem k_RS_planHead_7 {l : Launch} {E : xE} {x1 x2 : Int32} {h : xh} {Q : Option Int32 → xh → Prop}
    (e1 : MC l E M_JB_addWrite [.inr 6, .inl (nI 16), .inl (nI 77001), .inl (x1), .inl (x2), .inl (nI 0)] h (fun r h' => WP l E M_RS_planHead 21 [(0, .inr 0), (1, .inl (x1)), (2, .inl (x2))] (rpush r []) h' Q)) : WP l E M_RS_planHead 7 [(0, .inr 0), (1, .inl (x1)), (2, .inl (x2))] [] h Q := by
  refine wp_aload_n d_RS_planHead_7 rfl ?_
  refine wp_getR d_RS_planHead_8 fl_RS_43 rfl rfl ?_
  refine wp_bipush (v := nI 16) d_RS_planHead_11 c_bipush_16 ?_
  refine wp_ldcN d_RS_planHead_13 gw_2_79 c_lit_77001 ?_
  refine wp_iload_n d_RS_planHead_15 rfl ?_
  refine wp_iload_n d_RS_planHead_16 rfl ?_
  refine wp_iconst (v := nI 0) d_RS_planHead_17 c_iconst_0 ?_
  refine wp_callV (as := [.inl (nI 16), .inl (nI 77001), .inl (x1), .inl (x2), .inl (nI 0)]) (rest := []) (Q' := fun r h' => WP l E M_RS_planHead 21 [(0, .inr 0), (1, .inl (x1)), (2, .inl (x2))] (rpush r []) h' Q) d_RS_planHead_18 vb_RS_planHead_117 ⟨gw_2_64, gw_2_65⟩ rfl rfl rfl rfl (Nat.le_of_ble_eq_true rfl) rfl (Nat.le_of_ble_eq_true rfl) ?_ (fun r h' z => z)
  exact e1
set_option maxRecDepth 100000 in
set_option maxHeartbeats 4000000 in
theorem k_RS_planHead_21 {l : Launch} {E : xE} {x1 x2 : Int32} {h : xh} {Q : Option Int32 → xh → Prop}
    (e1 : MC l E M_JB_addFlush [.inr 6] h (fun r h' => WP l E M_RS_planHead 28 [(0, .inr 0), (1, .inl (x1)), (2, .inl (x2))] (rpush r []) h' Q)) : WP l E M_RS_planHead 21 [(0, .inr 0), (1, .inl (x1)), (2, .inl (x2))] [] h Q := by
  refine wp_aload_n d_RS_planHead_21 rfl ?_
  refine wp_getR d_RS_planHead_22 fl_RS_43 rfl rfl ?_
  refine wp_callV (as := []) (rest := []) (Q' := fun r h' => WP l E M_RS_planHead 28 [(0, .inr 0), (1, .inl (x1)), (2, .inl (x2))] (rpush r []) h' Q) d_RS_planHead_25 vb_RS_planHead_110 ⟨gw_2_68, gw_2_69⟩ rfl rfl rfl rfl (Nat.le_of_ble_eq_true rfl) rfl (Nat.le_of_ble_eq_true rfl) ?_ (fun r h' z => z)
  exact e1
set_option maxRecDepth 100000 in
set_option maxHeartbeats 4000000 in
theorem k_RS_planHead_28 {l : Launch} {E : xE} {x1 x2 : Int32} {h : xh} {Q : Option Int32 → xh → Prop}
    (e1 : Q none h) : WP l E M_RS_planHead 28 [(0, .inr 0), (1, .inl (x1)), (2, .inl (x2))] [] h Q := by
  refine wp_return d_RS_planHead_28 rfl ?_
  exact e1
set_option maxRecDepth 100000 in
set_option maxHeartbeats 4000000 in
theorem k_RS_finishJob_0 {l : Launch} {E : xE} {h : xh} {Q : Option Int32 → xh → Prop}
    (e1 : (h 6 2) ≠ (nI 2) → (h 6 2) ≠ (nI 3) → MC l E M_RS_comeUp [.inr 0, .inl (h 5 7), .inl (irem ((h 5 6) + (h 5 8)) (nI 24))] (hw (hw (hw h 6 2 (nI 0)) 6 3 (nI 0)) 6 4 (nI 0)) (fun r h' => WP l E M_RS_finishJob 65 [(0, .inr 0), (1, .inl (h 6 2))] (rpush r []) h' Q))
    (e2 : (h 6 2) ≠ (nI 2) → (h 6 2) = (nI 3) → MC l E M_IM_clear [.inr 3] (hw (hw (hw h 6 2 (nI 0)) 6 3 (nI 0)) 6 4 (nI 0)) (fun r h' => WP l E M_RS_finishJob 39 [(0, .inr 0), (1, .inl (h 6 2))] (rpush r []) h' Q))
    (e3 : (h 6 2) = (nI 2) → MC l E M_RS_finishCommit [.inr 0] (hw (hw (hw h 6 2 (nI 0)) 6 3 (nI 0)) 6 4 (nI 0)) (fun r h' => WP l E M_RS_finishJob 24 [(0, .inr 0), (1, .inl (h 6 2))] (rpush r []) h' Q)) : MC l E M_RS_finishJob [.inr 0] h Q := by
  refine wp_aload_n d_RS_finishJob_0 rfl ?_
  refine wp_getR d_RS_finishJob_1 fl_RS_43 rfl rfl ?_
  refine wp_callV (as := []) (rest := []) (Q' := fun r h' => WP l E M_RS_finishJob 7 [(0, .inr 0)] (rpush r []) h' _) d_RS_finishJob_4 vb_RS_finishJob_185 ⟨gw_2_190, gw_2_191⟩ rfl rfl rfl rfl (Nat.le_of_ble_eq_true rfl) rfl (Nat.le_of_ble_eq_true rfl) ?_ (fun r h' z => z)
  show WP l E M_JB_kind 0 [(0, .inr 6)] [] h _
  refine wp_aload_n d_JB_kind_0 rfl ?_
  refine wp_getI d_JB_kind_1 fl_JB_18 rfl rfl ?_
  refine wp_ireturn d_JB_kind_4 rfl ?_
  show WP l E M_RS_finishJob 7 [(0, .inr 0)] [.inl (h 6 2)] h _
  refine wp_istore_n (ls' := [(0, .inr 0), (1, .inl (h 6 2))]) d_RS_finishJob_7 (by decide) rfl ?_
  refine wp_aload_n d_RS_finishJob_8 rfl ?_
  refine wp_getR d_RS_finishJob_9 fl_RS_43 rfl rfl ?_
  refine wp_callV (as := []) (rest := []) (Q' := fun r h' => WP l E M_RS_finishJob 15 [(0, .inr 0), (1, .inl (h 6 2))] (rpush r []) h' _) d_RS_finishJob_12 vb_RS_finishJob_167 ⟨gw_2_194, gw_2_195⟩ rfl rfl rfl rfl (Nat.le_of_ble_eq_true rfl) rfl (Nat.le_of_ble_eq_true rfl) ?_ (fun r h' z => z)
  show WP l E M_JB_end 0 [(0, .inr 6)] [] h _
  refine wp_aload_n d_JB_end_0 rfl ?_
  refine wp_iconst (v := nI 0) d_JB_end_1 c_iconst_0 ?_
  refine wp_callV (as := [.inl (nI 0)]) (rest := []) (Q' := fun r h' => WP l E M_JB_end 5 [(0, .inr 6)] (rpush r []) h' _) d_JB_end_2 vb_JB_end_28 ⟨gw_2_49, gw_2_50⟩ rfl rfl rfl rfl (Nat.le_of_ble_eq_true rfl) rfl (Nat.le_of_ble_eq_true rfl) ?_ (fun r h' z => z)
  show WP l E M_JB_begin 0 [(0, .inr 6), (1, .inl (nI 0))] [] h _
  refine wp_aload_n d_JB_begin_0 rfl ?_
  refine wp_iload_n d_JB_begin_1 rfl ?_
  refine wp_putI d_JB_begin_2 fm_JB_18 rfl rfl ?_
  refine wp_aload_n d_JB_begin_5 rfl ?_
  refine wp_iconst (v := nI 0) d_JB_begin_6 c_iconst_0 ?_
  refine wp_putI d_JB_begin_7 fm_JB_22 rfl rfl ?_
  refine wp_aload_n d_JB_begin_10 rfl ?_
  refine wp_iconst (v := nI 0) d_JB_begin_11 c_iconst_0 ?_
  refine wp_putI d_JB_begin_12 fm_JB_25 rfl rfl ?_
  refine wp_return d_JB_begin_15 rfl ?_
  show WP l E M_JB_end 5 [(0, .inr 6)] [] (hw (hw (hw h 6 2 (nI 0)) 6 3 (nI 0)) 6 4 (nI 0)) _
  refine wp_return d_JB_end_5 rfl ?_
  show WP l E M_RS_finishJob 15 [(0, .inr 0), (1, .inl (h 6 2))] [] (hw (hw (hw h 6 2 (nI 0)) 6 3 (nI 0)) 6 4 (nI 0)) _
  refine wp_iload_n d_RS_finishJob_15 rfl ?_
  refine wp_iconst (v := nI 2) d_RS_finishJob_16 c_iconst_2 ?_
  refine wp_ic_ne (tgt := 27) d_RS_finishJob_17 (by decide) (fun c1 => ?_) (fun c1 => ?_)
  · refine wp_iload_n d_RS_finishJob_27 rfl ?_
    refine wp_iconst (v := nI 3) d_RS_finishJob_28 c_iconst_3 ?_
    refine wp_ic_ne (tgt := 47) d_RS_finishJob_29 (by decide) (fun c2 => ?_) (fun c2 => ?_)
    · refine wp_aload_n d_RS_finishJob_47 rfl ?_
      refine wp_aload_n d_RS_finishJob_48 rfl ?_
      refine wp_getR d_RS_finishJob_49 fl_RS_36 rfl rfl ?_
      refine wp_callV (as := []) (rest := [.inr 0]) (Q' := fun r h' => WP l E M_RS_finishJob 55 [(0, .inr 0), (1, .inl (h 6 2))] (rpush r [.inr 0]) h' _) d_RS_finishJob_52 vb_RS_finishJob_147 ⟨gw_2_148, gw_2_149⟩ rfl rfl rfl rfl (Nat.le_of_ble_eq_true rfl) rfl (Nat.le_of_ble_eq_true rfl) ?_ (fun r h' z => z)
      show WP l E M_LR_numberBehind 0 [(0, .inr 5)] [] (hw (hw (hw h 6 2 (nI 0)) 6 3 (nI 0)) 6 4 (nI 0)) _
      refine wp_aload_n d_LR_numberBehind_0 rfl ?_
      refine wp_getI d_LR_numberBehind_1 fl_LR_35 rfl rfl ?_
      show WP l E M_LR_numberBehind 4 [(0, .inr 5)] [.inl (h 5 7)] (hw (hw (hw h 6 2 (nI 0)) 6 3 (nI 0)) 6 4 (nI 0)) _
      refine wp_ireturn d_LR_numberBehind_4 rfl ?_
      show WP l E M_RS_finishJob 55 [(0, .inr 0), (1, .inl (h 6 2))] [.inl (h 5 7), .inr 0] (hw (hw (hw h 6 2 (nI 0)) 6 3 (nI 0)) 6 4 (nI 0)) _
      refine wp_aload_n d_RS_finishJob_55 rfl ?_
      refine wp_getR d_RS_finishJob_56 fl_RS_36 rfl rfl ?_
      refine wp_callV (as := []) (rest := [.inl (h 5 7), .inr 0]) (Q' := fun r h' => WP l E M_RS_finishJob 62 [(0, .inr 0), (1, .inl (h 6 2))] (rpush r [.inl (h 5 7), .inr 0]) h' _) d_RS_finishJob_59 vb_RS_finishJob_150 ⟨gw_2_152, gw_2_153⟩ rfl rfl rfl rfl (Nat.le_of_ble_eq_true rfl) rfl (Nat.le_of_ble_eq_true rfl) ?_ (fun r h' z => z)
      show WP l E M_LR_placeBehind 0 [(0, .inr 5)] [] (hw (hw (hw h 6 2 (nI 0)) 6 3 (nI 0)) 6 4 (nI 0)) _
      refine wp_aload_n d_LR_placeBehind_0 rfl ?_
      refine wp_getI d_LR_placeBehind_1 fl_LR_31 rfl rfl ?_
      show WP l E M_LR_placeBehind 4 [(0, .inr 5)] [.inl (h 5 6)] (hw (hw (hw h 6 2 (nI 0)) 6 3 (nI 0)) 6 4 (nI 0)) _
      refine wp_aload_n d_LR_placeBehind_4 rfl ?_
      refine wp_getI d_LR_placeBehind_5 fl_LR_38 rfl rfl ?_
      show WP l E M_LR_placeBehind 8 [(0, .inr 5)] [.inl (h 5 8), .inl (h 5 6)] (hw (hw (hw h 6 2 (nI 0)) 6 3 (nI 0)) 6 4 (nI 0)) _
      refine wp_iadd d_LR_placeBehind_8 ?_
      refine wp_bipush (v := nI 24) d_LR_placeBehind_9 c_bipush_24 ?_
      refine wp_irem d_LR_placeBehind_11 (by decide +kernel) ?_
      refine wp_ireturn d_LR_placeBehind_12 rfl ?_
      show WP l E M_RS_finishJob 62 [(0, .inr 0), (1, .inl (h 6 2))] [.inl (irem ((h 5 6) + (h 5 8)) (nI 24)), .inl (h 5 7), .inr 0] (hw (hw (hw h 6 2 (nI 0)) 6 3 (nI 0)) 6 4 (nI 0)) _
      refine wp_callV (as := [.inl (h 5 7), .inl (irem ((h 5 6) + (h 5 8)) (nI 24))]) (rest := []) (Q' := fun r h' => WP l E M_RS_finishJob 65 [(0, .inr 0), (1, .inl (h 6 2))] (rpush r []) h' Q) d_RS_finishJob_62 vb_RS_finishJob_47 ⟨gw_1_146, sw_0⟩ rfl rfl rfl rfl (Nat.le_of_ble_eq_true rfl) rfl (Nat.le_of_ble_eq_true rfl) ?_ (fun r h' z => z)
      exact e1 c1 c2
    · refine wp_aload_n d_RS_finishJob_32 rfl ?_
      refine wp_getR d_RS_finishJob_33 fl_RS_23 rfl rfl ?_
      refine wp_callV (as := []) (rest := []) (Q' := fun r h' => WP l E M_RS_finishJob 39 [(0, .inr 0), (1, .inl (h 6 2))] (rpush r []) h' Q) d_RS_finishJob_36 vb_RS_finishJob_203 ⟨gw_1_149, gw_1_150⟩ rfl rfl rfl rfl (Nat.le_of_ble_eq_true rfl) rfl (Nat.le_of_ble_eq_true rfl) ?_ (fun r h' z => z)
      exact e2 c1 c2
  · refine wp_aload_n d_RS_finishJob_20 rfl ?_
    refine wp_callV (as := []) (rest := []) (Q' := fun r h' => WP l E M_RS_finishJob 24 [(0, .inr 0), (1, .inl (h 6 2))] (rpush r []) h' Q) d_RS_finishJob_21 vb_RS_finishJob_200 ⟨gw_2_200, sw_19⟩ rfl rfl rfl rfl (Nat.le_of_ble_eq_true rfl) rfl (Nat.le_of_ble_eq_true rfl) ?_ (fun r h' z => z)
    exact e3 c1
set_option maxRecDepth 100000 in
set_option maxHeartbeats 4000000 in
theorem k_RS_finishJob_65 {l : Launch} {E : xE} {x1 : Int32} {h : xh} {Q : Option Int32 → xh → Prop}
    (e1 : Q none h) : WP l E M_RS_finishJob 65 [(0, .inr 0), (1, .inl (x1))] [] h Q := by
  refine wp_return d_RS_finishJob_65 rfl ?_
  exact e1
set_option maxRecDepth 100000 in
set_option maxHeartbeats 4000000 in
theorem k_RS_finishJob_39 {l : Launch} {E : xE} {x1 : Int32} {h : xh} {Q : Option Int32 → xh → Prop}
    (e1 : Q none (hw h 0 10 (nI 0))) : WP l E M_RS_finishJob 39 [(0, .inr 0), (1, .inl (x1))] [] h Q := by
  refine wp_aload_n d_RS_finishJob_39 rfl ?_
  refine wp_iconst (v := nI 0) d_RS_finishJob_40 c_iconst_0 ?_
  refine wp_putI d_RS_finishJob_41 fm_RS_98 rfl rfl ?_
  refine wp_goto (tgt := 65) d_RS_finishJob_44 (by decide) ?_
  refine wp_return d_RS_finishJob_65 rfl ?_
  exact e1
set_option maxRecDepth 100000 in
set_option maxHeartbeats 4000000 in
theorem k_RS_finishJob_24 {l : Launch} {E : xE} {x1 : Int32} {h : xh} {Q : Option Int32 → xh → Prop}
    (e1 : Q none h) : WP l E M_RS_finishJob 24 [(0, .inr 0), (1, .inl (x1))] [] h Q := by
  refine wp_goto (tgt := 65) d_RS_finishJob_24 (by decide) ?_
  refine wp_return d_RS_finishJob_65 rfl ?_
  exact e1
set_option maxRecDepth 100000 in
set_option maxHeartbeats 4000000 in
theorem k_RS_finishCommit_0 {l : Launch} {E : xE} {h : xh} {Q : Option Int32 → xh → Prop}
    (e1 : WP l E M_RS_finishCommit 47 [(0, .inr 0), (1, .inl (nI 0))] [] (hw (hw (hw h 0 9 (irem ((h 0 9) + (h 4 2)) (nI 24))) 0 10 ((h 0 10) + (h 4 2))) 0 8 ((h 0 8) + (nI 1))) Q) : MC l E M_RS_finishCommit [.inr 0] h Q := by
  refine wp_aload_n d_RS_finishCommit_0 rfl ?_
  refine wp_aload_n d_RS_finishCommit_1 rfl ?_
  refine wp_getI d_RS_finishCommit_2 fl_RS_121 rfl rfl ?_
  refine wp_aload_n d_RS_finishCommit_5 rfl ?_
  refine wp_getR d_RS_finishCommit_6 fl_RS_29 rfl rfl ?_
  refine wp_callV (as := []) (rest := [.inl (h 0 9), .inr 0]) (Q' := fun r h' => WP l E M_RS_finishCommit 12 [(0, .inr 0)] (rpush r [.inl (h 0 9), .inr 0]) h' _) d_RS_finishCommit_9 vb_RS_finishCommit_101 ⟨gw_2_45, gw_2_46⟩ rfl rfl rfl rfl (Nat.le_of_ble_eq_true rfl) rfl (Nat.le_of_ble_eq_true rfl) ?_ (fun r h' z => z)
  show WP l E M_RW_length 0 [(0, .inr 4)] [] h _
  refine wp_aload_n d_RW_length_0 rfl ?_
  refine wp_getI d_RW_length_1 fl_RW_18 rfl rfl ?_
  refine wp_ireturn d_RW_length_4 rfl ?_
  show WP l E M_RS_finishCommit 12 [(0, .inr 0)] [.inl (h 4 2), .inl (h 0 9), .inr 0] h _
  refine wp_iadd d_RS_finishCommit_12 ?_
  refine wp_bipush (v := nI 24) d_RS_finishCommit_13 c_bipush_24 ?_
  refine wp_irem d_RS_finishCommit_15 (by decide +kernel) ?_
  refine wp_putI d_RS_finishCommit_16 fm_RS_121 rfl rfl ?_
  refine wp_aload_n d_RS_finishCommit_19 rfl ?_
  refine wp_dup d_RS_finishCommit_20 ?_
  refine wp_getI d_RS_finishCommit_21 fl_RS_98 rfl rfl ?_
  show WP l E M_RS_finishCommit 24 [(0, .inr 0)] [.inl (h 0 10), .inr 0] (hw h 0 9 (irem ((h 0 9) + (h 4 2)) (nI 24))) _
  refine wp_aload_n d_RS_finishCommit_24 rfl ?_
  refine wp_getR d_RS_finishCommit_25 fl_RS_29 rfl rfl ?_
  refine wp_callV (as := []) (rest := [.inl (h 0 10), .inr 0]) (Q' := fun r h' => WP l E M_RS_finishCommit 31 [(0, .inr 0)] (rpush r [.inl (h 0 10), .inr 0]) h' _) d_RS_finishCommit_28 vb_RS_finishCommit_101 ⟨gw_2_45, gw_2_46⟩ rfl rfl rfl rfl (Nat.le_of_ble_eq_true rfl) rfl (Nat.le_of_ble_eq_true rfl) ?_ (fun r h' z => z)
  show WP l E M_RW_length 0 [(0, .inr 4)] [] (hw h 0 9 (irem ((h 0 9) + (h 4 2)) (nI 24))) _
  refine wp_aload_n d_RW_length_0 rfl ?_
  refine wp_getI d_RW_length_1 fl_RW_18 rfl rfl ?_
  show WP l E M_RW_length 4 [(0, .inr 4)] [.inl (h 4 2)] (hw h 0 9 (irem ((h 0 9) + (h 4 2)) (nI 24))) _
  refine wp_ireturn d_RW_length_4 rfl ?_
  show WP l E M_RS_finishCommit 31 [(0, .inr 0)] [.inl (h 4 2), .inl (h 0 10), .inr 0] (hw h 0 9 (irem ((h 0 9) + (h 4 2)) (nI 24))) _
  refine wp_iadd d_RS_finishCommit_31 ?_
  refine wp_putI d_RS_finishCommit_32 fm_RS_98 rfl rfl ?_
  refine wp_aload_n d_RS_finishCommit_35 rfl ?_
  refine wp_dup d_RS_finishCommit_36 ?_
  refine wp_getI d_RS_finishCommit_37 fl_RS_91 rfl rfl ?_
  show WP l E M_RS_finishCommit 40 [(0, .inr 0)] [.inl (h 0 8), .inr 0] (hw (hw h 0 9 (irem ((h 0 9) + (h 4 2)) (nI 24))) 0 10 ((h 0 10) + (h 4 2))) _
  refine wp_iconst (v := nI 1) d_RS_finishCommit_40 c_iconst_1 ?_
  refine wp_iadd d_RS_finishCommit_41 ?_
  refine wp_putI d_RS_finishCommit_42 fm_RS_91 rfl rfl ?_
  refine wp_iconst (v := nI 0) d_RS_finishCommit_45 c_iconst_0 ?_
  refine wp_istore_n (ls' := [(0, .inr 0), (1, .inl (nI 0))]) d_RS_finishCommit_46 (by decide) rfl ?_
  exact e1
set_option maxRecDepth 100000 in
set_option maxHeartbeats 4000000 in
theorem k_RS_finishCommit_47 {l : Launch} {E : xE} {x1 : Int32} {h : xh} {Q : Option Int32 → xh → Prop}
    (e1 : (nI 16) ≤ x1 → MC l E M_IM_clear [.inr 2] h (fun r h' => WP l E M_RS_finishCommit 108 [(0, .inr 0), (1, .inl (x1))] (rpush r []) h' Q))
    (o1 : ¬ (nI 16) ≤ x1 → vp_in (x1) 16)
    (o2 : ¬ (nI 16) ≤ x1 → h 11 ((x1).toNatClampNeg) = 0 ∨ h 11 ((x1).toNatClampNeg) = 1)
    (e2 : ¬ (nI 16) ≤ x1 → (h 11 ((x1).toNatClampNeg)) = 0 → ((ushr (h 0 7) (x1)) &&& (nI 1)) ≠ (nI 1) → WP l E M_RS_finishCommit 47 [(0, .inr 0), (1, .inl (x1 + nI 1))] [] h Q)
    (e3 : ¬ (nI 16) ≤ x1 → (h 11 ((x1).toNatClampNeg)) = 0 → ((ushr (h 0 7) (x1)) &&& (nI 1)) = (nI 1) → MC l E M_IM_drop [.inr 3, .inl (x1)] h (fun r h' => WP l E M_RS_finishCommit 95 [(0, .inr 0), (1, .inl (x1))] (rpush r []) h' Q))
    (e4 : ¬ (nI 16) ≤ x1 → ¬ (h 11 ((x1).toNatClampNeg)) = 0 → MC l E M_IM_copyFrom [.inr 3, .inr 2, .inl (x1)] h (fun r h' => WP l E M_RS_finishCommit 76 [(0, .inr 0), (1, .inl (x1))] (rpush r []) h' Q)) : WP l E M_RS_finishCommit 47 [(0, .inr 0), (1, .inl (x1))] [] h Q := by
  refine wp_iload_n d_RS_finishCommit_47 rfl ?_
  refine wp_bipush (v := nI 16) d_RS_finishCommit_48 c_bipush_16 ?_
  refine wp_ic_ge (tgt := 101) d_RS_finishCommit_50 (by decide) (fun c1 => ?_) (fun c1 => ?_)
  · refine wp_aload_n d_RS_finishCommit_101 rfl ?_
    refine wp_getR d_RS_finishCommit_102 fl_RS_19 rfl rfl ?_
    refine wp_callV (as := []) (rest := []) (Q' := fun r h' => WP l E M_RS_finishCommit 108 [(0, .inr 0), (1, .inl (x1))] (rpush r []) h' Q) d_RS_finishCommit_105 vb_RS_finishCommit_203 ⟨gw_1_149, gw_1_150⟩ rfl rfl rfl rfl (Nat.le_of_ble_eq_true rfl) rfl (Nat.le_of_ble_eq_true rfl) ?_ (fun r h' z => z)
    exact e1 c1
  · refine wp_aload_n d_RS_finishCommit_53 rfl ?_
    refine wp_getR d_RS_finishCommit_54 fl_RS_19 rfl rfl ?_
    refine wp_iload_n d_RS_finishCommit_57 rfl ?_
    refine wp_callV (as := [.inl (x1)]) (rest := []) (Q' := fun r h' => WP l E M_RS_finishCommit 61 [(0, .inr 0), (1, .inl (x1))] (rpush r []) h' _) d_RS_finishCommit_58 vb_RS_finishCommit_59 ⟨gw_1_205, gw_1_206⟩ rfl rfl rfl rfl (Nat.le_of_ble_eq_true rfl) rfl (Nat.le_of_ble_eq_true rfl) ?_ (fun r h' z => z)
    show WP l E M_IM_holds 0 [(0, .inr 2), (1, .inl (x1))] [] h _
    refine wp_aload_n d_IM_holds_0 rfl ?_
    refine wp_getR d_IM_holds_1 fl_IM_9 rfl rfl ?_
    refine wp_iload_n d_IM_holds_4 rfl ?_
    refine wp_baload d_IM_holds_5 rfl (o1 c1) ?_
    refine wp_zreturn d_IM_holds_6 rfl (o2 c1) ?_
    show WP l E M_RS_finishCommit 61 [(0, .inr 0), (1, .inl (x1))] [.inl (h 11 ((x1).toNatClampNeg))] h _
    refine wp_if_eq (tgt := 79) d_RS_finishCommit_61 (by decide) (fun c2 => ?_) (fun c2 => ?_)
    · refine wp_aload_n d_RS_finishCommit_79 rfl ?_
      refine wp_iload_n d_RS_finishCommit_80 rfl ?_
      refine wp_callV (as := [.inl (x1)]) (rest := []) (Q' := fun r h' => WP l E M_RS_finishCommit 84 [(0, .inr 0), (1, .inl (x1))] (rpush r []) h' _) d_RS_finishCommit_81 vb_RS_finishCommit_188 ⟨gw_2_210, sw_20⟩ rfl rfl rfl rfl (Nat.le_of_ble_eq_true rfl) rfl (Nat.le_of_ble_eq_true rfl) ?_ (fun r h' z => z)
      show WP l E M_RS_isRevoked 0 [(0, .inr 0), (1, .inl (x1))] [] h _
      refine wp_aload_n d_RS_isRevoked_0 rfl ?_
      refine wp_getI d_RS_isRevoked_1 fl_RS_81 rfl rfl ?_
      refine wp_iload_n d_RS_isRevoked_4 rfl ?_
      refine wp_iushr d_RS_isRevoked_5 ?_
      refine wp_iconst (v := nI 1) d_RS_isRevoked_6 c_iconst_1 ?_
      refine wp_iand d_RS_isRevoked_7 ?_
      refine wp_iconst (v := nI 1) d_RS_isRevoked_8 c_iconst_1 ?_
      refine wp_ic_ne (tgt := 16) d_RS_isRevoked_9 (by decide) (fun c3 => ?_) (fun c3 => ?_)
      · refine wp_iconst (v := nI 0) d_RS_isRevoked_16 c_iconst_0 ?_
        refine wp_zreturn d_RS_isRevoked_17 rfl (by decide) ?_
        show WP l E M_RS_finishCommit 84 [(0, .inr 0), (1, .inl (x1))] [.inl (nI 0)] h _
        refine wp_if_eq (tgt := 95) d_RS_finishCommit_84 (by decide) (fun _ => ?_) (fun z => absurd z (by decide +kernel))
        refine wp_iinc (v := x1 + nI 1) (ls' := [(0, .inr 0), (1, .inl (x1 + nI 1))]) d_RS_finishCommit_95 rfl (c_inc_1 _) (by decide) rfl ?_
        refine wp_goto (tgt := 47) d_RS_finishCommit_98 (by decide) ?_
        exact e2 c1 c2 c3
      · refine wp_iconst (v := nI 1) d_RS_isRevoked_12 c_iconst_1 ?_
        refine wp_goto (tgt := 17) d_RS_isRevoked_13 (by decide) ?_
        refine wp_zreturn d_RS_isRevoked_17 rfl (by decide) ?_
        show WP l E M_RS_finishCommit 84 [(0, .inr 0), (1, .inl (x1))] [.inl (nI 1)] h _
        refine wp_if_eq (tgt := 95) d_RS_finishCommit_84 (by decide) (fun z => absurd z (by decide +kernel)) (fun _ => ?_)
        refine wp_aload_n d_RS_finishCommit_87 rfl ?_
        refine wp_getR d_RS_finishCommit_88 fl_RS_23 rfl rfl ?_
        refine wp_iload_n d_RS_finishCommit_91 rfl ?_
        refine wp_callV (as := [.inl (x1)]) (rest := []) (Q' := fun r h' => WP l E M_RS_finishCommit 95 [(0, .inr 0), (1, .inl (x1))] (rpush r []) h' Q) d_RS_finishCommit_92 vb_RS_finishCommit_78 ⟨gw_2_5, gw_2_6⟩ rfl rfl rfl rfl (Nat.le_of_ble_eq_true rfl) rfl (Nat.le_of_ble_eq_true rfl) ?_ (fun r h' z => z)
        exact e3 c1 c2 c3
    · refine wp_aload_n d_RS_finishCommit_64 rfl ?_
      refine wp_getR d_RS_finishCommit_65 fl_RS_23 rfl rfl ?_
      refine wp_aload_n d_RS_finishCommit_68 rfl ?_
      refine wp_getR d_RS_finishCommit_69 fl_RS_19 rfl rfl ?_
      refine wp_iload_n d_RS_finishCommit_72 rfl ?_
      refine wp_callV (as := [.inr 2, .inl (x1)]) (rest := []) (Q' := fun r h' => WP l E M_RS_finishCommit 76 [(0, .inr 0), (1, .inl (x1))] (rpush r []) h' Q) d_RS_finishCommit_73 vb_RS_finishCommit_206 ⟨gw_2_203, gw_2_204⟩ rfl rfl rfl rfl (Nat.le_of_ble_eq_true rfl) rfl (Nat.le_of_ble_eq_true rfl) ?_ (fun r h' z => z)
      exact e4 c1 c2
set_option maxRecDepth 100000 in
set_option maxHeartbeats 4000000 in
theorem k_RS_finishCommit_108 {l : Launch} {E : xE} {x1 : Int32} {h : xh} {Q : Option Int32 → xh → Prop}
    (e1 : Q none (hw h 0 7 (nI 0))) : WP l E M_RS_finishCommit 108 [(0, .inr 0), (1, .inl (x1))] [] h Q := by
  refine wp_aload_n d_RS_finishCommit_108 rfl ?_
  refine wp_iconst (v := nI 0) d_RS_finishCommit_109 c_iconst_0 ?_
  refine wp_putI d_RS_finishCommit_110 fm_RS_81 rfl rfl ?_
  refine wp_return d_RS_finishCommit_113 rfl ?_
  exact e1
set_option maxRecDepth 100000 in
set_option maxHeartbeats 4000000 in
theorem k_RS_finishCommit_95 {l : Launch} {E : xE} {x1 : Int32} {h : xh} {Q : Option Int32 → xh → Prop}
    (e1 : WP l E M_RS_finishCommit 47 [(0, .inr 0), (1, .inl (x1 + nI 1))] [] h Q) : WP l E M_RS_finishCommit 95 [(0, .inr 0), (1, .inl (x1))] [] h Q := by
  refine wp_iinc (v := x1 + nI 1) (ls' := [(0, .inr 0), (1, .inl (x1 + nI 1))]) d_RS_finishCommit_95 rfl (c_inc_1 _) (by decide) rfl ?_
  refine wp_goto (tgt := 47) d_RS_finishCommit_98 (by decide) ?_
  exact e1
set_option maxRecDepth 100000 in
set_option maxHeartbeats 4000000 in
theorem k_RS_finishCommit_76 {l : Launch} {E : xE} {x1 : Int32} {h : xh} {Q : Option Int32 → xh → Prop}
    (e1 : WP l E M_RS_finishCommit 47 [(0, .inr 0), (1, .inl (x1 + nI 1))] [] h Q) : WP l E M_RS_finishCommit 76 [(0, .inr 0), (1, .inl (x1))] [] h Q := by
  refine wp_goto (tgt := 95) d_RS_finishCommit_76 (by decide) ?_
  refine wp_iinc (v := x1 + nI 1) (ls' := [(0, .inr 0), (1, .inl (x1 + nI 1))]) d_RS_finishCommit_95 rfl (c_inc_1 _) (by decide) rfl ?_
  refine wp_goto (tgt := 47) d_RS_finishCommit_98 (by decide) ?_
  exact e1
set_option maxRecDepth 100000 in
set_option maxHeartbeats 4000000 in
theorem k_RS_comeUp_0 {l : Launch} {E : xE} {x1 x2 : Int32} {h : xh} {Q : Option Int32 → xh → Prop}
    (e1 : MC l E M_IM_clear [.inr 2] (hw (hw (hw (hw h 0 6 (nI 1)) 0 8 (x1)) 0 9 (x2)) 0 10 (nI 0)) (fun r h' => WP l E M_RS_comeUp 27 [(0, .inr 0), (1, .inl (x1)), (2, .inl (x2))] (rpush r []) h' Q)) : MC l E M_RS_comeUp [.inr 0, .inl (x1), .inl (x2)] h Q := by
  refine wp_aload_n d_RS_comeUp_0 rfl ?_
  refine wp_iconst (v := nI 1) d_RS_comeUp_1 c_iconst_1 ?_
  refine wp_putZ d_RS_comeUp_2 fm_RS_127 rfl rfl (by decide) ?_
  refine wp_aload_n d_RS_comeUp_5 rfl ?_
  refine wp_iload_n d_RS_comeUp_6 rfl ?_
  refine wp_putI d_RS_comeUp_7 fm_RS_91 rfl rfl ?_
  refine wp_aload_n d_RS_comeUp_10 rfl ?_
  refine wp_iload_n d_RS_comeUp_11 rfl ?_
  refine wp_putI d_RS_comeUp_12 fm_RS_121 rfl rfl ?_
  refine wp_aload_n d_RS_comeUp_15 rfl ?_
  refine wp_iconst (v := nI 0) d_RS_comeUp_16 c_iconst_0 ?_
  refine wp_putI d_RS_comeUp_17 fm_RS_98 rfl rfl ?_
  refine wp_aload_n d_RS_comeUp_20 rfl ?_
  refine wp_getR d_RS_comeUp_21 fl_RS_19 rfl rfl ?_
  refine wp_callV (as := []) (rest := []) (Q' := fun r h' => WP l E M_RS_comeUp 27 [(0, .inr 0), (1, .inl (x1)), (2, .inl (x2))] (rpush r []) h' Q) d_RS_comeUp_24 vb_RS_comeUp_203 ⟨gw_1_149, gw_1_150⟩ rfl rfl rfl rfl (Nat.le_of_ble_eq_true rfl) rfl (Nat.le_of_ble_eq_true rfl) ?_ (fun r h' z => z)
  exact e1
set_option maxRecDepth 100000 in
set_option maxHeartbeats 4000000 in
theorem k_RS_comeUp_27 {l : Launch} {E : xE} {x1 x2 : Int32} {h : xh} {Q : Option Int32 → xh → Prop}
    (e1 : MC l E M_IM_clear [.inr 3] (hw h 0 7 (nI 0)) (fun r h' => WP l E M_RS_comeUp 39 [(0, .inr 0), (1, .inl (x1)), (2, .inl (x2))] (rpush r []) h' Q)) : WP l E M_RS_comeUp 27 [(0, .inr 0), (1, .inl (x1)), (2, .inl (x2))] [] h Q := by
  refine wp_aload_n d_RS_comeUp_27 rfl ?_
  refine wp_iconst (v := nI 0) d_RS_comeUp_28 c_iconst_0 ?_
  refine wp_putI d_RS_comeUp_29 fm_RS_81 rfl rfl ?_
  refine wp_aload_n d_RS_comeUp_32 rfl ?_
  refine wp_getR d_RS_comeUp_33 fl_RS_23 rfl rfl ?_
  refine wp_callV (as := []) (rest := []) (Q' := fun r h' => WP l E M_RS_comeUp 39 [(0, .inr 0), (1, .inl (x1)), (2, .inl (x2))] (rpush r []) h' Q) d_RS_comeUp_36 vb_RS_comeUp_203 ⟨gw_1_149, gw_1_150⟩ rfl rfl rfl rfl (Nat.le_of_ble_eq_true rfl) rfl (Nat.le_of_ble_eq_true rfl) ?_ (fun r h' z => z)
  exact e1
set_option maxRecDepth 100000 in
set_option maxHeartbeats 4000000 in
theorem k_RS_comeUp_39 {l : Launch} {E : xE} {x1 x2 : Int32} {h : xh} {Q : Option Int32 → xh → Prop}
    (e1 : Q none h) : WP l E M_RS_comeUp 39 [(0, .inr 0), (1, .inl (x1)), (2, .inl (x2))] [] h Q := by
  refine wp_return d_RS_comeUp_39 rfl ?_
  exact e1
