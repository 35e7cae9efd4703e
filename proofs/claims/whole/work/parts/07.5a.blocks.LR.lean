set_option maxRecDepth 100000 in
set_option maxHeartbeats 4000000 in
theorem k_LR_word_0 {l : Launch} {E : xE} {x1 x2 : Int32} {h : xh} {Q : Option Int32 → xh → Prop}
    (o1 : x2 ≠ 0 → vp_in (x1) 24)
    (o2 : x2 ≠ 0 → vp_in (((h 18 ((x1).toNatClampNeg)) * (nI 4)) + (x2)) 96)
    (e1 : x2 ≠ 0 → Q (some (h 17 ((((h 18 ((x1).toNatClampNeg)) * (nI 4)) + (x2)).toNatClampNeg))) h)
    (o3 : x2 = 0 → vp_in (x1) 24)
    (o4 : x2 = 0 → (h 20 ((x1).toNatClampNeg)) = 0 → vp_in (x1) 24)
    (o5 : x2 = 0 → (h 20 ((x1).toNatClampNeg)) = 0 → vp_in (((h 18 ((x1).toNatClampNeg)) * (nI 4)) + (x2)) 96)
    (e2 : x2 = 0 → (h 20 ((x1).toNatClampNeg)) = 0 → Q (some (h 17 ((((h 18 ((x1).toNatClampNeg)) * (nI 4)) + (x2)).toNatClampNeg))) h)
    (e3 : x2 = 0 → ¬ (h 20 ((x1).toNatClampNeg)) = 0 → Q (some (nI 77001)) h) : MC l E M_LR_word [.inr 5, .inl (x1), .inl (x2)] h Q := by
  refine wp_iload_n d_LR_word_0 rfl ?_
  refine wp_if_ne (tgt := 18) d_LR_word_1 (by decide) (fun c1 => ?_) (fun c1 => ?_)
  · refine wp_aload_n d_LR_word_18 rfl ?_
    refine wp_aload_n d_LR_word_19 rfl ?_
    refine wp_getR d_LR_word_20 fl_LR_15 rfl rfl ?_
    refine wp_iload_n d_LR_word_23 rfl ?_
    refine wp_iaload d_LR_word_24 rfl (o1 c1) ?_
    refine wp_iload_n d_LR_word_25 rfl ?_
    refine wp_callV (as := [.inl (h 18 ((x1).toNatClampNeg)), .inl (x2)]) (rest := []) (Q' := fun r h' => WP l E M_LR_word 29 [(0, .inr 5), (1, .inl (x1)), (2, .inl (x2))] (rpush r []) h' _) d_LR_word_26 vb_LR_word_54 ⟨gw_2_116, sw_13⟩ rfl rfl rfl rfl (Nat.le_of_ble_eq_true rfl) rfl (Nat.le_of_ble_eq_true rfl) ?_ (fun r h' z => z)
    show WP l E M_LR_wordAt 0 [(0, .inr 5), (1, .inl (h 18 ((x1).toNatClampNeg))), (2, .inl (x2))] [] h _
    refine wp_aload_n d_LR_wordAt_0 rfl ?_
    refine wp_getR d_LR_wordAt_1 fl_LR_9 rfl rfl ?_
    refine wp_iload_n d_LR_wordAt_4 rfl ?_
    refine wp_iconst (v := nI 4) d_LR_wordAt_5 c_iconst_4 ?_
    refine wp_imul d_LR_wordAt_6 ?_
    refine wp_iload_n d_LR_wordAt_7 rfl ?_
    refine wp_iadd d_LR_wordAt_8 ?_
    refine wp_iaload d_LR_wordAt_9 rfl (o2 c1) ?_
    refine wp_ireturn d_LR_wordAt_10 rfl ?_
    show WP l E M_LR_word 29 [(0, .inr 5), (1, .inl (x1)), (2, .inl (x2))] [.inl (h 17 ((((h 18 ((x1).toNatClampNeg)) * (nI 4)) + (x2)).toNatClampNeg))] h _
    refine wp_ireturn d_LR_word_29 rfl ?_
    exact e1 c1
  · refine wp_aload_n d_LR_word_4 rfl ?_
    refine wp_getR d_LR_word_5 fl_LR_21 rfl rfl ?_
    refine wp_iload_n d_LR_word_8 rfl ?_
    refine wp_baload d_LR_word_9 rfl (o3 c1) ?_
    refine wp_if_eq (tgt := 18) d_LR_word_10 (by decide) (fun c2 => ?_) (fun c2 => ?_)
    · refine wp_aload_n d_LR_word_18 rfl ?_
      refine wp_aload_n d_LR_word_19 rfl ?_
      refine wp_getR d_LR_word_20 fl_LR_15 rfl rfl ?_
      refine wp_iload_n d_LR_word_23 rfl ?_
      refine wp_iaload d_LR_word_24 rfl (o4 c1 c2) ?_
      refine wp_iload_n d_LR_word_25 rfl ?_
      refine wp_callV (as := [.inl (h 18 ((x1).toNatClampNeg)), .inl (x2)]) (rest := []) (Q' := fun r h' => WP l E M_LR_word 29 [(0, .inr 5), (1, .inl (x1)), (2, .inl (x2))] (rpush r []) h' _) d_LR_word_26 vb_LR_word_54 ⟨gw_2_116, sw_13⟩ rfl rfl rfl rfl (Nat.le_of_ble_eq_true rfl) rfl (Nat.le_of_ble_eq_true rfl) ?_ (fun r h' z => z)
      show WP l E M_LR_wordAt 0 [(0, .inr 5), (1, .inl (h 18 ((x1).toNatClampNeg))), (2, .inl (x2))] [] h _
      refine wp_aload_n d_LR_wordAt_0 rfl ?_
      refine wp_getR d_LR_wordAt_1 fl_LR_9 rfl rfl ?_
      refine wp_iload_n d_LR_wordAt_4 rfl ?_
      refine wp_iconst (v := nI 4) d_LR_wordAt_5 c_iconst_4 ?_
      refine wp_imul d_LR_wordAt_6 ?_
      refine wp_iload_n d_LR_wordAt_7 rfl ?_
      refine wp_iadd d_LR_wordAt_8 ?_
      refine wp_iaload d_LR_wordAt_9 rfl (o5 c1 c2) ?_
      refine wp_ireturn d_LR_wordAt_10 rfl ?_
      show WP l E M_LR_word 29 [(0, .inr 5), (1, .inl (x1)), (2, .inl (x2))] [.inl (h 17 ((((h 18 ((x1).toNatClampNeg)) * (nI 4)) + (x2)).toNatClampNeg))] h _
      refine wp_ireturn d_LR_word_29 rfl ?_
      exact e2 c1 c2
    · refine wp_ldcN d_LR_word_13 gw_2_93 c_lit_77001 ?_
      refine wp_goto (tgt := 29) d_LR_word_15 (by decide) ?_
      refine wp_ireturn d_LR_word_29 rfl ?_
      exact e3 c1 c2
set_option maxRecDepth 100000 in
set_option maxHeartbeats 4000000 in
theorem k_LR_isToReplay_0 {l : Launch} {E : xE} {x1 : Int32} {h : xh} {Q : Option Int32 → xh → Prop}
    (o1 : vp_in (x1) 24)
    (o2 : vp_in (h 19 ((x1).toNatClampNeg)) 16)
    (o3 : vp_in (x1) 24)
    (e1 : (h 21 ((x1).toNatClampNeg)) < (h 22 ((h 19 ((x1).toNatClampNeg)).toNatClampNeg)) → Q (some (nI 0)) h)
    (e2 : ¬ (h 21 ((x1).toNatClampNeg)) < (h 22 ((h 19 ((x1).toNatClampNeg)).toNatClampNeg)) → Q (some (nI 1)) h) : MC l E M_LR_isToReplay [.inr 5, .inl (x1)] h Q := by
  refine wp_aload_n d_LR_isToReplay_0 rfl ?_
  refine wp_getR d_LR_isToReplay_1 fl_LR_28 rfl rfl ?_
  refine wp_aload_n d_LR_isToReplay_4 rfl ?_
  refine wp_getR d_LR_isToReplay_5 fl_LR_18 rfl rfl ?_
  refine wp_iload_n d_LR_isToReplay_8 rfl ?_
  refine wp_iaload d_LR_isToReplay_9 rfl o1 ?_
  refine wp_iaload d_LR_isToReplay_10 rfl o2 ?_
  refine wp_aload_n d_LR_isToReplay_11 rfl ?_
  refine wp_getR d_LR_isToReplay_12 fl_LR_25 rfl rfl ?_
  refine wp_iload_n d_LR_isToReplay_15 rfl ?_
  refine wp_iaload d_LR_isToReplay_16 rfl o3 ?_
  refine wp_ic_gt (tgt := 24) d_LR_isToReplay_17 (by decide) (fun c1 => ?_) (fun c1 => ?_)
  · refine wp_iconst (v := nI 0) d_LR_isToReplay_24 c_iconst_0 ?_
    refine wp_zreturn d_LR_isToReplay_25 rfl (by decide) ?_
    exact e1 c1
  · refine wp_iconst (v := nI 1) d_LR_isToReplay_20 c_iconst_1 ?_
    refine wp_goto (tgt := 25) d_LR_isToReplay_21 (by decide) ?_
    refine wp_zreturn d_LR_isToReplay_25 rfl (by decide) ?_
    exact e2 c1
set_option maxRecDepth 100000 in
set_option maxHeartbeats 4000000 in
theorem k_LR_scan_0 {l : Launch} {E : xE} {h : xh} {Q : Option Int32 → xh → Prop}
    (e1 : MC l E M_LR_takeHead [.inr 5, .inr 1] h (fun r h' => WP l E M_LR_scan 5 [(0, .inr 5), (1, .inr 1)] (rpush r []) h' Q)) : MC l E M_LR_scan [.inr 5, .inr 1] h Q := by
  refine wp_aload_n d_LR_scan_0 rfl ?_
  refine wp_aload_n d_LR_scan_1 rfl ?_
  refine wp_callV (as := [.inr 1]) (rest := []) (Q' := fun r h' => WP l E M_LR_scan 5 [(0, .inr 5), (1, .inr 1)] (rpush r []) h' Q) d_LR_scan_2 vb_LR_scan_58 ⟨gw_2_90, sw_8⟩ rfl rfl rfl rfl (Nat.le_of_ble_eq_true rfl) rfl (Nat.le_of_ble_eq_true rfl) ?_ (fun r h' z => z)
  exact e1
set_option maxRecDepth 100000 in
set_option maxHeartbeats 4000000 in
theorem k_LR_scan_5 {l : Launch} {E : xE} {h : xh} {Q : Option Int32 → xh → Prop}
    (e1 : MC l E M_LR_takeLog [.inr 5, .inr 1] h (fun r h' => WP l E M_LR_scan 10 [(0, .inr 5), (1, .inr 1)] (rpush r []) h' Q)) : WP l E M_LR_scan 5 [(0, .inr 5), (1, .inr 1)] [] h Q := by
  refine wp_aload_n d_LR_scan_5 rfl ?_
  refine wp_aload_n d_LR_scan_6 rfl ?_
  refine wp_callV (as := [.inr 1]) (rest := []) (Q' := fun r h' => WP l E M_LR_scan 10 [(0, .inr 5), (1, .inr 1)] (rpush r []) h' Q) d_LR_scan_7 vb_LR_scan_62 ⟨gw_2_96, sw_9⟩ rfl rfl rfl rfl (Nat.le_of_ble_eq_true rfl) rfl (Nat.le_of_ble_eq_true rfl) ?_ (fun r h' z => z)
  exact e1
set_option maxRecDepth 100000 in
set_option maxHeartbeats 4000000 in
theorem k_LR_scan_10 {l : Launch} {E : xE} {h : xh} {Q : Option Int32 → xh → Prop}
    (e1 : MC l E M_JA_fill [.inr 22, .inl ((-1))] h (fun r h' => WP l E M_LR_scan 18 [(0, .inr 5), (1, .inr 1)] (rpush r []) h' Q)) : WP l E M_LR_scan 10 [(0, .inr 5), (1, .inr 1)] [] h Q := by
  refine wp_aload_n d_LR_scan_10 rfl ?_
  refine wp_getR d_LR_scan_11 fl_LR_28 rfl rfl ?_
  refine wp_iconst (v := (-1)) d_LR_scan_14 c_iconst_m1 ?_
  refine wp_callS (as := [.inr 22, .inl ((-1))]) (rest := []) (Q' := fun r h' => WP l E M_LR_scan 18 [(0, .inr 5), (1, .inr 1)] (rpush r []) h' Q) d_LR_scan_15 vb_LR_scan_65 gw_2_100 rfl (Nat.le_of_ble_eq_true rfl) rfl (Nat.le_of_ble_eq_true rfl) ?_ (fun r h' z => z)
  exact e1
set_option maxRecDepth 100000 in
set_option maxHeartbeats 4000000 in
theorem k_LR_scan_18 {l : Launch} {E : xE} {h : xh} {Q : Option Int32 → xh → Prop}
    (e1 : WP l E M_LR_scan 30 [(0, .inr 5), (1, .inr 1), (2, .inl (nI 0))] [] (hw (hw h 5 8 (nI 0)) 5 9 (nI 0)) Q) : WP l E M_LR_scan 18 [(0, .inr 5), (1, .inr 1)] [] h Q := by
  refine wp_aload_n d_LR_scan_18 rfl ?_
  refine wp_iconst (v := nI 0) d_LR_scan_19 c_iconst_0 ?_
  refine wp_putI d_LR_scan_20 fm_LR_38 rfl rfl ?_
  refine wp_aload_n d_LR_scan_23 rfl ?_
  refine wp_iconst (v := nI 0) d_LR_scan_24 c_iconst_0 ?_
  refine wp_putI d_LR_scan_25 fm_LR_41 rfl rfl ?_
  refine wp_iconst (v := nI 0) d_LR_scan_28 c_iconst_0 ?_
  refine wp_istore_n (ls' := [(0, .inr 5), (1, .inr 1), (2, .inl (nI 0))]) d_LR_scan_29 (by decide) rfl ?_
  exact e1
set_option maxRecDepth 100000 in
set_option maxHeartbeats 4000000 in
theorem k_LR_scan_30 {l : Launch} {E : xE} {x2 : Int32} {h : xh} {Q : Option Int32 → xh → Prop}
    (e1 : (nI 24) ≤ x2 → Q none h)
    (e2 : ¬ (nI 24) ≤ x2 → MC l E M_LR_takeTransaction [.inr 5, .inl (x2)] h (fun r h' => WP l E M_LR_scan 41 [(0, .inr 5), (1, .inr 1), (2, .inl (x2))] (rpush r []) h' Q)) : WP l E M_LR_scan 30 [(0, .inr 5), (1, .inr 1), (2, .inl (x2))] [] h Q := by
  refine wp_iload_n d_LR_scan_30 rfl ?_
  refine wp_bipush (v := nI 24) d_LR_scan_31 c_bipush_24 ?_
  refine wp_ic_ge (tgt := 53) d_LR_scan_33 (by decide) (fun c1 => ?_) (fun c1 => ?_)
  · refine wp_return d_LR_scan_53 rfl ?_
    exact e1 c1
  · refine wp_aload_n d_LR_scan_36 rfl ?_
    refine wp_iload_n d_LR_scan_37 rfl ?_
    refine wp_callV (as := [.inl (x2)]) (rest := []) (Q' := fun r h' => WP l E M_LR_scan 41 [(0, .inr 5), (1, .inr 1), (2, .inl (x2))] (rpush r []) h' Q) d_LR_scan_38 vb_LR_scan_71 ⟨gw_2_104, sw_10⟩ rfl rfl rfl rfl (Nat.le_of_ble_eq_true rfl) rfl (Nat.le_of_ble_eq_true rfl) ?_ (fun r h' z => z)
    exact e2 c1
set_option maxRecDepth 100000 in
set_option maxHeartbeats 4000000 in
theorem k_LR_scan_41 {l : Launch} {E : xE} {v0 x2 : Int32} {h : xh} {Q : Option Int32 → xh → Prop}
    (e1 : v0 ≠ 0 → WP l E M_LR_scan 30 [(0, .inr 5), (1, .inr 1), (2, .inl (x2 + nI 1))] [] h Q)
    (e2 : v0 = 0 → Q none h) : WP l E M_LR_scan 41 [(0, .inr 5), (1, .inr 1), (2, .inl (x2))] [.inl (v0)] h Q := by
  refine wp_if_ne (tgt := 47) d_LR_scan_41 (by decide) (fun c1 => ?_) (fun c1 => ?_)
  · refine wp_iinc (v := x2 + nI 1) (ls' := [(0, .inr 5), (1, .inr 1), (2, .inl (x2 + nI 1))]) d_LR_scan_47 rfl (c_inc_1 _) (by decide) rfl ?_
    refine wp_goto (tgt := 30) d_LR_scan_50 (by decide) ?_
    exact e1 c1
  · refine wp_goto (tgt := 53) d_LR_scan_44 (by decide) ?_
    refine wp_return d_LR_scan_53 rfl ?_
    exact e2 c1
set_option maxRecDepth 100000 in
set_option maxHeartbeats 4000000 in
theorem k_LR_takeHead_0 {l : Launch} {E : xE} {h : xh} {Q : Option Int32 → xh → Prop}
    (e1 : MC l E M_DV_newestWord [.inr 1, .inl (nI 16), .inl (nI 2)] h (fun r h' => WP l E M_LR_takeHead 8 [(0, .inr 5), (1, .inr 1)] (rpush r [.inr 5]) h' Q)) : MC l E M_LR_takeHead [.inr 5, .inr 1] h Q := by
  refine wp_aload_n d_LR_takeHead_0 rfl ?_
  refine wp_aload_n d_LR_takeHead_1 rfl ?_
  refine wp_bipush (v := nI 16) d_LR_takeHead_2 c_bipush_16 ?_
  refine wp_iconst (v := nI 2) d_LR_takeHead_4 c_iconst_2 ?_
  refine wp_callV (as := [.inl (nI 16), .inl (nI 2)]) (rest := [.inr 5]) (Q' := fun r h' => WP l E M_LR_takeHead 8 [(0, .inr 5), (1, .inr 1)] (rpush r [.inr 5]) h' Q) d_LR_takeHead_5 vb_LR_takeHead_75 ⟨gw_1_225, gw_1_226⟩ rfl rfl rfl rfl (Nat.le_of_ble_eq_true rfl) rfl (Nat.le_of_ble_eq_true rfl) ?_ (fun r h' z => z)
  exact e1
set_option maxRecDepth 100000 in
set_option maxHeartbeats 4000000 in
theorem k_LR_takeHead_8 {l : Launch} {E : xE} {v0 : Int32} {h : xh} {Q : Option Int32 → xh → Prop}
    (e1 : MC l E M_DV_newestWord [.inr 1, .inl (nI 16), .inl (nI 1)] (hw h 5 6 (v0)) (fun r h' => WP l E M_LR_takeHead 19 [(0, .inr 5), (1, .inr 1)] (rpush r [.inr 5]) h' Q)) : WP l E M_LR_takeHead 8 [(0, .inr 5), (1, .inr 1)] [.inl (v0), .inr 5] h Q := by
  refine wp_putI d_LR_takeHead_8 fm_LR_31 rfl rfl ?_
  refine wp_aload_n d_LR_takeHead_11 rfl ?_
  refine wp_aload_n d_LR_takeHead_12 rfl ?_
  refine wp_bipush (v := nI 16) d_LR_takeHead_13 c_bipush_16 ?_
  refine wp_iconst (v := nI 1) d_LR_takeHead_15 c_iconst_1 ?_
  refine wp_callV (as := [.inl (nI 16), .inl (nI 1)]) (rest := [.inr 5]) (Q' := fun r h' => WP l E M_LR_takeHead 19 [(0, .inr 5), (1, .inr 1)] (rpush r [.inr 5]) h' Q) d_LR_takeHead_16 vb_LR_takeHead_75 ⟨gw_1_225, gw_1_226⟩ rfl rfl rfl rfl (Nat.le_of_ble_eq_true rfl) rfl (Nat.le_of_ble_eq_true rfl) ?_ (fun r h' z => z)
  exact e1
set_option maxRecDepth 100000 in
set_option maxHeartbeats 4000000 in
theorem k_LR_takeHead_19 {l : Launch} {E : xE} {v0 : Int32} {h : xh} {Q : Option Int32 → xh → Prop}
    (e1 : MC l E M_DV_newestWord [.inr 1, .inl (nI 16), .inl (nI 0)] (hw h 5 7 (v0)) (fun r h' => WP l E M_LR_takeHead 29 [(0, .inr 5), (1, .inr 1)] (rpush r []) h' Q)) : WP l E M_LR_takeHead 19 [(0, .inr 5), (1, .inr 1)] [.inl (v0), .inr 5] h Q := by
  refine wp_putI d_LR_takeHead_19 fm_LR_35 rfl rfl ?_
  refine wp_aload_n d_LR_takeHead_22 rfl ?_
  refine wp_bipush (v := nI 16) d_LR_takeHead_23 c_bipush_16 ?_
  refine wp_iconst (v := nI 0) d_LR_takeHead_25 c_iconst_0 ?_
  refine wp_callV (as := [.inl (nI 16), .inl (nI 0)]) (rest := []) (Q' := fun r h' => WP l E M_LR_takeHead 29 [(0, .inr 5), (1, .inr 1)] (rpush r []) h' Q) d_LR_takeHead_26 vb_LR_takeHead_75 ⟨gw_1_225, gw_1_226⟩ rfl rfl rfl rfl (Nat.le_of_ble_eq_true rfl) rfl (Nat.le_of_ble_eq_true rfl) ?_ (fun r h' z => z)
  exact e1
set_option maxRecDepth 100000 in
set_option maxHeartbeats 4000000 in
theorem k_LR_takeHead_29 {l : Launch} {E : xE} {v0 : Int32} {h : xh} {Q : Option Int32 → xh → Prop}
    (e1 : v0 ≠ (nI 77001) → Q none (hw (hw h 5 6 (nI 0)) 5 7 (nI 1)))
    (e2 : v0 = (nI 77001) → (h 5 6) < 0 → Q none (hw (hw h 5 6 (nI 0)) 5 7 (nI 1)))
    (e3 : v0 = (nI 77001) → ¬ (h 5 6) < 0 → (h 5 6) < (nI 24) → Q none h)
    (e4 : v0 = (nI 77001) → ¬ (h 5 6) < 0 → ¬ (h 5 6) < (nI 24) → Q none (hw (hw h 5 6 (nI 0)) 5 7 (nI 1))) : WP l E M_LR_takeHead 29 [(0, .inr 5), (1, .inr 1)] [.inl (v0)] h Q := by
  refine wp_ldcN d_LR_takeHead_29 gw_2_93 c_lit_77001 ?_
  refine wp_ic_ne (tgt := 50) d_LR_takeHead_31 (by decide) (fun c1 => ?_) (fun c1 => ?_)
  · refine wp_aload_n d_LR_takeHead_50 rfl ?_
    refine wp_iconst (v := nI 0) d_LR_takeHead_51 c_iconst_0 ?_
    refine wp_putI d_LR_takeHead_52 fm_LR_31 rfl rfl ?_
    refine wp_aload_n d_LR_takeHead_55 rfl ?_
    refine wp_iconst (v := nI 1) d_LR_takeHead_56 c_iconst_1 ?_
    refine wp_putI d_LR_takeHead_57 fm_LR_35 rfl rfl ?_
    refine wp_return d_LR_takeHead_60 rfl ?_
    exact e1 c1
  · refine wp_aload_n d_LR_takeHead_34 rfl ?_
    refine wp_getI d_LR_takeHead_35 fl_LR_31 rfl rfl ?_
    refine wp_if_lt (tgt := 50) d_LR_takeHead_38 (by decide) (fun c2 => ?_) (fun c2 => ?_)
    · refine wp_aload_n d_LR_takeHead_50 rfl ?_
      refine wp_iconst (v := nI 0) d_LR_takeHead_51 c_iconst_0 ?_
      refine wp_putI d_LR_takeHead_52 fm_LR_31 rfl rfl ?_
      refine wp_aload_n d_LR_takeHead_55 rfl ?_
      refine wp_iconst (v := nI 1) d_LR_takeHead_56 c_iconst_1 ?_
      refine wp_putI d_LR_takeHead_57 fm_LR_35 rfl rfl ?_
      refine wp_return d_LR_takeHead_60 rfl ?_
      exact e2 c1 c2
    · refine wp_aload_n d_LR_takeHead_41 rfl ?_
      refine wp_getI d_LR_takeHead_42 fl_LR_31 rfl rfl ?_
      refine wp_bipush (v := nI 24) d_LR_takeHead_45 c_bipush_24 ?_
      refine wp_ic_lt (tgt := 60) d_LR_takeHead_47 (by decide) (fun c3 => ?_) (fun c3 => ?_)
      · refine wp_return d_LR_takeHead_60 rfl ?_
        exact e3 c1 c2 c3
      · refine wp_aload_n d_LR_takeHead_50 rfl ?_
        refine wp_iconst (v := nI 0) d_LR_takeHead_51 c_iconst_0 ?_
        refine wp_putI d_LR_takeHead_52 fm_LR_31 rfl rfl ?_
        refine wp_aload_n d_LR_takeHead_55 rfl ?_
        refine wp_iconst (v := nI 1) d_LR_takeHead_56 c_iconst_1 ?_
        refine wp_putI d_LR_takeHead_57 fm_LR_35 rfl rfl ?_
        refine wp_return d_LR_takeHead_60 rfl ?_
        exact e4 c1 c2 c3
set_option maxRecDepth 100000 in
set_option maxHeartbeats 4000000 in
theorem k_LR_takeLog_0 {l : Launch} {E : xE} {h : xh} {Q : Option Int32 → xh → Prop}
    (e1 : WP l E M_LR_takeLog 2 [(0, .inr 5), (1, .inr 1), (2, .inl (nI 0))] [] h Q) : MC l E M_LR_takeLog [.inr 5, .inr 1] h Q := by
  refine wp_iconst (v := nI 0) d_LR_takeLog_0 c_iconst_0 ?_
  refine wp_istore_n (ls' := [(0, .inr 5), (1, .inr 1), (2, .inl (nI 0))]) d_LR_takeLog_1 (by decide) rfl ?_
  exact e1
set_option maxRecDepth 100000 in
set_option maxHeartbeats 4000000 in
theorem k_LR_takeLog_2 {l : Launch} {E : xE} {x2 : Int32} {h : xh} {Q : Option Int32 → xh → Prop}
    (e1 : (nI 24) ≤ x2 → Q none h)
    (e2 : ¬ (nI 24) ≤ x2 → WP l E M_LR_takeLog 10 [(0, .inr 5), (1, .inr 1), (2, .inl (x2)), (3, .inl (nI 0))] [] h Q) : WP l E M_LR_takeLog 2 [(0, .inr 5), (1, .inr 1), (2, .inl (x2))] [] h Q := by
  refine wp_iload_n d_LR_takeLog_2 rfl ?_
  refine wp_bipush (v := nI 24) d_LR_takeLog_3 c_bipush_24 ?_
  refine wp_ic_ge (tgt := 51) d_LR_takeLog_5 (by decide) (fun c1 => ?_) (fun c1 => ?_)
  · refine wp_return d_LR_takeLog_51 rfl ?_
    exact e1 c1
  · refine wp_iconst (v := nI 0) d_LR_takeLog_8 c_iconst_0 ?_
    refine wp_istore_n (ls' := [(0, .inr 5), (1, .inr 1), (2, .inl (x2)), (3, .inl (nI 0))]) d_LR_takeLog_9 (by decide) rfl ?_
    exact e2 c1
set_option maxRecDepth 100000 in
set_option maxHeartbeats 4000000 in
theorem k_LR_takeLog_10 {l : Launch} {E : xE} {x2 x3 : Int32} {h : xh} {Q : Option Int32 → xh → Prop}
    (e1 : (nI 4) ≤ x3 → WP l E M_LR_takeLog 2 [(0, .inr 5), (1, .inr 1), (2, .inl (x2 + nI 1))] [] h Q)
    (e2 : ¬ (nI 4) ≤ x3 → MC l E M_DV_newestWord [.inr 1, .inl ((nI 17) + (irem ((h 5 6) + (x2)) (nI 24))), .inl (x3)] h (fun r h' => WP l E M_LR_takeLog 38 [(0, .inr 5), (1, .inr 1), (2, .inl (x2)), (3, .inl (x3))] (rpush r [.inl (((x2) * (nI 4)) + (x3)), .inr 17]) h' Q)) : WP l E M_LR_takeLog 10 [(0, .inr 5), (1, .inr 1), (2, .inl (x2)), (3, .inl (x3))] [] h Q := by
  refine wp_iload_n d_LR_takeLog_10 rfl ?_
  refine wp_iconst (v := nI 4) d_LR_takeLog_11 c_iconst_4 ?_
  refine wp_ic_ge (tgt := 45) d_LR_takeLog_12 (by decide) (fun c1 => ?_) (fun c1 => ?_)
  · refine wp_iinc (v := x2 + nI 1) (ls' := [(0, .inr 5), (1, .inr 1), (2, .inl (x2 + nI 1)), (3, .inl (x3))]) d_LR_takeLog_45 rfl (c_inc_1 _) (by decide) rfl ?_
    refine wp_goto (tgt := 2) d_LR_takeLog_48 (by decide) ?_
    refine wp_sub (ls' := [(0, .inr 5), (1, .inr 1), (2, .inl (x2 + nI 1))]) [0, 1, 2] rfl ?_
    exact e1 c1
  · refine wp_aload_n d_LR_takeLog_15 rfl ?_
    refine wp_getR d_LR_takeLog_16 fl_LR_9 rfl rfl ?_
    refine wp_iload_n d_LR_takeLog_19 rfl ?_
    refine wp_iconst (v := nI 4) d_LR_takeLog_20 c_iconst_4 ?_
    refine wp_imul d_LR_takeLog_21 ?_
    refine wp_iload_n d_LR_takeLog_22 rfl ?_
    refine wp_iadd d_LR_takeLog_23 ?_
    refine wp_aload_n d_LR_takeLog_24 rfl ?_
    refine wp_aload_n d_LR_takeLog_25 rfl ?_
    refine wp_getI d_LR_takeLog_26 fl_LR_31 rfl rfl ?_
    refine wp_iload_n d_LR_takeLog_29 rfl ?_
    refine wp_iadd d_LR_takeLog_30 ?_
    refine wp_callS (as := [.inl ((h 5 6) + (x2))]) (rest := [.inr 1, .inl (((x2) * (nI 4)) + (x3)), .inr 17]) (Q' := fun r h' => WP l E M_LR_takeLog 34 [(0, .inr 5), (1, .inr 1), (2, .inl (x2)), (3, .inl (x3))] (rpush r [.inr 1, .inl (((x2) * (nI 4)) + (x3)), .inr 17]) h' _) d_LR_takeLog_31 vb_LR_takeLog_80 gw_2_57 rfl (Nat.le_of_ble_eq_true rfl) rfl (Nat.le_of_ble_eq_true rfl) ?_ (fun r h' z => z)
    show WP l E M_RS_logSector 0 [(0, .inl ((h 5 6) + (x2)))] [] h _
    refine wp_bipush (v := nI 17) d_RS_logSector_0 c_bipush_17 ?_
    refine wp_iload_n d_RS_logSector_2 rfl ?_
    refine wp_bipush (v := nI 24) d_RS_logSector_3 c_bipush_24 ?_
    refine wp_irem d_RS_logSector_5 (by decide +kernel) ?_
    refine wp_iadd d_RS_logSector_6 ?_
    refine wp_ireturn d_RS_logSector_7 rfl ?_
    show WP l E M_LR_takeLog 34 [(0, .inr 5), (1, .inr 1), (2, .inl (x2)), (3, .inl (x3))] [.inl ((nI 17) + (irem ((h 5 6) + (x2)) (nI 24))), .inr 1, .inl (((x2) * (nI 4)) + (x3)), .inr 17] h _
    refine wp_iload_n d_LR_takeLog_34 rfl ?_
    refine wp_callV (as := [.inl ((nI 17) + (irem ((h 5 6) + (x2)) (nI 24))), .inl (x3)]) (rest := [.inl (((x2) * (nI 4)) + (x3)), .inr 17]) (Q' := fun r h' => WP l E M_LR_takeLog 38 [(0, .inr 5), (1, .inr 1), (2, .inl (x2)), (3, .inl (x3))] (rpush r [.inl (((x2) * (nI 4)) + (x3)), .inr 17]) h' Q) d_LR_takeLog_35 vb_LR_takeLog_75 ⟨gw_1_225, gw_1_226⟩ rfl rfl rfl rfl (Nat.le_of_ble_eq_true rfl) rfl (Nat.le_of_ble_eq_true rfl) ?_ (fun r h' z => z)
    exact e2 c1
set_option maxRecDepth 100000 in
set_option maxHeartbeats 4000000 in
theorem k_LR_takeLog_38 {l : Launch} {E : xE} {s1 v0 x2 x3 : Int32} {h : xh} {Q : Option Int32 → xh → Prop}
    (o1 : vp_in (s1) 96)
    (e1 : WP l E M_LR_takeLog 10 [(0, .inr 5), (1, .inr 1), (2, .inl (x2)), (3, .inl (x3 + nI 1))] [] (hw h 17 ((s1).toNatClampNeg) (v0)) Q) : WP l E M_LR_takeLog 38 [(0, .inr 5), (1, .inr 1), (2, .inl (x2)), (3, .inl (x3))] [.inl (v0), .inl (s1), .inr 17] h Q := by
  refine wp_iastore d_LR_takeLog_38 rfl o1 ?_
  refine wp_iinc (v := x3 + nI 1) (ls' := [(0, .inr 5), (1, .inr 1), (2, .inl (x2)), (3, .inl (x3 + nI 1))]) d_LR_takeLog_39 rfl (c_inc_1 _) (by decide) rfl ?_
  refine wp_goto (tgt := 10) d_LR_takeLog_42 (by decide) ?_
  exact e1
set_option maxRecDepth 100000 in
set_option maxHeartbeats 4000000 in
theorem k_LR_takeTransaction_0 {l : Launch} {E : xE} {x1 : Int32} {h : xh} {Q : Option Int32 → xh → Prop}
    (e1 : MC l E M_LR_passGroups [.inr 5, .inl (x1)] (hw (hw (hw h 5 10 (h 5 8)) 5 11 (h 5 7)) 5 12 (h 5 9)) (fun r h' => WP l E M_LR_takeTransaction 29 [(0, .inr 5), (1, .inl (x1))] (rpush r []) h' Q)) : MC l E M_LR_takeTransaction [.inr 5, .inl (x1)] h Q := by
  refine wp_aload_n d_LR_takeTransaction_0 rfl ?_
  refine wp_aload_n d_LR_takeTransaction_1 rfl ?_
  refine wp_getI d_LR_takeTransaction_2 fl_LR_38 rfl rfl ?_
  refine wp_putI d_LR_takeTransaction_5 fm_LR_44 rfl rfl ?_
  refine wp_aload_n d_LR_takeTransaction_8 rfl ?_
  refine wp_aload_n d_LR_takeTransaction_9 rfl ?_
  refine wp_getI d_LR_takeTransaction_10 fl_LR_35 rfl rfl ?_
  show WP l E M_LR_takeTransaction 13 [(0, .inr 5), (1, .inl (x1))] [.inl (h 5 7), .inr 5] (hw h 5 10 (h 5 8)) _
  refine wp_putI d_LR_takeTransaction_13 fm_LR_47 rfl rfl ?_
  refine wp_aload_n d_LR_takeTransaction_16 rfl ?_
  refine wp_aload_n d_LR_takeTransaction_17 rfl ?_
  refine wp_getI d_LR_takeTransaction_18 fl_LR_41 rfl rfl ?_
  show WP l E M_LR_takeTransaction 21 [(0, .inr 5), (1, .inl (x1))] [.inl (h 5 9), .inr 5] (hw (hw h 5 10 (h 5 8)) 5 11 (h 5 7)) _
  refine wp_putI d_LR_takeTransaction_21 fm_LR_50 rfl rfl ?_
  refine wp_aload_n d_LR_takeTransaction_24 rfl ?_
  refine wp_iload_n d_LR_takeTransaction_25 rfl ?_
  refine wp_callV (as := [.inl (x1)]) (rest := []) (Q' := fun r h' => WP l E M_LR_takeTransaction 29 [(0, .inr 5), (1, .inl (x1))] (rpush r []) h' Q) d_LR_takeTransaction_26 vb_LR_takeTransaction_84 ⟨gw_2_108, sw_11⟩ rfl rfl rfl rfl (Nat.le_of_ble_eq_true rfl) rfl (Nat.le_of_ble_eq_true rfl) ?_ (fun r h' z => z)
  exact e1
set_option maxRecDepth 100000 in
set_option maxHeartbeats 4000000 in
theorem k_LR_takeTransaction_29 {l : Launch} {E : xE} {x1 : Int32} {h : xh} {Q : Option Int32 → xh → Prop}
    (e1 : MC l E M_LR_passRevocations [.inr 5] h (fun r h' => WP l E M_LR_takeTransaction 33 [(0, .inr 5), (1, .inl (x1))] (rpush r []) h' Q)) : WP l E M_LR_takeTransaction 29 [(0, .inr 5), (1, .inl (x1))] [] h Q := by
  refine wp_aload_n d_LR_takeTransaction_29 rfl ?_
  refine wp_callV (as := []) (rest := []) (Q' := fun r h' => WP l E M_LR_takeTransaction 33 [(0, .inr 5), (1, .inl (x1))] (rpush r []) h' Q) d_LR_takeTransaction_30 vb_LR_takeTransaction_88 ⟨gw_2_129, sw_16⟩ rfl rfl rfl rfl (Nat.le_of_ble_eq_true rfl) rfl (Nat.le_of_ble_eq_true rfl) ?_ (fun r h' z => z)
  exact e1
set_option maxRecDepth 100000 in
set_option maxHeartbeats 4000000 in
theorem k_LR_takeTransaction_33 {l : Launch} {E : xE} {v0 x1 : Int32} {h : xh} {Q : Option Int32 → xh → Prop}
    (e1 : MC l E M_LR_isOwn [.inr 5, .inl (nI 3)] h (fun r h' => WP l E M_LR_takeTransaction 39 [(0, .inr 5), (1, .inl (x1)), (2, .inl (v0))] (rpush r []) h' Q)) : WP l E M_LR_takeTransaction 33 [(0, .inr 5), (1, .inl (x1))] [.inl (v0)] h Q := by
  refine wp_istore_n (ls' := [(0, .inr 5), (1, .inl (x1)), (2, .inl (v0))]) d_LR_takeTransaction_33 (by decide) rfl ?_
  refine wp_aload_n d_LR_takeTransaction_34 rfl ?_
  refine wp_iconst (v := nI 3) d_LR_takeTransaction_35 c_iconst_3 ?_
  refine wp_callV (as := [.inl (nI 3)]) (rest := []) (Q' := fun r h' => WP l E M_LR_takeTransaction 39 [(0, .inr 5), (1, .inl (x1)), (2, .inl (v0))] (rpush r []) h' Q) d_LR_takeTransaction_36 vb_LR_takeTransaction_92 ⟨gw_2_112, sw_12⟩ rfl rfl rfl rfl (Nat.le_of_ble_eq_true rfl) rfl (Nat.le_of_ble_eq_true rfl) ?_ (fun r h' z => z)
  exact e1
set_option maxRecDepth 100000 in
set_option maxHeartbeats 4000000 in
theorem k_LR_takeTransaction_39 {l : Launch} {E : xE} {v0 x1 x2 : Int32} {h : xh} {Q : Option Int32 → xh → Prop}
    (e1 : v0 = 0 → Q (some (nI 0)) h)
    (o1 : ¬ v0 = 0 → vp_in (((h 5 10) * (nI 4)) + (nI 3)) 96)
    (e2 : ¬ v0 = 0 → (h 17 ((((h 5 10) * (nI 4)) + (nI 3)).toNatClampNeg)) = (h 5 11) → WP l E M_LR_takeTransaction 62 [(0, .inr 5), (1, .inl (x1)), (2, .inl (x2)), (3, .inl (nI 0))] [] h Q)
    (e3 : ¬ v0 = 0 → ¬ (h 17 ((((h 5 10) * (nI 4)) + (nI 3)).toNatClampNeg)) = (h 5 11) → Q (some (nI 0)) h) : WP l E M_LR_takeTransaction 39 [(0, .inr 5), (1, .inl (x1)), (2, .inl (x2))] [.inl (v0)] h Q := by
  refine wp_if_eq (tgt := 58) d_LR_takeTransaction_39 (by decide) (fun c1 => ?_) (fun c1 => ?_)
  · refine wp_iconst (v := nI 0) d_LR_takeTransaction_58 c_iconst_0 ?_
    refine wp_zreturn d_LR_takeTransaction_59 rfl (by decide) ?_
    exact e1 c1
  · refine wp_aload_n d_LR_takeTransaction_42 rfl ?_
    refine wp_aload_n d_LR_takeTransaction_43 rfl ?_
    refine wp_getI d_LR_takeTransaction_44 fl_LR_44 rfl rfl ?_
    refine wp_iconst (v := nI 3) d_LR_takeTransaction_47 c_iconst_3 ?_
    refine wp_callV (as := [.inl (h 5 10), .inl (nI 3)]) (rest := []) (Q' := fun r h' => WP l E M_LR_takeTransaction 51 [(0, .inr 5), (1, .inl (x1)), (2, .inl (x2))] (rpush r []) h' _) d_LR_takeTransaction_48 vb_LR_takeTransaction_54 ⟨gw_2_116, sw_13⟩ rfl rfl rfl rfl (Nat.le_of_ble_eq_true rfl) rfl (Nat.le_of_ble_eq_true rfl) ?_ (fun r h' z => z)
    show WP l E M_LR_wordAt 0 [(0, .inr 5), (1, .inl (h 5 10)), (2, .inl (nI 3))] [] h _
    refine wp_aload_n d_LR_wordAt_0 rfl ?_
    refine wp_getR d_LR_wordAt_1 fl_LR_9 rfl rfl ?_
    refine wp_iload_n d_LR_wordAt_4 rfl ?_
    refine wp_iconst (v := nI 4) d_LR_wordAt_5 c_iconst_4 ?_
    refine wp_imul d_LR_wordAt_6 ?_
    refine wp_iload_n d_LR_wordAt_7 rfl ?_
    refine wp_iadd d_LR_wordAt_8 ?_
    refine wp_iaload d_LR_wordAt_9 rfl (o1 c1) ?_
    refine wp_ireturn d_LR_wordAt_10 rfl ?_
    show WP l E M_LR_takeTransaction 51 [(0, .inr 5), (1, .inl (x1)), (2, .inl (x2))] [.inl (h 17 ((((h 5 10) * (nI 4)) + (nI 3)).toNatClampNeg))] h _
    refine wp_aload_n d_LR_takeTransaction_51 rfl ?_
    refine wp_getI d_LR_takeTransaction_52 fl_LR_47 rfl rfl ?_
    refine wp_ic_eq (tgt := 60) d_LR_takeTransaction_55 (by decide) (fun c2 => ?_) (fun c2 => ?_)
    · refine wp_iconst (v := nI 0) d_LR_takeTransaction_60 c_iconst_0 ?_
      refine wp_istore_n (ls' := [(0, .inr 5), (1, .inl (x1)), (2, .inl (x2)), (3, .inl (nI 0))]) d_LR_takeTransaction_61 (by decide) rfl ?_
      exact e2 c1 c2
    · refine wp_iconst (v := nI 0) d_LR_takeTransaction_58 c_iconst_0 ?_
      refine wp_zreturn d_LR_takeTransaction_59 rfl (by decide) ?_
      exact e3 c1 c2
set_option maxRecDepth 100000 in
set_option maxHeartbeats 4000000 in
theorem k_LR_takeTransaction_62 {l : Launch} {E : xE} {x1 x2 x3 : Int32} {h : xh} {Q : Option Int32 → xh → Prop}
    (e1 : (nI 16) ≤ x3 → Q (some (nI 1)) (hw (hw (hw h 5 8 ((h 5 10) + (nI 1))) 5 9 (h 5 12)) 5 7 ((h 5 7) + (nI 1))))
    (e2 : ¬ (nI 16) ≤ x3 → ((ushr (x2) (x3)) &&& (nI 1)) ≠ (nI 1) → WP l E M_LR_takeTransaction 62 [(0, .inr 5), (1, .inl (x1)), (2, .inl (x2)), (3, .inl (x3 + nI 1))] [] h Q)
    (o1 : ¬ (nI 16) ≤ x3 → ((ushr (x2) (x3)) &&& (nI 1)) = (nI 1) → vp_in (x3) 16)
    (e3 : ¬ (nI 16) ≤ x3 → ((ushr (x2) (x3)) &&& (nI 1)) = (nI 1) → WP l E M_LR_takeTransaction 62 [(0, .inr 5), (1, .inl (x1)), (2, .inl (x2)), (3, .inl (x3 + nI 1))] [] (hw h 22 ((x3).toNatClampNeg) (x1)) Q) : WP l E M_LR_takeTransaction 62 [(0, .inr 5), (1, .inl (x1)), (2, .inl (x2)), (3, .inl (x3))] [] h Q := by
  refine wp_iload_n d_LR_takeTransaction_62 rfl ?_
  refine wp_bipush (v := nI 16) d_LR_takeTransaction_63 c_bipush_16 ?_
  refine wp_ic_ge (tgt := 90) d_LR_takeTransaction_65 (by decide) (fun c1 => ?_) (fun c1 => ?_)
  · refine wp_aload_n d_LR_takeTransaction_90 rfl ?_
    refine wp_aload_n d_LR_takeTransaction_91 rfl ?_
    refine wp_getI d_LR_takeTransaction_92 fl_LR_44 rfl rfl ?_
    refine wp_iconst (v := nI 1) d_LR_takeTransaction_95 c_iconst_1 ?_
    refine wp_iadd d_LR_takeTransaction_96 ?_
    refine wp_putI d_LR_takeTransaction_97 fm_LR_38 rfl rfl ?_
    refine wp_aload_n d_LR_takeTransaction_100 rfl ?_
    refine wp_aload_n d_LR_takeTransaction_101 rfl ?_
    refine wp_getI d_LR_takeTransaction_102 fl_LR_50 rfl rfl ?_
    show WP l E M_LR_takeTransaction 105 [(0, .inr 5), (1, .inl (x1)), (2, .inl (x2)), (3, .inl (x3))] [.inl (h 5 12), .inr 5] (hw h 5 8 ((h 5 10) + (nI 1))) _
    refine wp_putI d_LR_takeTransaction_105 fm_LR_41 rfl rfl ?_
    refine wp_aload_n d_LR_takeTransaction_108 rfl ?_
    refine wp_dup d_LR_takeTransaction_109 ?_
    refine wp_getI d_LR_takeTransaction_110 fl_LR_35 rfl rfl ?_
    show WP l E M_LR_takeTransaction 113 [(0, .inr 5), (1, .inl (x1)), (2, .inl (x2)), (3, .inl (x3))] [.inl (h 5 7), .inr 5] (hw (hw h 5 8 ((h 5 10) + (nI 1))) 5 9 (h 5 12)) _
    refine wp_iconst (v := nI 1) d_LR_takeTransaction_113 c_iconst_1 ?_
    refine wp_iadd d_LR_takeTransaction_114 ?_
    refine wp_putI d_LR_takeTransaction_115 fm_LR_35 rfl rfl ?_
    refine wp_iconst (v := nI 1) d_LR_takeTransaction_118 c_iconst_1 ?_
    refine wp_zreturn d_LR_takeTransaction_119 rfl (by decide) ?_
    exact e1 c1
  · refine wp_iload_n d_LR_takeTransaction_68 rfl ?_
    refine wp_iload_n d_LR_takeTransaction_69 rfl ?_
    refine wp_iushr d_LR_takeTransaction_70 ?_
    refine wp_iconst (v := nI 1) d_LR_takeTransaction_71 c_iconst_1 ?_
    refine wp_iand d_LR_takeTransaction_72 ?_
    refine wp_iconst (v := nI 1) d_LR_takeTransaction_73 c_iconst_1 ?_
    refine wp_ic_ne (tgt := 84) d_LR_takeTransaction_74 (by decide) (fun c2 => ?_) (fun c2 => ?_)
    · refine wp_iinc (v := x3 + nI 1) (ls' := [(0, .inr 5), (1, .inl (x1)), (2, .inl (x2)), (3, .inl (x3 + nI 1))]) d_LR_takeTransaction_84 rfl (c_inc_1 _) (by decide) rfl ?_
      refine wp_goto (tgt := 62) d_LR_takeTransaction_87 (by decide) ?_
      exact e2 c1 c2
    · refine wp_aload_n d_LR_takeTransaction_77 rfl ?_
      refine wp_getR d_LR_takeTransaction_78 fl_LR_28 rfl rfl ?_
      refine wp_iload_n d_LR_takeTransaction_81 rfl ?_
      refine wp_iload_n d_LR_takeTransaction_82 rfl ?_
      refine wp_iastore d_LR_takeTransaction_83 rfl (o1 c1 c2) ?_
      refine wp_iinc (v := x3 + nI 1) (ls' := [(0, .inr 5), (1, .inl (x1)), (2, .inl (x2)), (3, .inl (x3 + nI 1))]) d_LR_takeTransaction_84 rfl (c_inc_1 _) (by decide) rfl ?_
      refine wp_goto (tgt := 62) d_LR_takeTransaction_87 (by decide) ?_
      exact e3 c1 c2
set_option maxRecDepth 100000 in
set_option maxHeartbeats 4000000 in
theorem k_LR_passGroups_0 {l : Launch} {E : xE} {x1 : Int32} {h : xh} {Q : Option Int32 → xh → Prop}
    (e1 : WP l E M_LR_passGroups 2 [(0, .inr 5), (1, .inl (x1)), (2, .inl (nI 0))] [] h Q) : MC l E M_LR_passGroups [.inr 5, .inl (x1)] h Q := by
  refine wp_iconst (v := nI 0) d_LR_passGroups_0 c_iconst_0 ?_
  refine wp_istore_n (ls' := [(0, .inr 5), (1, .inl (x1)), (2, .inl (nI 0))]) d_LR_passGroups_1 (by decide) rfl ?_
  exact e1
set_option maxRecDepth 100000 in
set_option maxHeartbeats 4000000 in
theorem k_LR_passGroups_2 {l : Launch} {E : xE} {x1 x2 : Int32} {h : xh} {Q : Option Int32 → xh → Prop}
    (e1 : (nI 24) ≤ x2 → Q none h)
    (e2 : ¬ (nI 24) ≤ x2 → MC l E M_LR_isOwn [.inr 5, .inl (nI 1)] h (fun r h' => WP l E M_LR_passGroups 13 [(0, .inr 5), (1, .inl (x1)), (2, .inl (x2))] (rpush r []) h' Q)) : WP l E M_LR_passGroups 2 [(0, .inr 5), (1, .inl (x1)), (2, .inl (x2))] [] h Q := by
  refine wp_iload_n d_LR_passGroups_2 rfl ?_
  refine wp_bipush (v := nI 24) d_LR_passGroups_3 c_bipush_24 ?_
  refine wp_ic_ge (tgt := 100) d_LR_passGroups_5 (by decide) (fun c1 => ?_) (fun c1 => ?_)
  · refine wp_return d_LR_passGroups_100 rfl ?_
    exact e1 c1
  · refine wp_aload_n d_LR_passGroups_8 rfl ?_
    refine wp_iconst (v := nI 1) d_LR_passGroups_9 c_iconst_1 ?_
    refine wp_callV (as := [.inl (nI 1)]) (rest := []) (Q' := fun r h' => WP l E M_LR_passGroups 13 [(0, .inr 5), (1, .inl (x1)), (2, .inl (x2))] (rpush r []) h' Q) d_LR_passGroups_10 vb_LR_passGroups_92 ⟨gw_2_112, sw_12⟩ rfl rfl rfl rfl (Nat.le_of_ble_eq_true rfl) rfl (Nat.le_of_ble_eq_true rfl) ?_ (fun r h' z => z)
    exact e2 c1
set_option maxRecDepth 100000 in
set_option maxHeartbeats 4000000 in
theorem k_LR_passGroups_13 {l : Launch} {E : xE} {v0 x1 x2 : Int32} {h : xh} {Q : Option Int32 → xh → Prop}
    (e1 : v0 = 0 → Q none h)
    (o1 : ¬ v0 = 0 → vp_in (((h 5 10) * (nI 4)) + (nI 3)) 96)
    (e2 : ¬ v0 = 0 → ((h 17 ((((h 5 10) * (nI 4)) + (nI 3)).toNatClampNeg)) &&& (nI 7)) < (nI 1) → Q none h)
    (e3 : ¬ v0 = 0 → ¬ ((h 17 ((((h 5 10) * (nI 4)) + (nI 3)).toNatClampNeg)) &&& (nI 7)) < (nI 1) → (nI 4) < ((h 17 ((((h 5 10) * (nI 4)) + (nI 3)).toNatClampNeg)) &&& (nI 7)) → Q none h)
    (e4 : ¬ v0 = 0 → ¬ ((h 17 ((((h 5 10) * (nI 4)) + (nI 3)).toNatClampNeg)) &&& (nI 7)) < (nI 1) → ¬ (nI 4) < ((h 17 ((((h 5 10) * (nI 4)) + (nI 3)).toNatClampNeg)) &&& (nI 7)) → ((h 5 10) + ((h 17 ((((h 5 10) * (nI 4)) + (nI 3)).toNatClampNeg)) &&& (nI 7))) < (nI 24) → MC l E M_LR_passSector [.inr 5] h (fun r h' => WP l E M_LR_passGroups 61 [(0, .inr 5), (1, .inl (x1)), (2, .inl (x2)), (3, .inl (h 17 ((((h 5 10) * (nI 4)) + (nI 3)).toNatClampNeg))), (4, .inl ((h 17 ((((h 5 10) * (nI 4)) + (nI 3)).toNatClampNeg)) &&& (nI 7)))] (rpush r []) h' Q))
    (e5 : ¬ v0 = 0 → ¬ ((h 17 ((((h 5 10) * (nI 4)) + (nI 3)).toNatClampNeg)) &&& (nI 7)) < (nI 1) → ¬ (nI 4) < ((h 17 ((((h 5 10) * (nI 4)) + (nI 3)).toNatClampNeg)) &&& (nI 7)) → ¬ ((h 5 10) + ((h 17 ((((h 5 10) * (nI 4)) + (nI 3)).toNatClampNeg)) &&& (nI 7))) < (nI 24) → Q none h) : WP l E M_LR_passGroups 13 [(0, .inr 5), (1, .inl (x1)), (2, .inl (x2))] [.inl (v0)] h Q := by
  refine wp_if_eq (tgt := 100) d_LR_passGroups_13 (by decide) (fun c1 => ?_) (fun c1 => ?_)
  · refine wp_return d_LR_passGroups_100 rfl ?_
    exact e1 c1
  · refine wp_aload_n d_LR_passGroups_16 rfl ?_
    refine wp_aload_n d_LR_passGroups_17 rfl ?_
    refine wp_getI d_LR_passGroups_18 fl_LR_44 rfl rfl ?_
    refine wp_iconst (v := nI 3) d_LR_passGroups_21 c_iconst_3 ?_
    refine wp_callV (as := [.inl (h 5 10), .inl (nI 3)]) (rest := []) (Q' := fun r h' => WP l E M_LR_passGroups 25 [(0, .inr 5), (1, .inl (x1)), (2, .inl (x2))] (rpush r []) h' _) d_LR_passGroups_22 vb_LR_passGroups_54 ⟨gw_2_116, sw_13⟩ rfl rfl rfl rfl (Nat.le_of_ble_eq_true rfl) rfl (Nat.le_of_ble_eq_true rfl) ?_ (fun r h' z => z)
    show WP l E M_LR_wordAt 0 [(0, .inr 5), (1, .inl (h 5 10)), (2, .inl (nI 3))] [] h _
    refine wp_aload_n d_LR_wordAt_0 rfl ?_
    refine wp_getR d_LR_wordAt_1 fl_LR_9 rfl rfl ?_
    refine wp_iload_n d_LR_wordAt_4 rfl ?_
    refine wp_iconst (v := nI 4) d_LR_wordAt_5 c_iconst_4 ?_
    refine wp_imul d_LR_wordAt_6 ?_
    refine wp_iload_n d_LR_wordAt_7 rfl ?_
    refine wp_iadd d_LR_wordAt_8 ?_
    refine wp_iaload d_LR_wordAt_9 rfl (o1 c1) ?_
    refine wp_ireturn d_LR_wordAt_10 rfl ?_
    show WP l E M_LR_passGroups 25 [(0, .inr 5), (1, .inl (x1)), (2, .inl (x2))] [.inl (h 17 ((((h 5 10) * (nI 4)) + (nI 3)).toNatClampNeg))] h _
    refine wp_istore_n (ls' := [(0, .inr 5), (1, .inl (x1)), (2, .inl (x2)), (3, .inl (h 17 ((((h 5 10) * (nI 4)) + (nI 3)).toNatClampNeg)))]) d_LR_passGroups_25 (by decide) rfl ?_
    refine wp_iload_n d_LR_passGroups_26 rfl ?_
    refine wp_bipush (v := nI 7) d_LR_passGroups_27 c_bipush_7 ?_
    refine wp_iand d_LR_passGroups_29 ?_
    refine wp_istore (ls' := [(0, .inr 5), (1, .inl (x1)), (2, .inl (x2)), (3, .inl (h 17 ((((h 5 10) * (nI 4)) + (nI 3)).toNatClampNeg))), (4, .inl ((h 17 ((((h 5 10) * (nI 4)) + (nI 3)).toNatClampNeg)) &&& (nI 7)))]) d_LR_passGroups_30 (by decide) rfl ?_
    refine wp_iload d_LR_passGroups_32 rfl ?_
    refine wp_iconst (v := nI 1) d_LR_passGroups_34 c_iconst_1 ?_
    refine wp_ic_lt (tgt := 56) d_LR_passGroups_35 (by decide) (fun c2 => ?_) (fun c2 => ?_)
    · refine wp_return d_LR_passGroups_56 rfl ?_
      exact e2 c1 c2
    · refine wp_iload d_LR_passGroups_38 rfl ?_
      refine wp_iconst (v := nI 4) d_LR_passGroups_40 c_iconst_4 ?_
      refine wp_ic_gt (tgt := 56) d_LR_passGroups_41 (by decide) (fun c3 => ?_) (fun c3 => ?_)
      · refine wp_return d_LR_passGroups_56 rfl ?_
        exact e3 c1 c2 c3
      · refine wp_aload_n d_LR_passGroups_44 rfl ?_
        refine wp_getI d_LR_passGroups_45 fl_LR_44 rfl rfl ?_
        refine wp_iload d_LR_passGroups_48 rfl ?_
        refine wp_iadd d_LR_passGroups_50 ?_
        refine wp_bipush (v := nI 24) d_LR_passGroups_51 c_bipush_24 ?_
        refine wp_ic_lt (tgt := 57) d_LR_passGroups_53 (by decide) (fun c4 => ?_) (fun c4 => ?_)
        · refine wp_aload_n d_LR_passGroups_57 rfl ?_
          refine wp_callV (as := []) (rest := []) (Q' := fun r h' => WP l E M_LR_passGroups 61 [(0, .inr 5), (1, .inl (x1)), (2, .inl (x2)), (3, .inl (h 17 ((((h 5 10) * (nI 4)) + (nI 3)).toNatClampNeg))), (4, .inl ((h 17 ((((h 5 10) * (nI 4)) + (nI 3)).toNatClampNeg)) &&& (nI 7)))] (rpush r []) h' Q) d_LR_passGroups_58 vb_LR_passGroups_95 ⟨gw_2_120, sw_14⟩ rfl rfl rfl rfl (Nat.le_of_ble_eq_true rfl) rfl (Nat.le_of_ble_eq_true rfl) ?_ (fun r h' z => z)
          exact e4 c1 c2 c3 c4
        · refine wp_return d_LR_passGroups_56 rfl ?_
          exact e5 c1 c2 c3 c4
set_option maxRecDepth 100000 in
set_option maxHeartbeats 4000000 in
theorem k_LR_passGroups_61 {l : Launch} {E : xE} {x1 x2 x3 x4 : Int32} {h : xh} {Q : Option Int32 → xh → Prop}
    (e1 : WP l E M_LR_passGroups 64 [(0, .inr 5), (1, .inl (x1)), (2, .inl (x2)), (3, .inl (x3)), (4, .inl (x4)), (5, .inl (nI 0))] [] h Q) : WP l E M_LR_passGroups 61 [(0, .inr 5), (1, .inl (x1)), (2, .inl (x2)), (3, .inl (x3)), (4, .inl (x4))] [] h Q := by
  refine wp_iconst (v := nI 0) d_LR_passGroups_61 c_iconst_0 ?_
  refine wp_istore (ls' := [(0, .inr 5), (1, .inl (x1)), (2, .inl (x2)), (3, .inl (x3)), (4, .inl (x4)), (5, .inl (nI 0))]) d_LR_passGroups_62 (by decide) rfl ?_
  exact e1
set_option maxRecDepth 100000 in
set_option maxHeartbeats 4000000 in
theorem k_LR_passGroups_64 {l : Launch} {E : xE} {x1 x2 x3 x4 x5 : Int32} {h : xh} {Q : Option Int32 → xh → Prop}
    (e1 : x4 ≤ x5 → WP l E M_LR_passGroups 2 [(0, .inr 5), (1, .inl (x1)), (2, .inl (x2 + nI 1))] [] h Q)
    (e2 : ¬ x4 ≤ x5 → MC l E M_LR_noteImage [.inr 5, .inl (ushr (x3) ((nI 3) + ((nI 5) * (x5)))), .inl (x1)] h (fun r h' => WP l E M_LR_passGroups 84 [(0, .inr 5), (1, .inl (x1)), (2, .inl (x2)), (3, .inl (x3)), (4, .inl (x4)), (5, .inl (x5))] (rpush r []) h' Q)) : WP l E M_LR_passGroups 64 [(0, .inr 5), (1, .inl (x1)), (2, .inl (x2)), (3, .inl (x3)), (4, .inl (x4)), (5, .inl (x5))] [] h Q := by
  refine wp_iload d_LR_passGroups_64 rfl ?_
  refine wp_iload d_LR_passGroups_66 rfl ?_
  refine wp_ic_ge (tgt := 94) d_LR_passGroups_68 (by decide) (fun c1 => ?_) (fun c1 => ?_)
  · refine wp_iinc (v := x2 + nI 1) (ls' := [(0, .inr 5), (1, .inl (x1)), (2, .inl (x2 + nI 1)), (3, .inl (x3)), (4, .inl (x4)), (5, .inl (x5))]) d_LR_passGroups_94 rfl (c_inc_1 _) (by decide) rfl ?_
    refine wp_goto (tgt := 2) d_LR_passGroups_97 (by decide) ?_
    refine wp_sub (ls' := [(0, .inr 5), (1, .inl (x1)), (2, .inl (x2 + nI 1))]) [0, 1, 2] rfl ?_
    exact e1 c1
  · refine wp_aload_n d_LR_passGroups_71 rfl ?_
    refine wp_iload_n d_LR_passGroups_72 rfl ?_
    refine wp_iconst (v := nI 3) d_LR_passGroups_73 c_iconst_3 ?_
    refine wp_iconst (v := nI 5) d_LR_passGroups_74 c_iconst_5 ?_
    refine wp_iload d_LR_passGroups_75 rfl ?_
    refine wp_imul d_LR_passGroups_77 ?_
    refine wp_iadd d_LR_passGroups_78 ?_
    refine wp_iushr d_LR_passGroups_79 ?_
    refine wp_iload_n d_LR_passGroups_80 rfl ?_
    refine wp_callV (as := [.inl (ushr (x3) ((nI 3) + ((nI 5) * (x5)))), .inl (x1)]) (rest := []) (Q' := fun r h' => WP l E M_LR_passGroups 84 [(0, .inr 5), (1, .inl (x1)), (2, .inl (x2)), (3, .inl (x3)), (4, .inl (x4)), (5, .inl (x5))] (rpush r []) h' Q) d_LR_passGroups_81 vb_LR_passGroups_98 ⟨gw_2_125, sw_15⟩ rfl rfl rfl rfl (Nat.le_of_ble_eq_true rfl) rfl (Nat.le_of_ble_eq_true rfl) ?_ (fun r h' z => z)
    exact e2 c1
set_option maxRecDepth 100000 in
set_option maxHeartbeats 4000000 in
theorem k_LR_passGroups_84 {l : Launch} {E : xE} {x1 x2 x3 x4 x5 : Int32} {h : xh} {Q : Option Int32 → xh → Prop}
    (e1 : MC l E M_LR_passSector [.inr 5] h (fun r h' => WP l E M_LR_passGroups 88 [(0, .inr 5), (1, .inl (x1)), (2, .inl (x2)), (3, .inl (x3)), (4, .inl (x4)), (5, .inl (x5))] (rpush r []) h' Q)) : WP l E M_LR_passGroups 84 [(0, .inr 5), (1, .inl (x1)), (2, .inl (x2)), (3, .inl (x3)), (4, .inl (x4)), (5, .inl (x5))] [] h Q := by
  refine wp_aload_n d_LR_passGroups_84 rfl ?_
  refine wp_callV (as := []) (rest := []) (Q' := fun r h' => WP l E M_LR_passGroups 88 [(0, .inr 5), (1, .inl (x1)), (2, .inl (x2)), (3, .inl (x3)), (4, .inl (x4)), (5, .inl (x5))] (rpush r []) h' Q) d_LR_passGroups_85 vb_LR_passGroups_95 ⟨gw_2_120, sw_14⟩ rfl rfl rfl rfl (Nat.le_of_ble_eq_true rfl) rfl (Nat.le_of_ble_eq_true rfl) ?_ (fun r h' z => z)
  exact e1
set_option maxRecDepth 100000 in
set_option maxHeartbeats 4000000 in
theorem k_LR_passGroups_88 {l : Launch} {E : xE} {x1 x2 x3 x4 x5 : Int32} {h : xh} {Q : Option Int32 → xh → Prop}
    (e1 : WP l E M_LR_passGroups 64 [(0, .inr 5), (1, .inl (x1)), (2, .inl (x2)), (3, .inl (x3)), (4, .inl (x4)), (5, .inl (x5 + nI 1))] [] h Q) : WP l E M_LR_passGroups 88 [(0, .inr 5), (1, .inl (x1)), (2, .inl (x2)), (3, .inl (x3)), (4, .inl (x4)), (5, .inl (x5))] [] h Q := by
  refine wp_iinc (v := x5 + nI 1) (ls' := [(0, .inr 5), (1, .inl (x1)), (2, .inl (x2)), (3, .inl (x3)), (4, .inl (x4)), (5, .inl (x5 + nI 1))]) d_LR_passGroups_88 rfl (c_inc_1 _) (by decide) rfl ?_
  refine wp_goto (tgt := 64) d_LR_passGroups_91 (by decide) ?_
  exact e1
set_option maxRecDepth 100000 in
set_option maxHeartbeats 4000000 in
theorem k_LR_passRevocations_0 {l : Launch} {E : xE} {h : xh} {Q : Option Int32 → xh → Prop}
    (e1 : MC l E M_LR_isOwn [.inr 5, .inl (nI 2)] h (fun r h' => WP l E M_LR_passRevocations 5 [(0, .inr 5)] (rpush r []) h' Q)) : MC l E M_LR_passRevocations [.inr 5] h Q := by
  refine wp_aload_n d_LR_passRevocations_0 rfl ?_
  refine wp_iconst (v := nI 2) d_LR_passRevocations_1 c_iconst_2 ?_
  refine wp_callV (as := [.inl (nI 2)]) (rest := []) (Q' := fun r h' => WP l E M_LR_passRevocations 5 [(0, .inr 5)] (rpush r []) h' Q) d_LR_passRevocations_2 vb_LR_passRevocations_92 ⟨gw_2_112, sw_12⟩ rfl rfl rfl rfl (Nat.le_of_ble_eq_true rfl) rfl (Nat.le_of_ble_eq_true rfl) ?_ (fun r h' z => z)
  exact e1
set_option maxRecDepth 100000 in
set_option maxHeartbeats 4000000 in
theorem k_LR_passRevocations_5 {l : Launch} {E : xE} {v0 : Int32} {h : xh} {Q : Option Int32 → xh → Prop}
    (o1 : v0 ≠ 0 → vp_in (((h 5 10) * (nI 4)) + (nI 3)) 96)
    (e1 : v0 ≠ 0 → MC l E M_LR_passSector [.inr 5] h (fun r h' => WP l E M_LR_passRevocations 24 [(0, .inr 5), (1, .inl (h 17 ((((h 5 10) * (nI 4)) + (nI 3)).toNatClampNeg)))] (rpush r []) h' Q))
    (e2 : v0 = 0 → Q (some (nI 0)) h) : WP l E M_LR_passRevocations 5 [(0, .inr 5)] [.inl (v0)] h Q := by
  refine wp_if_ne (tgt := 10) d_LR_passRevocations_5 (by decide) (fun c1 => ?_) (fun c1 => ?_)
  · refine wp_aload_n d_LR_passRevocations_10 rfl ?_
    refine wp_aload_n d_LR_passRevocations_11 rfl ?_
    refine wp_getI d_LR_passRevocations_12 fl_LR_44 rfl rfl ?_
    refine wp_iconst (v := nI 3) d_LR_passRevocations_15 c_iconst_3 ?_
    refine wp_callV (as := [.inl (h 5 10), .inl (nI 3)]) (rest := []) (Q' := fun r h' => WP l E M_LR_passRevocations 19 [(0, .inr 5)] (rpush r []) h' _) d_LR_passRevocations_16 vb_LR_passRevocations_54 ⟨gw_2_116, sw_13⟩ rfl rfl rfl rfl (Nat.le_of_ble_eq_true rfl) rfl (Nat.le_of_ble_eq_true rfl) ?_ (fun r h' z => z)
    show WP l E M_LR_wordAt 0 [(0, .inr 5), (1, .inl (h 5 10)), (2, .inl (nI 3))] [] h _
    refine wp_aload_n d_LR_wordAt_0 rfl ?_
    refine wp_getR d_LR_wordAt_1 fl_LR_9 rfl rfl ?_
    refine wp_iload_n d_LR_wordAt_4 rfl ?_
    refine wp_iconst (v := nI 4) d_LR_wordAt_5 c_iconst_4 ?_
    refine wp_imul d_LR_wordAt_6 ?_
    refine wp_iload_n d_LR_wordAt_7 rfl ?_
    refine wp_iadd d_LR_wordAt_8 ?_
    refine wp_iaload d_LR_wordAt_9 rfl (o1 c1) ?_
    refine wp_ireturn d_LR_wordAt_10 rfl ?_
    show WP l E M_LR_passRevocations 19 [(0, .inr 5)] [.inl (h 17 ((((h 5 10) * (nI 4)) + (nI 3)).toNatClampNeg))] h _
    refine wp_istore_n (ls' := [(0, .inr 5), (1, .inl (h 17 ((((h 5 10) * (nI 4)) + (nI 3)).toNatClampNeg)))]) d_LR_passRevocations_19 (by decide) rfl ?_
    refine wp_aload_n d_LR_passRevocations_20 rfl ?_
    refine wp_callV (as := []) (rest := []) (Q' := fun r h' => WP l E M_LR_passRevocations 24 [(0, .inr 5), (1, .inl (h 17 ((((h 5 10) * (nI 4)) + (nI 3)).toNatClampNeg)))] (rpush r []) h' Q) d_LR_passRevocations_21 vb_LR_passRevocations_95 ⟨gw_2_120, sw_14⟩ rfl rfl rfl rfl (Nat.le_of_ble_eq_true rfl) rfl (Nat.le_of_ble_eq_true rfl) ?_ (fun r h' z => z)
    exact e1 c1
  · refine wp_iconst (v := nI 0) d_LR_passRevocations_8 c_iconst_0 ?_
    refine wp_ireturn d_LR_passRevocations_9 rfl ?_
    exact e2 c1
set_option maxRecDepth 100000 in
set_option maxHeartbeats 4000000 in
theorem k_LR_passRevocations_24 {l : Launch} {E : xE} {x1 : Int32} {h : xh} {Q : Option Int32 → xh → Prop}
    (e1 : Q (some (x1)) h) : WP l E M_LR_passRevocations 24 [(0, .inr 5), (1, .inl (x1))] [] h Q := by
  refine wp_iload_n d_LR_passRevocations_24 rfl ?_
  refine wp_ireturn d_LR_passRevocations_25 rfl ?_
  exact e1
set_option maxRecDepth 100000 in
set_option maxHeartbeats 4000000 in
theorem k_LR_noteImage_0 {l : Launch} {E : xE} {x1 x2 : Int32} {h : xh} {Q : Option Int32 → xh → Prop}
    (o1 : (h 5 12) < (nI 24) → vp_in (h 5 12) 24)
    (o2 : (h 5 12) < (nI 24) → vp_in (h 5 12) 24)
    (o3 : (h 5 12) < (nI 24) → ((x1) &&& (nI 16)) = 0 → vp_in (h 5 12) 24)
    (o4 : (h 5 12) < (nI 24) → ((x1) &&& (nI 16)) = 0 → vp_in (h 5 12) 24)
    (e1 : (h 5 12) < (nI 24) → ((x1) &&& (nI 16)) = 0 → Q none (hw (hw (hw (hw (hw h 18 ((h 5 12).toNatClampNeg) (h 5 10)) 19 ((h 5 12).toNatClampNeg) ((x1) &&& (nI 15))) 20 ((h 5 12).toNatClampNeg) (nI 0)) 21 ((h 5 12).toNatClampNeg) (x2)) 5 12 ((h 5 12) + (nI 1))))
    (o5 : (h 5 12) < (nI 24) → ¬ ((x1) &&& (nI 16)) = 0 → vp_in (h 5 12) 24)
    (o6 : (h 5 12) < (nI 24) → ¬ ((x1) &&& (nI 16)) = 0 → vp_in (h 5 12) 24)
    (e2 : (h 5 12) < (nI 24) → ¬ ((x1) &&& (nI 16)) = 0 → Q none (hw (hw (hw (hw (hw h 18 ((h 5 12).toNatClampNeg) (h 5 10)) 19 ((h 5 12).toNatClampNeg) ((x1) &&& (nI 15))) 20 ((h 5 12).toNatClampNeg) (nI 1)) 21 ((h 5 12).toNatClampNeg) (x2)) 5 12 ((h 5 12) + (nI 1))))
    (e3 : ¬ (h 5 12) < (nI 24) → Q none h) : MC l E M_LR_noteImage [.inr 5, .inl (x1), .inl (x2)] h Q := by
  refine wp_aload_n d_LR_noteImage_0 rfl ?_
  refine wp_getI d_LR_noteImage_1 fl_LR_50 rfl rfl ?_
  refine wp_bipush (v := nI 24) d_LR_noteImage_4 c_bipush_24 ?_
  refine wp_ic_lt (tgt := 10) d_LR_noteImage_6 (by decide) (fun c1 => ?_) (fun c1 => ?_)
  · refine wp_aload_n d_LR_noteImage_10 rfl ?_
    refine wp_getR d_LR_noteImage_11 fl_LR_15 rfl rfl ?_
    refine wp_aload_n d_LR_noteImage_14 rfl ?_
    refine wp_getI d_LR_noteImage_15 fl_LR_50 rfl rfl ?_
    refine wp_aload_n d_LR_noteImage_18 rfl ?_
    refine wp_getI d_LR_noteImage_19 fl_LR_44 rfl rfl ?_
    refine wp_iastore d_LR_noteImage_22 rfl (o1 c1) ?_
    refine wp_aload_n d_LR_noteImage_23 rfl ?_
    refine wp_getR d_LR_noteImage_24 fl_LR_18 rfl rfl ?_
    refine wp_aload_n d_LR_noteImage_27 rfl ?_
    refine wp_getI d_LR_noteImage_28 fl_LR_50 rfl rfl ?_
    show WP l E M_LR_noteImage 31 [(0, .inr 5), (1, .inl (x1)), (2, .inl (x2))] [.inl (h 5 12), .inr 19] (hw h 18 ((h 5 12).toNatClampNeg) (h 5 10)) _
    refine wp_iload_n d_LR_noteImage_31 rfl ?_
    refine wp_bipush (v := nI 15) d_LR_noteImage_32 c_bipush_15 ?_
    refine wp_iand d_LR_noteImage_34 ?_
    refine wp_iastore d_LR_noteImage_35 rfl (o2 c1) ?_
    refine wp_aload_n d_LR_noteImage_36 rfl ?_
    refine wp_getR d_LR_noteImage_37 fl_LR_21 rfl rfl ?_
    refine wp_aload_n d_LR_noteImage_40 rfl ?_
    refine wp_getI d_LR_noteImage_41 fl_LR_50 rfl rfl ?_
    show WP l E M_LR_noteImage 44 [(0, .inr 5), (1, .inl (x1)), (2, .inl (x2))] [.inl (h 5 12), .inr 20] (hw (hw h 18 ((h 5 12).toNatClampNeg) (h 5 10)) 19 ((h 5 12).toNatClampNeg) ((x1) &&& (nI 15))) _
    refine wp_iload_n d_LR_noteImage_44 rfl ?_
    refine wp_bipush (v := nI 16) d_LR_noteImage_45 c_bipush_16 ?_
    refine wp_iand d_LR_noteImage_47 ?_
    refine wp_if_eq (tgt := 55) d_LR_noteImage_48 (by decide) (fun c2 => ?_) (fun c2 => ?_)
    · refine wp_iconst (v := nI 0) d_LR_noteImage_55 c_iconst_0 ?_
      refine wp_bastore d_LR_noteImage_56 rfl (o3 c1 c2) (nar01 (by decide)) ?_
      refine wp_aload_n d_LR_noteImage_57 rfl ?_
      refine wp_getR d_LR_noteImage_58 fl_LR_25 rfl rfl ?_
      refine wp_aload_n d_LR_noteImage_61 rfl ?_
      refine wp_getI d_LR_noteImage_62 fl_LR_50 rfl rfl ?_
      show WP l E M_LR_noteImage 65 [(0, .inr 5), (1, .inl (x1)), (2, .inl (x2))] [.inl (h 5 12), .inr 21] (hw (hw (hw h 18 ((h 5 12).toNatClampNeg) (h 5 10)) 19 ((h 5 12).toNatClampNeg) ((x1) &&& (nI 15))) 20 ((h 5 12).toNatClampNeg) (nI 0)) _
      refine wp_iload_n d_LR_noteImage_65 rfl ?_
      refine wp_iastore d_LR_noteImage_66 rfl (o4 c1 c2) ?_
      refine wp_aload_n d_LR_noteImage_67 rfl ?_
      refine wp_dup d_LR_noteImage_68 ?_
      refine wp_getI d_LR_noteImage_69 fl_LR_50 rfl rfl ?_
      show WP l E M_LR_noteImage 72 [(0, .inr 5), (1, .inl (x1)), (2, .inl (x2))] [.inl (h 5 12), .inr 5] (hw (hw (hw (hw h 18 ((h 5 12).toNatClampNeg) (h 5 10)) 19 ((h 5 12).toNatClampNeg) ((x1) &&& (nI 15))) 20 ((h 5 12).toNatClampNeg) (nI 0)) 21 ((h 5 12).toNatClampNeg) (x2)) _
      refine wp_iconst (v := nI 1) d_LR_noteImage_72 c_iconst_1 ?_
      refine wp_iadd d_LR_noteImage_73 ?_
      refine wp_putI d_LR_noteImage_74 fm_LR_50 rfl rfl ?_
      refine wp_return d_LR_noteImage_77 rfl ?_
      exact e1 c1 c2
    · refine wp_iconst (v := nI 1) d_LR_noteImage_51 c_iconst_1 ?_
      refine wp_goto (tgt := 56) d_LR_noteImage_52 (by decide) ?_
      refine wp_bastore d_LR_noteImage_56 rfl (o5 c1 c2) (nar01 (by decide)) ?_
      refine wp_aload_n d_LR_noteImage_57 rfl ?_
      refine wp_getR d_LR_noteImage_58 fl_LR_25 rfl rfl ?_
      refine wp_aload_n d_LR_noteImage_61 rfl ?_
      refine wp_getI d_LR_noteImage_62 fl_LR_50 rfl rfl ?_
      show WP l E M_LR_noteImage 65 [(0, .inr 5), (1, .inl (x1)), (2, .inl (x2))] [.inl (h 5 12), .inr 21] (hw (hw (hw h 18 ((h 5 12).toNatClampNeg) (h 5 10)) 19 ((h 5 12).toNatClampNeg) ((x1) &&& (nI 15))) 20 ((h 5 12).toNatClampNeg) (nI 1)) _
      refine wp_iload_n d_LR_noteImage_65 rfl ?_
      refine wp_iastore d_LR_noteImage_66 rfl (o6 c1 c2) ?_
      refine wp_aload_n d_LR_noteImage_67 rfl ?_
      refine wp_dup d_LR_noteImage_68 ?_
      refine wp_getI d_LR_noteImage_69 fl_LR_50 rfl rfl ?_
      show WP l E M_LR_noteImage 72 [(0, .inr 5), (1, .inl (x1)), (2, .inl (x2))] [.inl (h 5 12), .inr 5] (hw (hw (hw (hw h 18 ((h 5 12).toNatClampNeg) (h 5 10)) 19 ((h 5 12).toNatClampNeg) ((x1) &&& (nI 15))) 20 ((h 5 12).toNatClampNeg) (nI 1)) 21 ((h 5 12).toNatClampNeg) (x2)) _
      refine wp_iconst (v := nI 1) d_LR_noteImage_72 c_iconst_1 ?_
      refine wp_iadd d_LR_noteImage_73 ?_
      refine wp_putI d_LR_noteImage_74 fm_LR_50 rfl rfl ?_
      refine wp_return d_LR_noteImage_77 rfl ?_
      exact e2 c1 c2
  · refine wp_return d_LR_noteImage_9 rfl ?_
    exact e3 c1
set_option maxRecDepth 100000 in
set_option maxHeartbeats 4000000 in
theorem k_LR_isOwn_0 {l : Launch} {E : xE} {x1 : Int32} {h : xh} {Q : Option Int32 → xh → Prop}
    (e1 : (nI 24) ≤ (h 5 10) → Q (some (nI 0)) h)
    (o1 : ¬ (nI 24) ≤ (h 5 10) → vp_in (((h 5 10) * (nI 4)) + (nI 0)) 96)
    (e2 : ¬ (nI 24) ≤ (h 5 10) → (h 17 ((((h 5 10) * (nI 4)) + (nI 0)).toNatClampNeg)) ≠ (nI 77001) → Q (some (nI 0)) h)
    (o2 : ¬ (nI 24) ≤ (h 5 10) → (h 17 ((((h 5 10) * (nI 4)) + (nI 0)).toNatClampNeg)) = (nI 77001) → vp_in (((h 5 10) * (nI 4)) + (nI 1)) 96)
    (e3 : ¬ (nI 24) ≤ (h 5 10) → (h 17 ((((h 5 10) * (nI 4)) + (nI 0)).toNatClampNeg)) = (nI 77001) → (h 17 ((((h 5 10) * (nI 4)) + (nI 1)).toNatClampNeg)) ≠ x1 → Q (some (nI 0)) h)
    (o3 : ¬ (nI 24) ≤ (h 5 10) → (h 17 ((((h 5 10) * (nI 4)) + (nI 0)).toNatClampNeg)) = (nI 77001) → (h 17 ((((h 5 10) * (nI 4)) + (nI 1)).toNatClampNeg)) = x1 → vp_in (((h 5 10) * (nI 4)) + (nI 2)) 96)
    (e4 : ¬ (nI 24) ≤ (h 5 10) → (h 17 ((((h 5 10) * (nI 4)) + (nI 0)).toNatClampNeg)) = (nI 77001) → (h 17 ((((h 5 10) * (nI 4)) + (nI 1)).toNatClampNeg)) = x1 → (h 17 ((((h 5 10) * (nI 4)) + (nI 2)).toNatClampNeg)) ≠ (h 5 7) → Q (some (nI 0)) h)
    (e5 : ¬ (nI 24) ≤ (h 5 10) → (h 17 ((((h 5 10) * (nI 4)) + (nI 0)).toNatClampNeg)) = (nI 77001) → (h 17 ((((h 5 10) * (nI 4)) + (nI 1)).toNatClampNeg)) = x1 → (h 17 ((((h 5 10) * (nI 4)) + (nI 2)).toNatClampNeg)) = (h 5 7) → Q (some (nI 1)) h) : MC l E M_LR_isOwn [.inr 5, .inl (x1)] h Q := by
  refine wp_aload_n d_LR_isOwn_0 rfl ?_
  refine wp_getI d_LR_isOwn_1 fl_LR_44 rfl rfl ?_
  refine wp_bipush (v := nI 24) d_LR_isOwn_4 c_bipush_24 ?_
  refine wp_ic_ge (tgt := 56) d_LR_isOwn_6 (by decide) (fun c1 => ?_) (fun c1 => ?_)
  · refine wp_iconst (v := nI 0) d_LR_isOwn_56 c_iconst_0 ?_
    refine wp_zreturn d_LR_isOwn_57 rfl (by decide) ?_
    exact e1 c1
  · refine wp_aload_n d_LR_isOwn_9 rfl ?_
    refine wp_aload_n d_LR_isOwn_10 rfl ?_
    refine wp_getI d_LR_isOwn_11 fl_LR_44 rfl rfl ?_
    refine wp_iconst (v := nI 0) d_LR_isOwn_14 c_iconst_0 ?_
    refine wp_callV (as := [.inl (h 5 10), .inl (nI 0)]) (rest := []) (Q' := fun r h' => WP l E M_LR_isOwn 18 [(0, .inr 5), (1, .inl (x1))] (rpush r []) h' _) d_LR_isOwn_15 vb_LR_isOwn_54 ⟨gw_2_116, sw_13⟩ rfl rfl rfl rfl (Nat.le_of_ble_eq_true rfl) rfl (Nat.le_of_ble_eq_true rfl) ?_ (fun r h' z => z)
    show WP l E M_LR_wordAt 0 [(0, .inr 5), (1, .inl (h 5 10)), (2, .inl (nI 0))] [] h _
    refine wp_aload_n d_LR_wordAt_0 rfl ?_
    refine wp_getR d_LR_wordAt_1 fl_LR_9 rfl rfl ?_
    refine wp_iload_n d_LR_wordAt_4 rfl ?_
    refine wp_iconst (v := nI 4) d_LR_wordAt_5 c_iconst_4 ?_
    refine wp_imul d_LR_wordAt_6 ?_
    refine wp_iload_n d_LR_wordAt_7 rfl ?_
    refine wp_iadd d_LR_wordAt_8 ?_
    refine wp_iaload d_LR_wordAt_9 rfl (o1 c1) ?_
    refine wp_ireturn d_LR_wordAt_10 rfl ?_
    show WP l E M_LR_isOwn 18 [(0, .inr 5), (1, .inl (x1))] [.inl (h 17 ((((h 5 10) * (nI 4)) + (nI 0)).toNatClampNeg))] h _
    refine wp_ldcN d_LR_isOwn_18 gw_2_93 c_lit_77001 ?_
    refine wp_ic_ne (tgt := 56) d_LR_isOwn_20 (by decide) (fun c2 => ?_) (fun c2 => ?_)
    · refine wp_iconst (v := nI 0) d_LR_isOwn_56 c_iconst_0 ?_
      refine wp_zreturn d_LR_isOwn_57 rfl (by decide) ?_
      exact e2 c1 c2
    · refine wp_aload_n d_LR_isOwn_23 rfl ?_
      refine wp_aload_n d_LR_isOwn_24 rfl ?_
      refine wp_getI d_LR_isOwn_25 fl_LR_44 rfl rfl ?_
      refine wp_iconst (v := nI 1) d_LR_isOwn_28 c_iconst_1 ?_
      refine wp_callV (as := [.inl (h 5 10), .inl (nI 1)]) (rest := []) (Q' := fun r h' => WP l E M_LR_isOwn 32 [(0, .inr 5), (1, .inl (x1))] (rpush r []) h' _) d_LR_isOwn_29 vb_LR_isOwn_54 ⟨gw_2_116, sw_13⟩ rfl rfl rfl rfl (Nat.le_of_ble_eq_true rfl) rfl (Nat.le_of_ble_eq_true rfl) ?_ (fun r h' z => z)
      show WP l E M_LR_wordAt 0 [(0, .inr 5), (1, .inl (h 5 10)), (2, .inl (nI 1))] [] h _
      refine wp_aload_n d_LR_wordAt_0 rfl ?_
      refine wp_getR d_LR_wordAt_1 fl_LR_9 rfl rfl ?_
      refine wp_iload_n d_LR_wordAt_4 rfl ?_
      refine wp_iconst (v := nI 4) d_LR_wordAt_5 c_iconst_4 ?_
      refine wp_imul d_LR_wordAt_6 ?_
      refine wp_iload_n d_LR_wordAt_7 rfl ?_
      refine wp_iadd d_LR_wordAt_8 ?_
      refine wp_iaload d_LR_wordAt_9 rfl (o2 c1 c2) ?_
      refine wp_ireturn d_LR_wordAt_10 rfl ?_
      show WP l E M_LR_isOwn 32 [(0, .inr 5), (1, .inl (x1))] [.inl (h 17 ((((h 5 10) * (nI 4)) + (nI 1)).toNatClampNeg))] h _
      refine wp_iload_n d_LR_isOwn_32 rfl ?_
      refine wp_ic_ne (tgt := 56) d_LR_isOwn_33 (by decide) (fun c3 => ?_) (fun c3 => ?_)
      · refine wp_iconst (v := nI 0) d_LR_isOwn_56 c_iconst_0 ?_
        refine wp_zreturn d_LR_isOwn_57 rfl (by decide) ?_
        exact e3 c1 c2 c3
      · refine wp_aload_n d_LR_isOwn_36 rfl ?_
        refine wp_aload_n d_LR_isOwn_37 rfl ?_
        refine wp_getI d_LR_isOwn_38 fl_LR_44 rfl rfl ?_
        refine wp_iconst (v := nI 2) d_LR_isOwn_41 c_iconst_2 ?_
        refine wp_callV (as := [.inl (h 5 10), .inl (nI 2)]) (rest := []) (Q' := fun r h' => WP l E M_LR_isOwn 45 [(0, .inr 5), (1, .inl (x1))] (rpush r []) h' _) d_LR_isOwn_42 vb_LR_isOwn_54 ⟨gw_2_116, sw_13⟩ rfl rfl rfl rfl (Nat.le_of_ble_eq_true rfl) rfl (Nat.le_of_ble_eq_true rfl) ?_ (fun r h' z => z)
        show WP l E M_LR_wordAt 0 [(0, .inr 5), (1, .inl (h 5 10)), (2, .inl (nI 2))] [] h _
        refine wp_aload_n d_LR_wordAt_0 rfl ?_
        refine wp_getR d_LR_wordAt_1 fl_LR_9 rfl rfl ?_
        refine wp_iload_n d_LR_wordAt_4 rfl ?_
        refine wp_iconst (v := nI 4) d_LR_wordAt_5 c_iconst_4 ?_
        refine wp_imul d_LR_wordAt_6 ?_
        refine wp_iload_n d_LR_wordAt_7 rfl ?_
        refine wp_iadd d_LR_wordAt_8 ?_
        refine wp_iaload d_LR_wordAt_9 rfl (o3 c1 c2 c3) ?_
        refine wp_ireturn d_LR_wordAt_10 rfl ?_
        show WP l E M_LR_isOwn 45 [(0, .inr 5), (1, .inl (x1))] [.inl (h 17 ((((h 5 10) * (nI 4)) + (nI 2)).toNatClampNeg))] h _
        refine wp_aload_n d_LR_isOwn_45 rfl ?_
        refine wp_getI d_LR_isOwn_46 fl_LR_35 rfl rfl ?_
        refine wp_ic_ne (tgt := 56) d_LR_isOwn_49 (by decide) (fun c4 => ?_) (fun c4 => ?_)
        · refine wp_iconst (v := nI 0) d_LR_isOwn_56 c_iconst_0 ?_
          refine wp_zreturn d_LR_isOwn_57 rfl (by decide) ?_
          exact e4 c1 c2 c3 c4
        · refine wp_iconst (v := nI 1) d_LR_isOwn_52 c_iconst_1 ?_
          refine wp_goto (tgt := 57) d_LR_isOwn_53 (by decide) ?_
          refine wp_zreturn d_LR_isOwn_57 rfl (by decide) ?_
          exact e5 c1 c2 c3 c4
set_option maxRecDepth 100000 in
set_option maxHeartbeats 4000000 in
theorem k_LR_passSector_0 {l : Launch} {E : xE} {h : xh} {Q : Option Int32 → xh → Prop}
    (e1 : WP l E M_LR_passSector 2 [(0, .inr 5), (1, .inl (nI 0))] [] h Q) : MC l E M_LR_passSector [.inr 5] h Q := by
  refine wp_iconst (v := nI 0) d_LR_passSector_0 c_iconst_0 ?_
  refine wp_istore_n (ls' := [(0, .inr 5), (1, .inl (nI 0))]) d_LR_passSector_1 (by decide) rfl ?_
  exact e1
set_option maxRecDepth 100000 in
set_option maxHeartbeats 4000000 in
theorem k_LR_passSector_2 {l : Launch} {E : xE} {x1 : Int32} {h : xh} {Q : Option Int32 → xh → Prop}
    (e1 : (nI 4) ≤ x1 → Q none (hw h 5 10 ((h 5 10) + (nI 1))))
    (o1 : ¬ (nI 4) ≤ x1 → vp_in (((h 5 10) * (nI 4)) + (x1)) 96)
    (e2 : ¬ (nI 4) ≤ x1 → WP l E M_LR_passSector 2 [(0, .inr 5), (1, .inl (x1 + nI 1))] [] (hw h 5 11 (((((h 5 11) ^^^ (h 17 ((((h 5 10) * (nI 4)) + (x1)).toNatClampNeg))) * (nI 40503)) + (nI 7)) ^^^ (ushr ((((h 5 11) ^^^ (h 17 ((((h 5 10) * (nI 4)) + (x1)).toNatClampNeg))) * (nI 40503)) + (nI 7)) (nI 15)))) Q) : WP l E M_LR_passSector 2 [(0, .inr 5), (1, .inl (x1))] [] h Q := by
  refine wp_iload_n d_LR_passSector_2 rfl ?_
  refine wp_iconst (v := nI 4) d_LR_passSector_3 c_iconst_4 ?_
  refine wp_ic_ge (tgt := 33) d_LR_passSector_4 (by decide) (fun c1 => ?_) (fun c1 => ?_)
  · refine wp_aload_n d_LR_passSector_33 rfl ?_
    refine wp_dup d_LR_passSector_34 ?_
    refine wp_getI d_LR_passSector_35 fl_LR_44 rfl rfl ?_
    refine wp_iconst (v := nI 1) d_LR_passSector_38 c_iconst_1 ?_
    refine wp_iadd d_LR_passSector_39 ?_
    refine wp_putI d_LR_passSector_40 fm_LR_44 rfl rfl ?_
    refine wp_return d_LR_passSector_43 rfl ?_
    exact e1 c1
  · refine wp_aload_n d_LR_passSector_7 rfl ?_
    refine wp_aload_n d_LR_passSector_8 rfl ?_
    refine wp_getI d_LR_passSector_9 fl_LR_47 rfl rfl ?_
    refine wp_aload_n d_LR_passSector_12 rfl ?_
    refine wp_aload_n d_LR_passSector_13 rfl ?_
    refine wp_getI d_LR_passSector_14 fl_LR_44 rfl rfl ?_
    refine wp_iload_n d_LR_passSector_17 rfl ?_
    refine wp_callV (as := [.inl (h 5 10), .inl (x1)]) (rest := [.inl (h 5 11), .inr 5]) (Q' := fun r h' => WP l E M_LR_passSector 21 [(0, .inr 5), (1, .inl (x1))] (rpush r [.inl (h 5 11), .inr 5]) h' _) d_LR_passSector_18 vb_LR_passSector_54 ⟨gw_2_116, sw_13⟩ rfl rfl rfl rfl (Nat.le_of_ble_eq_true rfl) rfl (Nat.le_of_ble_eq_true rfl) ?_ (fun r h' z => z)
    show WP l E M_LR_wordAt 0 [(0, .inr 5), (1, .inl (h 5 10)), (2, .inl (x1))] [] h _
    refine wp_aload_n d_LR_wordAt_0 rfl ?_
    refine wp_getR d_LR_wordAt_1 fl_LR_9 rfl rfl ?_
    refine wp_iload_n d_LR_wordAt_4 rfl ?_
    refine wp_iconst (v := nI 4) d_LR_wordAt_5 c_iconst_4 ?_
    refine wp_imul d_LR_wordAt_6 ?_
    refine wp_iload_n d_LR_wordAt_7 rfl ?_
    refine wp_iadd d_LR_wordAt_8 ?_
    refine wp_iaload d_LR_wordAt_9 rfl (o1 c1) ?_
    refine wp_ireturn d_LR_wordAt_10 rfl ?_
    show WP l E M_LR_passSector 21 [(0, .inr 5), (1, .inl (x1))] [.inl (h 17 ((((h 5 10) * (nI 4)) + (x1)).toNatClampNeg)), .inl (h 5 11), .inr 5] h _
    refine wp_callS (as := [.inl (h 5 11), .inl (h 17 ((((h 5 10) * (nI 4)) + (x1)).toNatClampNeg))]) (rest := [.inr 5]) (Q' := fun r h' => WP l E M_LR_passSector 24 [(0, .inr 5), (1, .inl (x1))] (rpush r [.inr 5]) h' _) d_LR_passSector_21 vb_LR_passSector_102 gw_2_41 rfl (Nat.le_of_ble_eq_true rfl) rfl (Nat.le_of_ble_eq_true rfl) ?_ (fun r h' z => z)
    show WP l E M_RS_mix 0 [(0, .inl (h 5 11)), (1, .inl (h 17 ((((h 5 10) * (nI 4)) + (x1)).toNatClampNeg)))] [] h _
    refine wp_iload_n d_RS_mix_0 rfl ?_
    refine wp_iload_n d_RS_mix_1 rfl ?_
    refine wp_ixor d_RS_mix_2 ?_
    refine wp_ldcN d_RS_mix_3 gw_2_43 c_lit_40503 ?_
    refine wp_imul d_RS_mix_5 ?_
    refine wp_bipush (v := nI 7) d_RS_mix_6 c_bipush_7 ?_
    refine wp_iadd d_RS_mix_8 ?_
    refine wp_istore_n (ls' := [(0, .inl (h 5 11)), (1, .inl (h 17 ((((h 5 10) * (nI 4)) + (x1)).toNatClampNeg))), (2, .inl ((((h 5 11) ^^^ (h 17 ((((h 5 10) * (nI 4)) + (x1)).toNatClampNeg))) * (nI 40503)) + (nI 7)))]) d_RS_mix_9 (by decide) rfl ?_
    refine wp_iload_n d_RS_mix_10 rfl ?_
    refine wp_iload_n d_RS_mix_11 rfl ?_
    refine wp_bipush (v := nI 15) d_RS_mix_12 c_bipush_15 ?_
    refine wp_iushr d_RS_mix_14 ?_
    refine wp_ixor d_RS_mix_15 ?_
    refine wp_ireturn d_RS_mix_16 rfl ?_
    show WP l E M_LR_passSector 24 [(0, .inr 5), (1, .inl (x1))] [.inl (((((h 5 11) ^^^ (h 17 ((((h 5 10) * (nI 4)) + (x1)).toNatClampNeg))) * (nI 40503)) + (nI 7)) ^^^ (ushr ((((h 5 11) ^^^ (h 17 ((((h 5 10) * (nI 4)) + (x1)).toNatClampNeg))) * (nI 40503)) + (nI 7)) (nI 15))), .inr 5] h _
    refine wp_putI d_LR_passSector_24 fm_LR_47 rfl rfl ?_
    refine wp_iinc (v := x1 + nI 1) (ls' := [(0, .inr 5), (1, .inl (x1 + nI 1))]) d_LR_passSector_27 rfl (c_inc_1 _) (by decide) rfl ?_
    refine wp_goto (tgt := 2) d_LR_passSector_30 (by decide) ?_
    exact e2 c1
