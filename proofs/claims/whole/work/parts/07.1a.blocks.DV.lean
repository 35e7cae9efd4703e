set_option maxRecDepth 100000 in
set_option maxHeartbeats 4000000 in
theorem k_DV_newestWord_0 {l : Launch} {E : xE} {x1 x2 : Int32} {h : xh} {Q : Option Int32 → xh → Prop}
    (e1 : WP l E M_DV_newestWord 7 [(0, .inr 1), (1, .inl (x1)), (2, .inl (x2)), (3, .inl ((h 1 3) - (nI 1)))] [] h Q) : MC l E M_DV_newestWord [.inr 1, .inl (x1), .inl (x2)] h Q := by
  refine wp_aload_n d_DV_newestWord_0 rfl ?_
  refine wp_getI d_DV_newestWord_1 fl_DV_21 rfl rfl ?_
  refine wp_iconst (v := nI 1) d_DV_newestWord_4 c_iconst_1 ?_
  refine wp_isub d_DV_newestWord_5 ?_
  refine wp_istore_n (ls' := [(0, .inr 1), (1, .inl (x1)), (2, .inl (x2)), (3, .inl ((h 1 3) - (nI 1)))]) d_DV_newestWord_6 (by decide) rfl ?_
  exact e1
set_option maxRecDepth 100000 in
set_option maxHeartbeats 4000000 in
theorem k_DV_newestWord_7 {l : Launch} {E : xE} {x1 x2 x3 : Int32} {h : xh} {Q : Option Int32 → xh → Prop}
    (o1 : x3 < 0 → vp_in (((x1) * (nI 4)) + (x2)) 164)
    (e1 : x3 < 0 → Q (some (h 8 ((((x1) * (nI 4)) + (x2)).toNatClampNeg))) h)
    (o2 : ¬ x3 < 0 → vp_in (x3) 28)
    (e2 : ¬ x3 < 0 → (h 9 ((x3).toNatClampNeg)) ≠ x1 → WP l E M_DV_newestWord 7 [(0, .inr 1), (1, .inl (x1)), (2, .inl (x2)), (3, .inl (x3 - nI 1))] [] h Q)
    (o3 : ¬ x3 < 0 → (h 9 ((x3).toNatClampNeg)) = x1 → vp_in (((x3) * (nI 4)) + (x2)) 112)
    (e3 : ¬ x3 < 0 → (h 9 ((x3).toNatClampNeg)) = x1 → Q (some (h 10 ((((x3) * (nI 4)) + (x2)).toNatClampNeg))) h) : WP l E M_DV_newestWord 7 [(0, .inr 1), (1, .inl (x1)), (2, .inl (x2)), (3, .inl (x3))] [] h Q := by
  refine wp_iload_n d_DV_newestWord_7 rfl ?_
  refine wp_if_lt (tgt := 38) d_DV_newestWord_8 (by decide) (fun c1 => ?_) (fun c1 => ?_)
  · refine wp_aload_n d_DV_newestWord_38 rfl ?_
    refine wp_iload_n d_DV_newestWord_39 rfl ?_
    refine wp_iload_n d_DV_newestWord_40 rfl ?_
    refine wp_callV (as := [.inl (x1), .inl (x2)]) (rest := []) (Q' := fun r h' => WP l E M_DV_newestWord 44 [(0, .inr 1), (1, .inl (x1)), (2, .inl (x2)), (3, .inl (x3))] (rpush r []) h' _) d_DV_newestWord_41 vb_DV_newestWord_26 ⟨gw_1_229, gw_1_230⟩ rfl rfl rfl rfl (Nat.le_of_ble_eq_true rfl) rfl (Nat.le_of_ble_eq_true rfl) ?_ (fun r h' z => z)
    show WP l E M_DV_ownWord 0 [(0, .inr 1), (1, .inl (x1)), (2, .inl (x2))] [] h _
    refine wp_aload_n d_DV_ownWord_0 rfl ?_
    refine wp_getR d_DV_ownWord_1 fl_DV_9 rfl rfl ?_
    refine wp_iload_n d_DV_ownWord_4 rfl ?_
    refine wp_iconst (v := nI 4) d_DV_ownWord_5 c_iconst_4 ?_
    refine wp_imul d_DV_ownWord_6 ?_
    refine wp_iload_n d_DV_ownWord_7 rfl ?_
    refine wp_iadd d_DV_ownWord_8 ?_
    refine wp_iaload d_DV_ownWord_9 rfl (o1 c1) ?_
    refine wp_ireturn d_DV_ownWord_10 rfl ?_
    show WP l E M_DV_newestWord 44 [(0, .inr 1), (1, .inl (x1)), (2, .inl (x2)), (3, .inl (x3))] [.inl (h 8 ((((x1) * (nI 4)) + (x2)).toNatClampNeg))] h _
    refine wp_ireturn d_DV_newestWord_44 rfl ?_
    exact e1 c1
  · refine wp_aload_n d_DV_newestWord_11 rfl ?_
    refine wp_getR d_DV_newestWord_12 fl_DV_15 rfl rfl ?_
    refine wp_iload_n d_DV_newestWord_15 rfl ?_
    refine wp_iaload d_DV_newestWord_16 rfl (o2 c1) ?_
    refine wp_iload_n d_DV_newestWord_17 rfl ?_
    refine wp_ic_ne (tgt := 32) d_DV_newestWord_18 (by decide) (fun c2 => ?_) (fun c2 => ?_)
    · refine wp_iinc (v := x3 - nI 1) (ls' := [(0, .inr 1), (1, .inl (x1)), (2, .inl (x2)), (3, .inl (x3 - nI 1))]) d_DV_newestWord_32 rfl (c_inc_m1 _) (by decide) rfl ?_
      refine wp_goto (tgt := 7) d_DV_newestWord_35 (by decide) ?_
      exact e2 c1 c2
    · refine wp_aload_n d_DV_newestWord_21 rfl ?_
      refine wp_getR d_DV_newestWord_22 fl_DV_18 rfl rfl ?_
      refine wp_iload_n d_DV_newestWord_25 rfl ?_
      refine wp_iconst (v := nI 4) d_DV_newestWord_26 c_iconst_4 ?_
      refine wp_imul d_DV_newestWord_27 ?_
      refine wp_iload_n d_DV_newestWord_28 rfl ?_
      refine wp_iadd d_DV_newestWord_29 ?_
      refine wp_iaload d_DV_newestWord_30 rfl (o3 c1 c2) ?_
      refine wp_ireturn d_DV_newestWord_31 rfl ?_
      exact e3 c1 c2
set_option maxRecDepth 100000 in
set_option maxHeartbeats 4000000 in
theorem k_DV_write_0 {l : Launch} {E : xE} {x1 x3 : Int32} {h : xh} {Q : Option Int32 → xh → Prop}
    (o1 : (h 1 3) < (nI 28) → ¬ x3 < 0)
    (o2 : (h 1 3) < (nI 28) → ¬ ((h 1 3) * (nI 4)) < 0)
    (o3 : (h 1 3) < (nI 28) → (x3).toNatClampNeg + (nI 4).toNatClampNeg ≤ 108)
    (o4 : (h 1 3) < (nI 28) → ((h 1 3) * (nI 4)).toNatClampNeg + (nI 4).toNatClampNeg ≤ 112)
    (o5 : (h 1 3) < (nI 28) → vp_in (h 1 3) 28)
    (e1 : (h 1 3) < (nI 28) → Q none (hw (hw (hc h 24 10 (x3) ((h 1 3) * (nI 4)) (nI 4)) 9 ((h 1 3).toNatClampNeg) (x1)) 1 3 ((h 1 3) + (nI 1))))
    (e2 : ¬ (h 1 3) < (nI 28) → Q none h) : MC l E M_DV_write [.inr 1, .inl (x1), .inr 24, .inl (x3)] h Q := by
  refine wp_aload_n d_DV_write_0 rfl ?_
  refine wp_getI d_DV_write_1 fl_DV_21 rfl rfl ?_
  refine wp_bipush (v := nI 28) d_DV_write_4 c_bipush_28 ?_
  refine wp_ic_lt (tgt := 10) d_DV_write_6 (by decide) (fun c1 => ?_) (fun c1 => ?_)
  · refine wp_aload_n d_DV_write_10 rfl ?_
    refine wp_iload_n d_DV_write_11 rfl ?_
    refine wp_aload_n d_DV_write_12 rfl ?_
    refine wp_getR d_DV_write_13 fl_DV_18 rfl rfl ?_
    refine wp_aload_n d_DV_write_16 rfl ?_
    refine wp_getI d_DV_write_17 fl_DV_21 rfl rfl ?_
    refine wp_iconst (v := nI 4) d_DV_write_20 c_iconst_4 ?_
    refine wp_imul d_DV_write_21 ?_
    refine wp_iconst (v := nI 4) d_DV_write_22 c_iconst_4 ?_
    refine wp_copy d_DV_write_23 gw_2_178 gw_2_180 gw_2_179 gw_1_10 rfl rfl (Nat.le_of_ble_eq_true rfl) (Nat.le_of_ble_eq_true rfl) (o1 c1) (o2 c1) (by decide +kernel) (o3 c1) (o4 c1) ?_
    refine wp_aload_n d_DV_write_26 rfl ?_
    refine wp_getR d_DV_write_27 fl_DV_15 rfl rfl ?_
    refine wp_aload_n d_DV_write_30 rfl ?_
    refine wp_getI d_DV_write_31 fl_DV_21 rfl rfl ?_
    show WP l E M_DV_write 34 [(0, .inr 1), (1, .inl (x1)), (2, .inr 24), (3, .inl (x3))] [.inl (h 1 3), .inr 9] (hc h 24 10 (x3) ((h 1 3) * (nI 4)) (nI 4)) _
    refine wp_iload_n d_DV_write_34 rfl ?_
    refine wp_iastore d_DV_write_35 rfl (o5 c1) ?_
    refine wp_aload_n d_DV_write_36 rfl ?_
    refine wp_dup d_DV_write_37 ?_
    refine wp_getI d_DV_write_38 fl_DV_21 rfl rfl ?_
    show WP l E M_DV_write 41 [(0, .inr 1), (1, .inl (x1)), (2, .inr 24), (3, .inl (x3))] [.inl (h 1 3), .inr 1] (hw (hc h 24 10 (x3) ((h 1 3) * (nI 4)) (nI 4)) 9 ((h 1 3).toNatClampNeg) (x1)) _
    refine wp_iconst (v := nI 1) d_DV_write_41 c_iconst_1 ?_
    refine wp_iadd d_DV_write_42 ?_
    refine wp_putI d_DV_write_43 fm_DV_21 rfl rfl ?_
    refine wp_return d_DV_write_46 rfl ?_
    exact e1 c1
  · refine wp_return d_DV_write_9 rfl ?_
    exact e2 c1
set_option maxRecDepth 100000 in
set_option maxHeartbeats 4000000 in
theorem k_DV_writeChanged_0 {l : Launch} {E : xE} {x1 x2 x3 : Int32} {h : xh} {Q : Option Int32 → xh → Prop}
    (e1 : (h 1 3) < (nI 28) → WP l E M_DV_writeChanged 21 [(0, .inr 1), (1, .inl (x1)), (2, .inl (x2)), (3, .inl (x3)), (4, .inl ((h 1 3) * (nI 4))), (5, .inl (nI 0))] [] h Q)
    (e2 : ¬ (h 1 3) < (nI 28) → Q none h) : MC l E M_DV_writeChanged [.inr 1, .inl (x1), .inl (x2), .inl (x3)] h Q := by
  refine wp_aload_n d_DV_writeChanged_0 rfl ?_
  refine wp_getI d_DV_writeChanged_1 fl_DV_21 rfl rfl ?_
  refine wp_bipush (v := nI 28) d_DV_writeChanged_4 c_bipush_28 ?_
  refine wp_ic_lt (tgt := 10) d_DV_writeChanged_6 (by decide) (fun c1 => ?_) (fun c1 => ?_)
  · refine wp_aload_n d_DV_writeChanged_10 rfl ?_
    refine wp_getI d_DV_writeChanged_11 fl_DV_21 rfl rfl ?_
    refine wp_iconst (v := nI 4) d_DV_writeChanged_14 c_iconst_4 ?_
    refine wp_imul d_DV_writeChanged_15 ?_
    refine wp_istore (ls' := [(0, .inr 1), (1, .inl (x1)), (2, .inl (x2)), (3, .inl (x3)), (4, .inl ((h 1 3) * (nI 4)))]) d_DV_writeChanged_16 (by decide) rfl ?_
    refine wp_iconst (v := nI 0) d_DV_writeChanged_18 c_iconst_0 ?_
    refine wp_istore (ls' := [(0, .inr 1), (1, .inl (x1)), (2, .inl (x2)), (3, .inl (x3)), (4, .inl ((h 1 3) * (nI 4))), (5, .inl (nI 0))]) d_DV_writeChanged_19 (by decide) rfl ?_
    exact e1 c1
  · refine wp_return d_DV_writeChanged_9 rfl ?_
    exact e2 c1
set_option maxRecDepth 100000 in
set_option maxHeartbeats 4000000 in
theorem k_DV_writeChanged_21 {l : Launch} {E : xE} {x1 x2 x3 x4 x5 : Int32} {h : xh} {Q : Option Int32 → xh → Prop}
    (o1 : (nI 4) ≤ x5 → vp_in (h 1 3) 28)
    (e1 : (nI 4) ≤ x5 → Q none (hw (hw h 9 ((h 1 3).toNatClampNeg) (x1)) 1 3 ((h 1 3) + (nI 1))))
    (e2 : ¬ (nI 4) ≤ x5 → x5 ≠ x2 → MC l E M_DV_newestWord [.inr 1, .inl (x1), .inl (x5)] h (fun r h' => WP l E M_DV_writeChanged 53 [(0, .inr 1), (1, .inl (x1)), (2, .inl (x2)), (3, .inl (x3)), (4, .inl (x4)), (5, .inl (x5))] (rpush r [.inl ((x4) + (x5)), .inr 10]) h' Q))
    (o2 : ¬ (nI 4) ≤ x5 → x5 = x2 → vp_in ((x4) + (x5)) 112)
    (e3 : ¬ (nI 4) ≤ x5 → x5 = x2 → WP l E M_DV_writeChanged 21 [(0, .inr 1), (1, .inl (x1)), (2, .inl (x2)), (3, .inl (x3)), (4, .inl (x4)), (5, .inl (x5 + nI 1))] [] (hw h 10 (((x4) + (x5)).toNatClampNeg) (x3)) Q) : WP l E M_DV_writeChanged 21 [(0, .inr 1), (1, .inl (x1)), (2, .inl (x2)), (3, .inl (x3)), (4, .inl (x4)), (5, .inl (x5))] [] h Q := by
  refine wp_iload d_DV_writeChanged_21 rfl ?_
  refine wp_iconst (v := nI 4) d_DV_writeChanged_23 c_iconst_4 ?_
  refine wp_ic_ge (tgt := 60) d_DV_writeChanged_24 (by decide) (fun c1 => ?_) (fun c1 => ?_)
  · refine wp_aload_n d_DV_writeChanged_60 rfl ?_
    refine wp_getR d_DV_writeChanged_61 fl_DV_15 rfl rfl ?_
    refine wp_aload_n d_DV_writeChanged_64 rfl ?_
    refine wp_getI d_DV_writeChanged_65 fl_DV_21 rfl rfl ?_
    refine wp_iload_n d_DV_writeChanged_68 rfl ?_
    refine wp_iastore d_DV_writeChanged_69 rfl (o1 c1) ?_
    refine wp_aload_n d_DV_writeChanged_70 rfl ?_
    refine wp_dup d_DV_writeChanged_71 ?_
    refine wp_getI d_DV_writeChanged_72 fl_DV_21 rfl rfl ?_
    show WP l E M_DV_writeChanged 75 [(0, .inr 1), (1, .inl (x1)), (2, .inl (x2)), (3, .inl (x3)), (4, .inl (x4)), (5, .inl (x5))] [.inl (h 1 3), .inr 1] (hw h 9 ((h 1 3).toNatClampNeg) (x1)) _
    refine wp_iconst (v := nI 1) d_DV_writeChanged_75 c_iconst_1 ?_
    refine wp_iadd d_DV_writeChanged_76 ?_
    refine wp_putI d_DV_writeChanged_77 fm_DV_21 rfl rfl ?_
    refine wp_return d_DV_writeChanged_80 rfl ?_
    exact e1 c1
  · refine wp_aload_n d_DV_writeChanged_27 rfl ?_
    refine wp_getR d_DV_writeChanged_28 fl_DV_18 rfl rfl ?_
    refine wp_iload d_DV_writeChanged_31 rfl ?_
    refine wp_iload d_DV_writeChanged_33 rfl ?_
    refine wp_iadd d_DV_writeChanged_35 ?_
    refine wp_iload d_DV_writeChanged_36 rfl ?_
    refine wp_iload_n d_DV_writeChanged_38 rfl ?_
    refine wp_ic_ne (tgt := 46) d_DV_writeChanged_39 (by decide) (fun c2 => ?_) (fun c2 => ?_)
    · refine wp_aload_n d_DV_writeChanged_46 rfl ?_
      refine wp_iload_n d_DV_writeChanged_47 rfl ?_
      refine wp_iload d_DV_writeChanged_48 rfl ?_
      refine wp_callV (as := [.inl (x1), .inl (x5)]) (rest := [.inl ((x4) + (x5)), .inr 10]) (Q' := fun r h' => WP l E M_DV_writeChanged 53 [(0, .inr 1), (1, .inl (x1)), (2, .inl (x2)), (3, .inl (x3)), (4, .inl (x4)), (5, .inl (x5))] (rpush r [.inl ((x4) + (x5)), .inr 10]) h' Q) d_DV_writeChanged_50 vb_DV_writeChanged_36 ⟨gw_1_225, gw_1_226⟩ rfl rfl rfl rfl (Nat.le_of_ble_eq_true rfl) rfl (Nat.le_of_ble_eq_true rfl) ?_ (fun r h' z => z)
      exact e2 c1 c2
    · refine wp_iload_n d_DV_writeChanged_42 rfl ?_
      refine wp_goto (tgt := 53) d_DV_writeChanged_43 (by decide) ?_
      refine wp_iastore d_DV_writeChanged_53 rfl (o2 c1 c2) ?_
      refine wp_iinc (v := x5 + nI 1) (ls' := [(0, .inr 1), (1, .inl (x1)), (2, .inl (x2)), (3, .inl (x3)), (4, .inl (x4)), (5, .inl (x5 + nI 1))]) d_DV_writeChanged_54 rfl (c_inc_1 _) (by decide) rfl ?_
      refine wp_goto (tgt := 21) d_DV_writeChanged_57 (by decide) ?_
      exact e3 c1 c2
set_option maxRecDepth 100000 in
set_option maxHeartbeats 4000000 in
theorem k_DV_writeChanged_53 {l : Launch} {E : xE} {s1 v0 x1 x2 x3 x4 x5 : Int32} {h : xh} {Q : Option Int32 → xh → Prop}
    (o1 : vp_in (s1) 112)
    (e1 : WP l E M_DV_writeChanged 21 [(0, .inr 1), (1, .inl (x1)), (2, .inl (x2)), (3, .inl (x3)), (4, .inl (x4)), (5, .inl (x5 + nI 1))] [] (hw h 10 ((s1).toNatClampNeg) (v0)) Q) : WP l E M_DV_writeChanged 53 [(0, .inr 1), (1, .inl (x1)), (2, .inl (x2)), (3, .inl (x3)), (4, .inl (x4)), (5, .inl (x5))] [.inl (v0), .inl (s1), .inr 10] h Q := by
  refine wp_iastore d_DV_writeChanged_53 rfl o1 ?_
  refine wp_iinc (v := x5 + nI 1) (ls' := [(0, .inr 1), (1, .inl (x1)), (2, .inl (x2)), (3, .inl (x3)), (4, .inl (x4)), (5, .inl (x5 + nI 1))]) d_DV_writeChanged_54 rfl (c_inc_1 _) (by decide) rfl ?_
  refine wp_goto (tgt := 21) d_DV_writeChanged_57 (by decide) ?_
  exact e1
set_option maxRecDepth 100000 in
set_option maxHeartbeats 4000000 in
theorem k_DV_flush_0 {l : Launch} {E : xE} {h : xh} {Q : Option Int32 → xh → Prop}
    (e1 : WP l E M_DV_flush 2 [(0, .inr 1), (1, .inl (nI 0))] [] h Q) : MC l E M_DV_flush [.inr 1] h Q := by
  refine wp_iconst (v := nI 0) d_DV_flush_0 c_iconst_0 ?_
  refine wp_istore_n (ls' := [(0, .inr 1), (1, .inl (nI 0))]) d_DV_flush_1 (by decide) rfl ?_
  exact e1
set_option maxRecDepth 100000 in
set_option maxHeartbeats 4000000 in
theorem k_DV_flush_2 {l : Launch} {E : xE} {x1 : Int32} {h : xh} {Q : Option Int32 → xh → Prop}
    (e1 : (h 1 3) ≤ x1 → Q none (hw h 1 3 (nI 0)))
    (e2 : ¬ (h 1 3) ≤ x1 → MC l E M_DV_settle [.inr 1, .inl (x1), .inl (nI 4)] h (fun r h' => WP l E M_DV_flush 16 [(0, .inr 1), (1, .inl (x1))] (rpush r []) h' Q)) : WP l E M_DV_flush 2 [(0, .inr 1), (1, .inl (x1))] [] h Q := by
  refine wp_iload_n d_DV_flush_2 rfl ?_
  refine wp_aload_n d_DV_flush_3 rfl ?_
  refine wp_getI d_DV_flush_4 fl_DV_21 rfl rfl ?_
  refine wp_ic_ge (tgt := 22) d_DV_flush_7 (by decide) (fun c1 => ?_) (fun c1 => ?_)
  · refine wp_aload_n d_DV_flush_22 rfl ?_
    refine wp_iconst (v := nI 0) d_DV_flush_23 c_iconst_0 ?_
    refine wp_putI d_DV_flush_24 fm_DV_21 rfl rfl ?_
    refine wp_return d_DV_flush_27 rfl ?_
    exact e1 c1
  · refine wp_aload_n d_DV_flush_10 rfl ?_
    refine wp_iload_n d_DV_flush_11 rfl ?_
    refine wp_iconst (v := nI 4) d_DV_flush_12 c_iconst_4 ?_
    refine wp_callV (as := [.inl (x1), .inl (nI 4)]) (rest := []) (Q' := fun r h' => WP l E M_DV_flush 16 [(0, .inr 1), (1, .inl (x1))] (rpush r []) h' Q) d_DV_flush_13 vb_DV_flush_39 ⟨gw_2_176, sw_17⟩ rfl rfl rfl rfl (Nat.le_of_ble_eq_true rfl) rfl (Nat.le_of_ble_eq_true rfl) ?_ (fun r h' z => z)
    exact e2 c1
set_option maxRecDepth 100000 in
set_option maxHeartbeats 4000000 in
theorem k_DV_flush_16 {l : Launch} {E : xE} {x1 : Int32} {h : xh} {Q : Option Int32 → xh → Prop}
    (e1 : WP l E M_DV_flush 2 [(0, .inr 1), (1, .inl (x1 + nI 1))] [] h Q) : WP l E M_DV_flush 16 [(0, .inr 1), (1, .inl (x1))] [] h Q := by
  refine wp_iinc (v := x1 + nI 1) (ls' := [(0, .inr 1), (1, .inl (x1 + nI 1))]) d_DV_flush_16 rfl (c_inc_1 _) (by decide) rfl ?_
  refine wp_goto (tgt := 2) d_DV_flush_19 (by decide) ?_
  exact e1
set_option maxRecDepth 100000 in
set_option maxHeartbeats 4000000 in
theorem k_DV_breakDown_0 {l : Launch} {E : xE} {x1 x2 : Int32} {h : xh} {Q : Option Int32 → xh → Prop}
    (e1 : WP l E M_DV_breakDown 8 [(0, .inr 1), (1, .inl (x1)), (2, .inl (x2)), (3, .inl (nI 0)), (4, .inl ((-1))), (5, .inl (nI 0))] [] h Q) : MC l E M_DV_breakDown [.inr 1, .inl (x1), .inl (x2)] h Q := by
  refine wp_iconst (v := nI 0) d_DV_breakDown_0 c_iconst_0 ?_
  refine wp_istore_n (ls' := [(0, .inr 1), (1, .inl (x1)), (2, .inl (x2)), (3, .inl (nI 0))]) d_DV_breakDown_1 (by decide) rfl ?_
  refine wp_iconst (v := (-1)) d_DV_breakDown_2 c_iconst_m1 ?_
  refine wp_istore (ls' := [(0, .inr 1), (1, .inl (x1)), (2, .inl (x2)), (3, .inl (nI 0)), (4, .inl ((-1)))]) d_DV_breakDown_3 (by decide) rfl ?_
  refine wp_iconst (v := nI 0) d_DV_breakDown_5 c_iconst_0 ?_
  refine wp_istore (ls' := [(0, .inr 1), (1, .inl (x1)), (2, .inl (x2)), (3, .inl (nI 0)), (4, .inl ((-1))), (5, .inl (nI 0))]) d_DV_breakDown_6 (by decide) rfl ?_
  exact e1
set_option maxRecDepth 100000 in
set_option maxHeartbeats 4000000 in
theorem k_DV_breakDown_8 {l : Launch} {E : xE} {x1 x2 x3 x4 x5 : Int32} {h : xh} {Q : Option Int32 → xh → Prop}
    (e1 : (h 1 3) ≤ x5 → x2 < 0 → WP l E M_DV_breakDown 61 [(0, .inr 1), (1, .inl (x1)), (2, .inl (x2)), (3, .inl (x3)), (4, .inl (x4)), (5, .inl (nI 0)), (6, .inl (nI 0))] [] h Q)
    (e2 : (h 1 3) ≤ x5 → ¬ x2 < 0 → (nI 4) ≤ x2 → WP l E M_DV_breakDown 61 [(0, .inr 1), (1, .inl (x1)), (2, .inl (x2)), (3, .inl (x3)), (4, .inl (x4)), (5, .inl (nI 0)), (6, .inl (nI 0))] [] h Q)
    (e3 : (h 1 3) ≤ x5 → ¬ x2 < 0 → ¬ (nI 4) ≤ x2 → WP l E M_DV_breakDown 61 [(0, .inr 1), (1, .inl (x1)), (2, .inl (x2)), (3, .inl (x3)), (4, .inl (x4)), (5, .inl (nI 1)), (6, .inl (nI 0))] [] h Q)
    (e4 : ¬ (h 1 3) ≤ x5 → ((ushr (x1) (x5)) &&& (nI 1)) ≠ (nI 1) → WP l E M_DV_breakDown 8 [(0, .inr 1), (1, .inl (x1)), (2, .inl (x2)), (3, .inl (x3 + nI 1)), (4, .inl (x4)), (5, .inl (x5 + nI 1))] [] h Q)
    (e5 : ¬ (h 1 3) ≤ x5 → ((ushr (x1) (x5)) &&& (nI 1)) = (nI 1) → WP l E M_DV_breakDown 8 [(0, .inr 1), (1, .inl (x1)), (2, .inl (x2)), (3, .inl (x3)), (4, .inl (x5)), (5, .inl (x5 + nI 1))] [] h Q) : WP l E M_DV_breakDown 8 [(0, .inr 1), (1, .inl (x1)), (2, .inl (x2)), (3, .inl (x3)), (4, .inl (x4)), (5, .inl (x5))] [] h Q := by
  refine wp_iload d_DV_breakDown_8 rfl ?_
  refine wp_aload_n d_DV_breakDown_10 rfl ?_
  refine wp_getI d_DV_breakDown_11 fl_DV_21 rfl rfl ?_
  refine wp_ic_ge (tgt := 42) d_DV_breakDown_14 (by decide) (fun c1 => ?_) (fun c1 => ?_)
  · refine wp_iload_n d_DV_breakDown_42 rfl ?_
    refine wp_if_lt (tgt := 55) d_DV_breakDown_43 (by decide) (fun c2 => ?_) (fun c2 => ?_)
    · refine wp_iconst (v := nI 0) d_DV_breakDown_55 c_iconst_0 ?_
      refine wp_istore (ls' := [(0, .inr 1), (1, .inl (x1)), (2, .inl (x2)), (3, .inl (x3)), (4, .inl (x4)), (5, .inl (nI 0))]) d_DV_breakDown_56 (by decide) rfl ?_
      refine wp_iconst (v := nI 0) d_DV_breakDown_58 c_iconst_0 ?_
      refine wp_istore (ls' := [(0, .inr 1), (1, .inl (x1)), (2, .inl (x2)), (3, .inl (x3)), (4, .inl (x4)), (5, .inl (nI 0)), (6, .inl (nI 0))]) d_DV_breakDown_59 (by decide) rfl ?_
      exact e1 c1 c2
    · refine wp_iload_n d_DV_breakDown_46 rfl ?_
      refine wp_iconst (v := nI 4) d_DV_breakDown_47 c_iconst_4 ?_
      refine wp_ic_ge (tgt := 55) d_DV_breakDown_48 (by decide) (fun c3 => ?_) (fun c3 => ?_)
      · refine wp_iconst (v := nI 0) d_DV_breakDown_55 c_iconst_0 ?_
        refine wp_istore (ls' := [(0, .inr 1), (1, .inl (x1)), (2, .inl (x2)), (3, .inl (x3)), (4, .inl (x4)), (5, .inl (nI 0))]) d_DV_breakDown_56 (by decide) rfl ?_
        refine wp_iconst (v := nI 0) d_DV_breakDown_58 c_iconst_0 ?_
        refine wp_istore (ls' := [(0, .inr 1), (1, .inl (x1)), (2, .inl (x2)), (3, .inl (x3)), (4, .inl (x4)), (5, .inl (nI 0)), (6, .inl (nI 0))]) d_DV_breakDown_59 (by decide) rfl ?_
        exact e2 c1 c2 c3
      · refine wp_iconst (v := nI 1) d_DV_breakDown_51 c_iconst_1 ?_
        refine wp_goto (tgt := 56) d_DV_breakDown_52 (by decide) ?_
        refine wp_istore (ls' := [(0, .inr 1), (1, .inl (x1)), (2, .inl (x2)), (3, .inl (x3)), (4, .inl (x4)), (5, .inl (nI 1))]) d_DV_breakDown_56 (by decide) rfl ?_
        refine wp_iconst (v := nI 0) d_DV_breakDown_58 c_iconst_0 ?_
        refine wp_istore (ls' := [(0, .inr 1), (1, .inl (x1)), (2, .inl (x2)), (3, .inl (x3)), (4, .inl (x4)), (5, .inl (nI 1)), (6, .inl (nI 0))]) d_DV_breakDown_59 (by decide) rfl ?_
        exact e3 c1 c2 c3
  · refine wp_iload_n d_DV_breakDown_17 rfl ?_
    refine wp_iload d_DV_breakDown_18 rfl ?_
    refine wp_callS (as := [.inl (x1), .inl (x5)]) (rest := []) (Q' := fun r h' => WP l E M_DV_breakDown 23 [(0, .inr 1), (1, .inl (x1)), (2, .inl (x2)), (3, .inl (x3)), (4, .inl (x4)), (5, .inl (x5))] (rpush r []) h' _) d_DV_breakDown_20 vb_DV_breakDown_43 gw_2_221 rfl (Nat.le_of_ble_eq_true rfl) rfl (Nat.le_of_ble_eq_true rfl) ?_ (fun r h' z => z)
    show WP l E M_DV_isKept 0 [(0, .inl (x1)), (1, .inl (x5))] [] h _
    refine wp_iload_n d_DV_isKept_0 rfl ?_
    refine wp_iload_n d_DV_isKept_1 rfl ?_
    refine wp_iushr d_DV_isKept_2 ?_
    refine wp_iconst (v := nI 1) d_DV_isKept_3 c_iconst_1 ?_
    refine wp_iand d_DV_isKept_4 ?_
    refine wp_iconst (v := nI 1) d_DV_isKept_5 c_iconst_1 ?_
    refine wp_ic_ne (tgt := 13) d_DV_isKept_6 (by decide) (fun c4 => ?_) (fun c4 => ?_)
    · refine wp_iconst (v := nI 0) d_DV_isKept_13 c_iconst_0 ?_
      refine wp_zreturn d_DV_isKept_14 rfl (by decide) ?_
      show WP l E M_DV_breakDown 23 [(0, .inr 1), (1, .inl (x1)), (2, .inl (x2)), (3, .inl (x3)), (4, .inl (x4)), (5, .inl (x5))] [.inl (nI 0)] h _
      refine wp_if_eq (tgt := 33) d_DV_breakDown_23 (by decide) (fun _ => ?_) (fun z => absurd z (by decide +kernel))
      refine wp_iinc (v := x3 + nI 1) (ls' := [(0, .inr 1), (1, .inl (x1)), (2, .inl (x2)), (3, .inl (x3 + nI 1)), (4, .inl (x4)), (5, .inl (x5))]) d_DV_breakDown_33 rfl (c_inc_1 _) (by decide) rfl ?_
      refine wp_iinc (v := x5 + nI 1) (ls' := [(0, .inr 1), (1, .inl (x1)), (2, .inl (x2)), (3, .inl (x3 + nI 1)), (4, .inl (x4)), (5, .inl (x5 + nI 1))]) d_DV_breakDown_36 rfl (c_inc_1 _) (by decide) rfl ?_
      refine wp_goto (tgt := 8) d_DV_breakDown_39 (by decide) ?_
      exact e4 c1 c4
    · refine wp_iconst (v := nI 1) d_DV_isKept_9 c_iconst_1 ?_
      refine wp_goto (tgt := 14) d_DV_isKept_10 (by decide) ?_
      refine wp_zreturn d_DV_isKept_14 rfl (by decide) ?_
      show WP l E M_DV_breakDown 23 [(0, .inr 1), (1, .inl (x1)), (2, .inl (x2)), (3, .inl (x3)), (4, .inl (x4)), (5, .inl (x5))] [.inl (nI 1)] h _
      refine wp_if_eq (tgt := 33) d_DV_breakDown_23 (by decide) (fun z => absurd z (by decide +kernel)) (fun _ => ?_)
      refine wp_iload d_DV_breakDown_26 rfl ?_
      refine wp_istore (ls' := [(0, .inr 1), (1, .inl (x1)), (2, .inl (x2)), (3, .inl (x3)), (4, .inl (x5)), (5, .inl (x5))]) d_DV_breakDown_28 (by decide) rfl ?_
      refine wp_goto (tgt := 36) d_DV_breakDown_30 (by decide) ?_
      refine wp_iinc (v := x5 + nI 1) (ls' := [(0, .inr 1), (1, .inl (x1)), (2, .inl (x2)), (3, .inl (x3)), (4, .inl (x5)), (5, .inl (x5 + nI 1))]) d_DV_breakDown_36 rfl (c_inc_1 _) (by decide) rfl ?_
      refine wp_goto (tgt := 8) d_DV_breakDown_39 (by decide) ?_
      exact e5 c1 c4
set_option maxRecDepth 100000 in
set_option maxHeartbeats 4000000 in
theorem k_DV_breakDown_61 {l : Launch} {E : xE} {x1 x2 x3 x4 x5 x6 : Int32} {h : xh} {Q : Option Int32 → xh → Prop}
    (e1 : x4 < x6 → Q (some (x3)) (hw h 1 3 (nI 0)))
    (e2 : ¬ x4 < x6 → ((ushr (x1) (x6)) &&& (nI 1)) ≠ (nI 1) → WP l E M_DV_breakDown 61 [(0, .inr 1), (1, .inl (x1)), (2, .inl (x2)), (3, .inl (x3)), (4, .inl (x4)), (5, .inl (x5)), (6, .inl (x6 + nI 1))] [] h Q)
    (e3 : ¬ x4 < x6 → ((ushr (x1) (x6)) &&& (nI 1)) = (nI 1) → x5 = 0 → MC l E M_DV_settle [.inr 1, .inl (x6), .inl (nI 4)] h (fun r h' => WP l E M_DV_breakDown 100 [(0, .inr 1), (1, .inl (x1)), (2, .inl (x2)), (3, .inl (x3)), (4, .inl (x4)), (5, .inl (x5)), (6, .inl (x6))] (rpush r []) h' Q))
    (e4 : ¬ x4 < x6 → ((ushr (x1) (x6)) &&& (nI 1)) = (nI 1) → ¬ x5 = 0 → x6 ≠ x4 → MC l E M_DV_settle [.inr 1, .inl (x6), .inl (nI 4)] h (fun r h' => WP l E M_DV_breakDown 100 [(0, .inr 1), (1, .inl (x1)), (2, .inl (x2)), (3, .inl (x3)), (4, .inl (x4)), (5, .inl (x5)), (6, .inl (x6))] (rpush r []) h' Q))
    (e5 : ¬ x4 < x6 → ((ushr (x1) (x6)) &&& (nI 1)) = (nI 1) → ¬ x5 = 0 → x6 = x4 → MC l E M_DV_settle [.inr 1, .inl (x6), .inl (x2)] h (fun r h' => WP l E M_DV_breakDown 100 [(0, .inr 1), (1, .inl (x1)), (2, .inl (x2)), (3, .inl (x3)), (4, .inl (x4)), (5, .inl (x5)), (6, .inl (x6))] (rpush r []) h' Q)) : WP l E M_DV_breakDown 61 [(0, .inr 1), (1, .inl (x1)), (2, .inl (x2)), (3, .inl (x3)), (4, .inl (x4)), (5, .inl (x5)), (6, .inl (x6))] [] h Q := by
  refine wp_iload d_DV_breakDown_61 rfl ?_
  refine wp_iload d_DV_breakDown_63 rfl ?_
  refine wp_ic_gt (tgt := 106) d_DV_breakDown_65 (by decide) (fun c1 => ?_) (fun c1 => ?_)
  · refine wp_aload_n d_DV_breakDown_106 rfl ?_
    refine wp_iconst (v := nI 0) d_DV_breakDown_107 c_iconst_0 ?_
    refine wp_putI d_DV_breakDown_108 fm_DV_21 rfl rfl ?_
    refine wp_iload_n d_DV_breakDown_111 rfl ?_
    refine wp_ireturn d_DV_breakDown_112 rfl ?_
    exact e1 c1
  · refine wp_iload_n d_DV_breakDown_68 rfl ?_
    refine wp_iload d_DV_breakDown_69 rfl ?_
    refine wp_callS (as := [.inl (x1), .inl (x6)]) (rest := []) (Q' := fun r h' => WP l E M_DV_breakDown 74 [(0, .inr 1), (1, .inl (x1)), (2, .inl (x2)), (3, .inl (x3)), (4, .inl (x4)), (5, .inl (x5)), (6, .inl (x6))] (rpush r []) h' _) d_DV_breakDown_71 vb_DV_breakDown_43 gw_2_221 rfl (Nat.le_of_ble_eq_true rfl) rfl (Nat.le_of_ble_eq_true rfl) ?_ (fun r h' z => z)
    show WP l E M_DV_isKept 0 [(0, .inl (x1)), (1, .inl (x6))] [] h _
    refine wp_iload_n d_DV_isKept_0 rfl ?_
    refine wp_iload_n d_DV_isKept_1 rfl ?_
    refine wp_iushr d_DV_isKept_2 ?_
    refine wp_iconst (v := nI 1) d_DV_isKept_3 c_iconst_1 ?_
    refine wp_iand d_DV_isKept_4 ?_
    refine wp_iconst (v := nI 1) d_DV_isKept_5 c_iconst_1 ?_
    refine wp_ic_ne (tgt := 13) d_DV_isKept_6 (by decide) (fun c2 => ?_) (fun c2 => ?_)
    · refine wp_iconst (v := nI 0) d_DV_isKept_13 c_iconst_0 ?_
      refine wp_zreturn d_DV_isKept_14 rfl (by decide) ?_
      show WP l E M_DV_breakDown 74 [(0, .inr 1), (1, .inl (x1)), (2, .inl (x2)), (3, .inl (x3)), (4, .inl (x4)), (5, .inl (x5)), (6, .inl (x6))] [.inl (nI 0)] h _
      refine wp_if_eq (tgt := 100) d_DV_breakDown_74 (by decide) (fun _ => ?_) (fun z => absurd z (by decide +kernel))
      refine wp_iinc (v := x6 + nI 1) (ls' := [(0, .inr 1), (1, .inl (x1)), (2, .inl (x2)), (3, .inl (x3)), (4, .inl (x4)), (5, .inl (x5)), (6, .inl (x6 + nI 1))]) d_DV_breakDown_100 rfl (c_inc_1 _) (by decide) rfl ?_
      refine wp_goto (tgt := 61) d_DV_breakDown_103 (by decide) ?_
      exact e2 c1 c2
    · refine wp_iconst (v := nI 1) d_DV_isKept_9 c_iconst_1 ?_
      refine wp_goto (tgt := 14) d_DV_isKept_10 (by decide) ?_
      refine wp_zreturn d_DV_isKept_14 rfl (by decide) ?_
      show WP l E M_DV_breakDown 74 [(0, .inr 1), (1, .inl (x1)), (2, .inl (x2)), (3, .inl (x3)), (4, .inl (x4)), (5, .inl (x5)), (6, .inl (x6))] [.inl (nI 1)] h _
      refine wp_if_eq (tgt := 100) d_DV_breakDown_74 (by decide) (fun z => absurd z (by decide +kernel)) (fun _ => ?_)
      refine wp_aload_n d_DV_breakDown_77 rfl ?_
      refine wp_iload d_DV_breakDown_78 rfl ?_
      refine wp_iload d_DV_breakDown_80 rfl ?_
      refine wp_if_eq (tgt := 96) d_DV_breakDown_82 (by decide) (fun c3 => ?_) (fun c3 => ?_)
      · refine wp_iconst (v := nI 4) d_DV_breakDown_96 c_iconst_4 ?_
        refine wp_callV (as := [.inl (x6), .inl (nI 4)]) (rest := []) (Q' := fun r h' => WP l E M_DV_breakDown 100 [(0, .inr 1), (1, .inl (x1)), (2, .inl (x2)), (3, .inl (x3)), (4, .inl (x4)), (5, .inl (x5)), (6, .inl (x6))] (rpush r []) h' Q) d_DV_breakDown_97 vb_DV_breakDown_39 ⟨gw_2_176, sw_17⟩ rfl rfl rfl rfl (Nat.le_of_ble_eq_true rfl) rfl (Nat.le_of_ble_eq_true rfl) ?_ (fun r h' z => z)
        exact e3 c1 c2 c3
      · refine wp_iload d_DV_breakDown_85 rfl ?_
        refine wp_iload d_DV_breakDown_87 rfl ?_
        refine wp_ic_ne (tgt := 96) d_DV_breakDown_89 (by decide) (fun c4 => ?_) (fun c4 => ?_)
        · refine wp_iconst (v := nI 4) d_DV_breakDown_96 c_iconst_4 ?_
          refine wp_callV (as := [.inl (x6), .inl (nI 4)]) (rest := []) (Q' := fun r h' => WP l E M_DV_breakDown 100 [(0, .inr 1), (1, .inl (x1)), (2, .inl (x2)), (3, .inl (x3)), (4, .inl (x4)), (5, .inl (x5)), (6, .inl (x6))] (rpush r []) h' Q) d_DV_breakDown_97 vb_DV_breakDown_39 ⟨gw_2_176, sw_17⟩ rfl rfl rfl rfl (Nat.le_of_ble_eq_true rfl) rfl (Nat.le_of_ble_eq_true rfl) ?_ (fun r h' z => z)
          exact e4 c1 c2 c3 c4
        · refine wp_iload_n d_DV_breakDown_92 rfl ?_
          refine wp_goto (tgt := 97) d_DV_breakDown_93 (by decide) ?_
          refine wp_callV (as := [.inl (x6), .inl (x2)]) (rest := []) (Q' := fun r h' => WP l E M_DV_breakDown 100 [(0, .inr 1), (1, .inl (x1)), (2, .inl (x2)), (3, .inl (x3)), (4, .inl (x4)), (5, .inl (x5)), (6, .inl (x6))] (rpush r []) h' Q) d_DV_breakDown_97 vb_DV_breakDown_39 ⟨gw_2_176, sw_17⟩ rfl rfl rfl rfl (Nat.le_of_ble_eq_true rfl) rfl (Nat.le_of_ble_eq_true rfl) ?_ (fun r h' z => z)
          exact e5 c1 c2 c3 c4
set_option maxRecDepth 100000 in
set_option maxHeartbeats 4000000 in
theorem k_DV_breakDown_100 {l : Launch} {E : xE} {x1 x2 x3 x4 x5 x6 : Int32} {h : xh} {Q : Option Int32 → xh → Prop}
    (e1 : WP l E M_DV_breakDown 61 [(0, .inr 1), (1, .inl (x1)), (2, .inl (x2)), (3, .inl (x3)), (4, .inl (x4)), (5, .inl (x5)), (6, .inl (x6 + nI 1))] [] h Q) : WP l E M_DV_breakDown 100 [(0, .inr 1), (1, .inl (x1)), (2, .inl (x2)), (3, .inl (x3)), (4, .inl (x4)), (5, .inl (x5)), (6, .inl (x6))] [] h Q := by
  refine wp_iinc (v := x6 + nI 1) (ls' := [(0, .inr 1), (1, .inl (x1)), (2, .inl (x2)), (3, .inl (x3)), (4, .inl (x4)), (5, .inl (x5)), (6, .inl (x6 + nI 1))]) d_DV_breakDown_100 rfl (c_inc_1 _) (by decide) rfl ?_
  refine wp_goto (tgt := 61) d_DV_breakDown_103 (by decide) ?_
  exact e1
set_option maxRecDepth 100000 in
set_option maxHeartbeats 4000000 in
theorem k_DV_settle_0 {l : Launch} {E : xE} {x1 x2 : Int32} {h : xh} {Q : Option Int32 → xh → Prop}
    (o1 : vp_in (x1) 28)
    (o2 : ¬ ((x1) * (nI 4)) < 0)
    (o3 : ¬ ((h 9 ((x1).toNatClampNeg)) * (nI 4)) < 0)
    (o4 : ¬ x2 < 0)
    (o5 : ((x1) * (nI 4)).toNatClampNeg + (x2).toNatClampNeg ≤ 112)
    (o6 : ((h 9 ((x1).toNatClampNeg)) * (nI 4)).toNatClampNeg + (x2).toNatClampNeg ≤ 164)
    (e1 : Q none (hc h 10 8 ((x1) * (nI 4)) ((h 9 ((x1).toNatClampNeg)) * (nI 4)) (x2))) : MC l E M_DV_settle [.inr 1, .inl (x1), .inl (x2)] h Q := by
  refine wp_aload_n d_DV_settle_0 rfl ?_
  refine wp_getR d_DV_settle_1 fl_DV_18 rfl rfl ?_
  refine wp_iload_n d_DV_settle_4 rfl ?_
  refine wp_iconst (v := nI 4) d_DV_settle_5 c_iconst_4 ?_
  refine wp_imul d_DV_settle_6 ?_
  refine wp_aload_n d_DV_settle_7 rfl ?_
  refine wp_getR d_DV_settle_8 fl_DV_9 rfl rfl ?_
  refine wp_aload_n d_DV_settle_11 rfl ?_
  refine wp_getR d_DV_settle_12 fl_DV_15 rfl rfl ?_
  refine wp_iload_n d_DV_settle_15 rfl ?_
  refine wp_iaload d_DV_settle_16 rfl o1 ?_
  refine wp_iconst (v := nI 4) d_DV_settle_17 c_iconst_4 ?_
  refine wp_imul d_DV_settle_18 ?_
  refine wp_iload_n d_DV_settle_19 rfl ?_
  refine wp_copy d_DV_settle_20 gw_2_178 gw_2_180 gw_2_179 gw_1_10 rfl rfl (Nat.le_of_ble_eq_true rfl) (Nat.le_of_ble_eq_true rfl) o2 o3 o4 o5 o6 ?_
  refine wp_return d_DV_settle_23 rfl ?_
  exact e1
