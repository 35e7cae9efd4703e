set_option maxRecDepth 100000 in
set_option maxHeartbeats 4000000 in
theorem k_MD_read_0 {l : Launch} {E : xE} {x1 x2 : Int32} {h : xh} {Q : Option Int32 → xh → Prop}
    (e1 : x1 < 0 → Q (some (nI 0)) h)
    (e2 : ¬ x1 < 0 → (nI 40) < x1 → Q (some (nI 0)) h)
    (e3 : ¬ x1 < 0 → ¬ (nI 40) < x1 → x2 < 0 → Q (some (nI 0)) h)
    (o1 : ¬ x1 < 0 → ¬ (nI 40) < x1 → ¬ x2 < 0 → x2 ≤ (nI 3) → vp_in (((nI 4) * (x1)) + (x2)) 164)
    (e4 : ¬ x1 < 0 → ¬ (nI 40) < x1 → ¬ x2 < 0 → x2 ≤ (nI 3) → WP l E M_MD_read 35 [(0, .inr 7), (1, .inl (x1)), (2, .inl (x2)), (3, .inl (h 25 ((((nI 4) * (x1)) + (x2)).toNatClampNeg))), (4, .inl (nI 0))] [] h Q)
    (e5 : ¬ x1 < 0 → ¬ (nI 40) < x1 → ¬ x2 < 0 → ¬ x2 ≤ (nI 3) → Q (some (nI 0)) h) : MC l E M_MD_read [.inr 7, .inl (x1), .inl (x2)] h Q := by
  refine wp_iload_n d_MD_read_0 rfl ?_
  refine wp_if_lt (tgt := 19) d_MD_read_1 (by decide) (fun c1 => ?_) (fun c1 => ?_)
  · refine wp_iconst (v := nI 0) d_MD_read_19 c_iconst_0 ?_
    refine wp_ireturn d_MD_read_20 rfl ?_
    exact e1 c1
  · refine wp_iload_n d_MD_read_4 rfl ?_
    refine wp_bipush (v := nI 40) d_MD_read_5 c_bipush_40 ?_
    refine wp_ic_gt (tgt := 19) d_MD_read_7 (by decide) (fun c2 => ?_) (fun c2 => ?_)
    · refine wp_iconst (v := nI 0) d_MD_read_19 c_iconst_0 ?_
      refine wp_ireturn d_MD_read_20 rfl ?_
      exact e2 c1 c2
    · refine wp_iload_n d_MD_read_10 rfl ?_
      refine wp_if_lt (tgt := 19) d_MD_read_11 (by decide) (fun c3 => ?_) (fun c3 => ?_)
      · refine wp_iconst (v := nI 0) d_MD_read_19 c_iconst_0 ?_
        refine wp_ireturn d_MD_read_20 rfl ?_
        exact e3 c1 c2 c3
      · refine wp_iload_n d_MD_read_14 rfl ?_
        refine wp_iconst (v := nI 3) d_MD_read_15 c_iconst_3 ?_
        refine wp_ic_le (tgt := 21) d_MD_read_16 (by decide) (fun c4 => ?_) (fun c4 => ?_)
        · refine wp_aload_n d_MD_read_21 rfl ?_
          refine wp_getR d_MD_read_22 fl_MD_7 rfl rfl ?_
          refine wp_iconst (v := nI 4) d_MD_read_25 c_iconst_4 ?_
          refine wp_iload_n d_MD_read_26 rfl ?_
          refine wp_imul d_MD_read_27 ?_
          refine wp_iload_n d_MD_read_28 rfl ?_
          refine wp_iadd d_MD_read_29 ?_
          refine wp_iaload d_MD_read_30 rfl (o1 c1 c2 c3 c4) ?_
          refine wp_istore_n (ls' := [(0, .inr 7), (1, .inl (x1)), (2, .inl (x2)), (3, .inl (h 25 ((((nI 4) * (x1)) + (x2)).toNatClampNeg)))]) d_MD_read_31 (by decide) rfl ?_
          refine wp_iconst (v := nI 0) d_MD_read_32 c_iconst_0 ?_
          refine wp_istore (ls' := [(0, .inr 7), (1, .inl (x1)), (2, .inl (x2)), (3, .inl (h 25 ((((nI 4) * (x1)) + (x2)).toNatClampNeg))), (4, .inl (nI 0))]) d_MD_read_33 (by decide) rfl ?_
          exact e4 c1 c2 c3 c4
        · refine wp_iconst (v := nI 0) d_MD_read_19 c_iconst_0 ?_
          refine wp_ireturn d_MD_read_20 rfl ?_
          exact e5 c1 c2 c3 c4
set_option maxRecDepth 100000 in
set_option maxHeartbeats 4000000 in
theorem k_MD_read_35 {l : Launch} {E : xE} {x1 x2 x3 x4 : Int32} {h : xh} {Q : Option Int32 → xh → Prop}
    (e1 : (h 7 1) ≤ x4 → Q (some (x3)) h)
    (o1 : ¬ (h 7 1) ≤ x4 → vp_in (x4) 32)
    (e2 : ¬ (h 7 1) ≤ x4 → (h 26 ((x4).toNatClampNeg)) ≠ x1 → WP l E M_MD_read 35 [(0, .inr 7), (1, .inl (x1)), (2, .inl (x2)), (3, .inl (x3)), (4, .inl (x4 + nI 1))] [] h Q)
    (o2 : ¬ (h 7 1) ≤ x4 → (h 26 ((x4).toNatClampNeg)) = x1 → vp_in (((nI 4) * (x4)) + (x2)) 128)
    (e3 : ¬ (h 7 1) ≤ x4 → (h 26 ((x4).toNatClampNeg)) = x1 → WP l E M_MD_read 35 [(0, .inr 7), (1, .inl (x1)), (2, .inl (x2)), (3, .inl (h 27 ((((nI 4) * (x4)) + (x2)).toNatClampNeg))), (4, .inl (x4 + nI 1))] [] h Q) : WP l E M_MD_read 35 [(0, .inr 7), (1, .inl (x1)), (2, .inl (x2)), (3, .inl (x3)), (4, .inl (x4))] [] h Q := by
  refine wp_iload d_MD_read_35 rfl ?_
  refine wp_aload_n d_MD_read_37 rfl ?_
  refine wp_getI d_MD_read_38 fl_MD_50 rfl rfl ?_
  refine wp_ic_ge (tgt := 77) d_MD_read_41 (by decide) (fun c1 => ?_) (fun c1 => ?_)
  · refine wp_iload_n d_MD_read_77 rfl ?_
    refine wp_ireturn d_MD_read_78 rfl ?_
    exact e1 c1
  · refine wp_aload_n d_MD_read_44 rfl ?_
    refine wp_getR d_MD_read_45 fl_MD_13 rfl rfl ?_
    refine wp_iload d_MD_read_48 rfl ?_
    refine wp_iaload d_MD_read_50 rfl (o1 c1) ?_
    refine wp_iload_n d_MD_read_51 rfl ?_
    refine wp_ic_ne (tgt := 69) d_MD_read_52 (by decide) (fun c2 => ?_) (fun c2 => ?_)
    · refine wp_iload_n d_MD_read_69 rfl ?_
      refine wp_istore_n (ls' := [(0, .inr 7), (1, .inl (x1)), (2, .inl (x2)), (3, .inl (x3)), (4, .inl (x4))]) d_MD_read_70 (by decide) rfl ?_
      refine wp_iinc (v := x4 + nI 1) (ls' := [(0, .inr 7), (1, .inl (x1)), (2, .inl (x2)), (3, .inl (x3)), (4, .inl (x4 + nI 1))]) d_MD_read_71 rfl (c_inc_1 _) (by decide) rfl ?_
      refine wp_goto (tgt := 35) d_MD_read_74 (by decide) ?_
      exact e2 c1 c2
    · refine wp_aload_n d_MD_read_55 rfl ?_
      refine wp_getR d_MD_read_56 fl_MD_16 rfl rfl ?_
      refine wp_iconst (v := nI 4) d_MD_read_59 c_iconst_4 ?_
      refine wp_iload d_MD_read_60 rfl ?_
      refine wp_imul d_MD_read_62 ?_
      refine wp_iload_n d_MD_read_63 rfl ?_
      refine wp_iadd d_MD_read_64 ?_
      refine wp_iaload d_MD_read_65 rfl (o2 c1 c2) ?_
      refine wp_goto (tgt := 70) d_MD_read_66 (by decide) ?_
      refine wp_istore_n (ls' := [(0, .inr 7), (1, .inl (x1)), (2, .inl (x2)), (3, .inl (h 27 ((((nI 4) * (x4)) + (x2)).toNatClampNeg))), (4, .inl (x4))]) d_MD_read_70 (by decide) rfl ?_
      refine wp_iinc (v := x4 + nI 1) (ls' := [(0, .inr 7), (1, .inl (x1)), (2, .inl (x2)), (3, .inl (h 27 ((((nI 4) * (x4)) + (x2)).toNatClampNeg))), (4, .inl (x4 + nI 1))]) d_MD_read_71 rfl (c_inc_1 _) (by decide) rfl ?_
      refine wp_goto (tgt := 35) d_MD_read_74 (by decide) ?_
      exact e3 c1 c2
set_option maxRecDepth 100000 in
set_option maxHeartbeats 4000000 in
theorem k_MD_stored_0 {l : Launch} {E : xE} {x1 x2 : Int32} {h : xh} {Q : Option Int32 → xh → Prop}
    (e1 : x1 < 0 → Q (some (nI 0)) h)
    (e2 : ¬ x1 < 0 → (nI 40) < x1 → Q (some (nI 0)) h)
    (e3 : ¬ x1 < 0 → ¬ (nI 40) < x1 → x2 < 0 → Q (some (nI 0)) h)
    (o1 : ¬ x1 < 0 → ¬ (nI 40) < x1 → ¬ x2 < 0 → x2 ≤ (nI 3) → vp_in (((nI 4) * (x1)) + (x2)) 164)
    (e4 : ¬ x1 < 0 → ¬ (nI 40) < x1 → ¬ x2 < 0 → x2 ≤ (nI 3) → Q (some (h 25 ((((nI 4) * (x1)) + (x2)).toNatClampNeg))) h)
    (e5 : ¬ x1 < 0 → ¬ (nI 40) < x1 → ¬ x2 < 0 → ¬ x2 ≤ (nI 3) → Q (some (nI 0)) h) : MC l E M_MD_stored [.inr 7, .inl (x1), .inl (x2)] h Q := by
  refine wp_iload_n d_MD_stored_0 rfl ?_
  refine wp_if_lt (tgt := 19) d_MD_stored_1 (by decide) (fun c1 => ?_) (fun c1 => ?_)
  · refine wp_iconst (v := nI 0) d_MD_stored_19 c_iconst_0 ?_
    refine wp_goto (tgt := 33) d_MD_stored_20 (by decide) ?_
    refine wp_ireturn d_MD_stored_33 rfl ?_
    exact e1 c1
  · refine wp_iload_n d_MD_stored_4 rfl ?_
    refine wp_bipush (v := nI 40) d_MD_stored_5 c_bipush_40 ?_
    refine wp_ic_gt (tgt := 19) d_MD_stored_7 (by decide) (fun c2 => ?_) (fun c2 => ?_)
    · refine wp_iconst (v := nI 0) d_MD_stored_19 c_iconst_0 ?_
      refine wp_goto (tgt := 33) d_MD_stored_20 (by decide) ?_
      refine wp_ireturn d_MD_stored_33 rfl ?_
      exact e2 c1 c2
    · refine wp_iload_n d_MD_stored_10 rfl ?_
      refine wp_if_lt (tgt := 19) d_MD_stored_11 (by decide) (fun c3 => ?_) (fun c3 => ?_)
      · refine wp_iconst (v := nI 0) d_MD_stored_19 c_iconst_0 ?_
        refine wp_goto (tgt := 33) d_MD_stored_20 (by decide) ?_
        refine wp_ireturn d_MD_stored_33 rfl ?_
        exact e3 c1 c2 c3
      · refine wp_iload_n d_MD_stored_14 rfl ?_
        refine wp_iconst (v := nI 3) d_MD_stored_15 c_iconst_3 ?_
        refine wp_ic_le (tgt := 23) d_MD_stored_16 (by decide) (fun c4 => ?_) (fun c4 => ?_)
        · refine wp_aload_n d_MD_stored_23 rfl ?_
          refine wp_getR d_MD_stored_24 fl_MD_7 rfl rfl ?_
          refine wp_iconst (v := nI 4) d_MD_stored_27 c_iconst_4 ?_
          refine wp_iload_n d_MD_stored_28 rfl ?_
          refine wp_imul d_MD_stored_29 ?_
          refine wp_iload_n d_MD_stored_30 rfl ?_
          refine wp_iadd d_MD_stored_31 ?_
          refine wp_iaload d_MD_stored_32 rfl (o1 c1 c2 c3 c4) ?_
          refine wp_ireturn d_MD_stored_33 rfl ?_
          exact e4 c1 c2 c3 c4
        · refine wp_iconst (v := nI 0) d_MD_stored_19 c_iconst_0 ?_
          refine wp_goto (tgt := 33) d_MD_stored_20 (by decide) ?_
          refine wp_ireturn d_MD_stored_33 rfl ?_
          exact e5 c1 c2 c3 c4
set_option maxRecDepth 100000 in
set_option maxHeartbeats 4000000 in
theorem k_MD_cached_0 {l : Launch} {E : xE} {h : xh} {Q : Option Int32 → xh → Prop}
    (e1 : Q (some (h 7 1)) h) : MC l E M_MD_cached [.inr 7] h Q := by
  refine wp_aload_n d_MD_cached_0 rfl ?_
  refine wp_getI d_MD_cached_1 fl_MD_50 rfl rfl ?_
  refine wp_ireturn d_MD_cached_4 rfl ?_
  exact e1
set_option maxRecDepth 100000 in
set_option maxHeartbeats 4000000 in
theorem k_MD_writeOut_0 {l : Launch} {E : xE} {x1 : Int32} {h : xh} {Q : Option Int32 → xh → Prop}
    (o1 : vp_in (h 7 1) 32)
    (e1 : WP l E M_MD_writeOut 12 [(0, .inr 7), (1, .inl (x1)), (2, .inl (nI 0))] [] (hw h 26 ((h 7 1).toNatClampNeg) (x1)) Q) : MC l E M_MD_writeOut [.inr 7, .inl (x1)] h Q := by
  refine wp_aload_n d_MD_writeOut_0 rfl ?_
  refine wp_getR d_MD_writeOut_1 fl_MD_13 rfl rfl ?_
  refine wp_aload_n d_MD_writeOut_4 rfl ?_
  refine wp_getI d_MD_writeOut_5 fl_MD_50 rfl rfl ?_
  refine wp_iload_n d_MD_writeOut_8 rfl ?_
  refine wp_iastore d_MD_writeOut_9 rfl o1 ?_
  refine wp_iconst (v := nI 0) d_MD_writeOut_10 c_iconst_0 ?_
  refine wp_istore_n (ls' := [(0, .inr 7), (1, .inl (x1)), (2, .inl (nI 0))]) d_MD_writeOut_11 (by decide) rfl ?_
  exact e1
set_option maxRecDepth 100000 in
set_option maxHeartbeats 4000000 in
theorem k_MD_writeOut_12 {l : Launch} {E : xE} {x1 x2 : Int32} {h : xh} {Q : Option Int32 → xh → Prop}
    (e1 : (nI 4) ≤ x2 → Q none (hw h 7 1 ((h 7 1) + (nI 1))))
    (o1 : ¬ (nI 4) ≤ x2 → vp_in (x2) 4)
    (o2 : ¬ (nI 4) ≤ x2 → vp_in (((nI 4) * (h 7 1)) + (x2)) 128)
    (e2 : ¬ (nI 4) ≤ x2 → WP l E M_MD_writeOut 12 [(0, .inr 7), (1, .inl (x1)), (2, .inl (x2 + nI 1))] [] (hw h 27 ((((nI 4) * (h 7 1)) + (x2)).toNatClampNeg) (h 32 ((x2).toNatClampNeg))) Q) : WP l E M_MD_writeOut 12 [(0, .inr 7), (1, .inl (x1)), (2, .inl (x2))] [] h Q := by
  refine wp_iload_n d_MD_writeOut_12 rfl ?_
  refine wp_iconst (v := nI 4) d_MD_writeOut_13 c_iconst_4 ?_
  refine wp_ic_ge (tgt := 42) d_MD_writeOut_14 (by decide) (fun c1 => ?_) (fun c1 => ?_)
  · refine wp_aload_n d_MD_writeOut_42 rfl ?_
    refine wp_aload_n d_MD_writeOut_43 rfl ?_
    refine wp_getI d_MD_writeOut_44 fl_MD_50 rfl rfl ?_
    refine wp_iconst (v := nI 1) d_MD_writeOut_47 c_iconst_1 ?_
    refine wp_iadd d_MD_writeOut_48 ?_
    refine wp_putI d_MD_writeOut_49 fm_MD_50 rfl rfl ?_
    refine wp_return d_MD_writeOut_52 rfl ?_
    exact e1 c1
  · refine wp_aload_n d_MD_writeOut_17 rfl ?_
    refine wp_getR d_MD_writeOut_18 fl_MD_16 rfl rfl ?_
    refine wp_iconst (v := nI 4) d_MD_writeOut_21 c_iconst_4 ?_
    refine wp_aload_n d_MD_writeOut_22 rfl ?_
    refine wp_getI d_MD_writeOut_23 fl_MD_50 rfl rfl ?_
    refine wp_imul d_MD_writeOut_26 ?_
    refine wp_iload_n d_MD_writeOut_27 rfl ?_
    refine wp_iadd d_MD_writeOut_28 ?_
    refine wp_aload_n d_MD_writeOut_29 rfl ?_
    refine wp_getR d_MD_writeOut_30 fl_MD_40 rfl rfl ?_
    refine wp_iload_n d_MD_writeOut_33 rfl ?_
    refine wp_iaload d_MD_writeOut_34 rfl (o1 c1) ?_
    refine wp_iastore d_MD_writeOut_35 rfl (o2 c1) ?_
    refine wp_iinc (v := x2 + nI 1) (ls' := [(0, .inr 7), (1, .inl (x1)), (2, .inl (x2 + nI 1))]) d_MD_writeOut_36 rfl (c_inc_1 _) (by decide) rfl ?_
    refine wp_goto (tgt := 12) d_MD_writeOut_39 (by decide) ?_
    exact e2 c1
set_option maxRecDepth 100000 in
set_option maxHeartbeats 4000000 in
theorem k_MD_settle_0 {l : Launch} {E : xE} {x1 x2 : Int32} {h : xh} {Q : Option Int32 → xh → Prop}
    (e1 : WP l E M_MD_settle 2 [(0, .inr 7), (1, .inl (x1)), (2, .inl (x2)), (3, .inl (nI 0))] [] h Q) : MC l E M_MD_settle [.inr 7, .inl (x1), .inl (x2)] h Q := by
  refine wp_iconst (v := nI 0) d_MD_settle_0 c_iconst_0 ?_
  refine wp_istore_n (ls' := [(0, .inr 7), (1, .inl (x1)), (2, .inl (x2)), (3, .inl (nI 0))]) d_MD_settle_1 (by decide) rfl ?_
  exact e1
set_option maxRecDepth 100000 in
set_option maxHeartbeats 4000000 in
theorem k_MD_settle_2 {l : Launch} {E : xE} {x1 x2 x3 : Int32} {h : xh} {Q : Option Int32 → xh → Prop}
    (e1 : x2 ≤ x3 → Q none h)
    (o1 : ¬ x2 ≤ x3 → vp_in (x1) 32)
    (o2 : ¬ x2 ≤ x3 → vp_in (((nI 4) * (x1)) + (x3)) 128)
    (o3 : ¬ x2 ≤ x3 → vp_in (((nI 4) * (h 26 ((x1).toNatClampNeg))) + (x3)) 164)
    (e2 : ¬ x2 ≤ x3 → WP l E M_MD_settle 2 [(0, .inr 7), (1, .inl (x1)), (2, .inl (x2)), (3, .inl (x3 + nI 1))] [] (hw h 25 ((((nI 4) * (h 26 ((x1).toNatClampNeg))) + (x3)).toNatClampNeg) (h 27 ((((nI 4) * (x1)) + (x3)).toNatClampNeg))) Q) : WP l E M_MD_settle 2 [(0, .inr 7), (1, .inl (x1)), (2, .inl (x2)), (3, .inl (x3))] [] h Q := by
  refine wp_iload_n d_MD_settle_2 rfl ?_
  refine wp_iload_n d_MD_settle_3 rfl ?_
  refine wp_ic_ge (tgt := 38) d_MD_settle_4 (by decide) (fun c1 => ?_) (fun c1 => ?_)
  · refine wp_return d_MD_settle_38 rfl ?_
    exact e1 c1
  · refine wp_aload_n d_MD_settle_7 rfl ?_
    refine wp_getR d_MD_settle_8 fl_MD_7 rfl rfl ?_
    refine wp_iconst (v := nI 4) d_MD_settle_11 c_iconst_4 ?_
    refine wp_aload_n d_MD_settle_12 rfl ?_
    refine wp_getR d_MD_settle_13 fl_MD_13 rfl rfl ?_
    refine wp_iload_n d_MD_settle_16 rfl ?_
    refine wp_iaload d_MD_settle_17 rfl (o1 c1) ?_
    refine wp_imul d_MD_settle_18 ?_
    refine wp_iload_n d_MD_settle_19 rfl ?_
    refine wp_iadd d_MD_settle_20 ?_
    refine wp_aload_n d_MD_settle_21 rfl ?_
    refine wp_getR d_MD_settle_22 fl_MD_16 rfl rfl ?_
    refine wp_iconst (v := nI 4) d_MD_settle_25 c_iconst_4 ?_
    refine wp_iload_n d_MD_settle_26 rfl ?_
    refine wp_imul d_MD_settle_27 ?_
    refine wp_iload_n d_MD_settle_28 rfl ?_
    refine wp_iadd d_MD_settle_29 ?_
    refine wp_iaload d_MD_settle_30 rfl (o2 c1) ?_
    refine wp_iastore d_MD_settle_31 rfl (o3 c1) ?_
    refine wp_iinc (v := x3 + nI 1) (ls' := [(0, .inr 7), (1, .inl (x1)), (2, .inl (x2)), (3, .inl (x3 + nI 1))]) d_MD_settle_32 rfl (c_inc_1 _) (by decide) rfl ?_
    refine wp_goto (tgt := 2) d_MD_settle_35 (by decide) ?_
    exact e2 c1
set_option maxRecDepth 100000 in
set_option maxHeartbeats 4000000 in
theorem k_MD_flush_0 {l : Launch} {E : xE} {h : xh} {Q : Option Int32 → xh → Prop}
    (e1 : WP l E M_MD_flush 2 [(0, .inr 7), (1, .inl (nI 0))] [] h Q) : MC l E M_MD_flush [.inr 7] h Q := by
  refine wp_iconst (v := nI 0) d_MD_flush_0 c_iconst_0 ?_
  refine wp_istore_n (ls' := [(0, .inr 7), (1, .inl (nI 0))]) d_MD_flush_1 (by decide) rfl ?_
  exact e1
set_option maxRecDepth 100000 in
set_option maxHeartbeats 4000000 in
theorem k_MD_flush_2 {l : Launch} {E : xE} {x1 : Int32} {h : xh} {Q : Option Int32 → xh → Prop}
    (e1 : (h 7 1) ≤ x1 → Q none (hw h 7 1 (nI 0)))
    (e2 : ¬ (h 7 1) ≤ x1 → MC l E M_MD_settle [.inr 7, .inl (x1), .inl (nI 4)] h (fun r h' => WP l E M_MD_flush 16 [(0, .inr 7), (1, .inl (x1))] (rpush r []) h' Q)) : WP l E M_MD_flush 2 [(0, .inr 7), (1, .inl (x1))] [] h Q := by
  refine wp_iload_n d_MD_flush_2 rfl ?_
  refine wp_aload_n d_MD_flush_3 rfl ?_
  refine wp_getI d_MD_flush_4 fl_MD_50 rfl rfl ?_
  refine wp_ic_ge (tgt := 22) d_MD_flush_7 (by decide) (fun c1 => ?_) (fun c1 => ?_)
  · refine wp_aload_n d_MD_flush_22 rfl ?_
    refine wp_iconst (v := nI 0) d_MD_flush_23 c_iconst_0 ?_
    refine wp_putI d_MD_flush_24 fm_MD_50 rfl rfl ?_
    refine wp_return d_MD_flush_27 rfl ?_
    exact e1 c1
  · refine wp_aload_n d_MD_flush_10 rfl ?_
    refine wp_iload_n d_MD_flush_11 rfl ?_
    refine wp_iconst (v := nI 4) d_MD_flush_12 c_iconst_4 ?_
    refine wp_callV (as := [.inl (x1), .inl (nI 4)]) (rest := []) (Q' := fun r h' => WP l E M_MD_flush 16 [(0, .inr 7), (1, .inl (x1))] (rpush r []) h' Q) d_MD_flush_13 vb_MD_flush_53 ⟨gw_4_2, sw_41⟩ rfl rfl rfl rfl (Nat.le_of_ble_eq_true rfl) rfl (Nat.le_of_ble_eq_true rfl) ?_ (fun r h' z => z)
    exact e2 c1
set_option maxRecDepth 100000 in
set_option maxHeartbeats 4000000 in
theorem k_MD_flush_16 {l : Launch} {E : xE} {x1 : Int32} {h : xh} {Q : Option Int32 → xh → Prop}
    (e1 : WP l E M_MD_flush 2 [(0, .inr 7), (1, .inl (x1 + nI 1))] [] h Q) : WP l E M_MD_flush 16 [(0, .inr 7), (1, .inl (x1))] [] h Q := by
  refine wp_iinc (v := x1 + nI 1) (ls' := [(0, .inr 7), (1, .inl (x1 + nI 1))]) d_MD_flush_16 rfl (c_inc_1 _) (by decide) rfl ?_
  refine wp_goto (tgt := 2) d_MD_flush_19 (by decide) ?_
  exact e1
set_option maxRecDepth 100000 in
set_option maxHeartbeats 4000000 in
theorem k_MD_say_0 {l : Launch} {E : xE} {x1 x2 x3 x4 : Int32} {h : xh} {Q : Option Int32 → xh → Prop}
    (e1 : Q none (hw (hw (hw (hw h 32 ((nI 0).toNatClampNeg) (x1)) 32 ((nI 1).toNatClampNeg) (x2)) 32 ((nI 2).toNatClampNeg) (x3)) 32 ((nI 3).toNatClampNeg) (x4))) : MC l E M_MD_say [.inr 7, .inl (x1), .inl (x2), .inl (x3), .inl (x4)] h Q := by
  refine wp_aload_n d_MD_say_0 rfl ?_
  refine wp_getR d_MD_say_1 fl_MD_40 rfl rfl ?_
  refine wp_iconst (v := nI 0) d_MD_say_4 c_iconst_0 ?_
  refine wp_iload_n d_MD_say_5 rfl ?_
  refine wp_iastore d_MD_say_6 rfl (vp_in_nI (by decide) (by decide)) ?_
  refine wp_aload_n d_MD_say_7 rfl ?_
  refine wp_getR d_MD_say_8 fl_MD_40 rfl rfl ?_
  refine wp_iconst (v := nI 1) d_MD_say_11 c_iconst_1 ?_
  refine wp_iload_n d_MD_say_12 rfl ?_
  refine wp_iastore d_MD_say_13 rfl (vp_in_nI (by decide) (by decide)) ?_
  refine wp_aload_n d_MD_say_14 rfl ?_
  refine wp_getR d_MD_say_15 fl_MD_40 rfl rfl ?_
  refine wp_iconst (v := nI 2) d_MD_say_18 c_iconst_2 ?_
  refine wp_iload_n d_MD_say_19 rfl ?_
  refine wp_iastore d_MD_say_20 rfl (vp_in_nI (by decide) (by decide)) ?_
  refine wp_aload_n d_MD_say_21 rfl ?_
  refine wp_getR d_MD_say_22 fl_MD_40 rfl rfl ?_
  refine wp_iconst (v := nI 3) d_MD_say_25 c_iconst_3 ?_
  refine wp_iload d_MD_say_26 rfl ?_
  refine wp_iastore d_MD_say_28 rfl (vp_in_nI (by decide) (by decide)) ?_
  refine wp_return d_MD_say_29 rfl ?_
  exact e1
set_option maxRecDepth 100000 in
set_option maxHeartbeats 4000000 in
theorem k_MD_countOf_0 {l : Launch} {E : xE} {x1 : Int32} {h : xh} {Q : Option Int32 → xh → Prop}
    (e1 : WP l E M_MD_countOf 4 [(0, .inr 7), (1, .inl (x1)), (2, .inl (nI 0)), (3, .inl (nI 0))] [] h Q) : MC l E M_MD_countOf [.inr 7, .inl (x1)] h Q := by
  refine wp_iconst (v := nI 0) d_MD_countOf_0 c_iconst_0 ?_
  refine wp_istore_n (ls' := [(0, .inr 7), (1, .inl (x1)), (2, .inl (nI 0))]) d_MD_countOf_1 (by decide) rfl ?_
  refine wp_iconst (v := nI 0) d_MD_countOf_2 c_iconst_0 ?_
  refine wp_istore_n (ls' := [(0, .inr 7), (1, .inl (x1)), (2, .inl (nI 0)), (3, .inl (nI 0))]) d_MD_countOf_3 (by decide) rfl ?_
  exact e1
set_option maxRecDepth 100000 in
set_option maxHeartbeats 4000000 in
theorem k_MD_countOf_4 {l : Launch} {E : xE} {x1 x2 x3 : Int32} {h : xh} {Q : Option Int32 → xh → Prop}
    (e1 : (nI 16) ≤ x3 → Q (some (x2)) h)
    (o1 : ¬ (nI 16) ≤ x3 → vp_in (x3) 16)
    (e2 : ¬ (nI 16) ≤ x3 → (h 28 ((x3).toNatClampNeg)) ≠ x1 → WP l E M_MD_countOf 4 [(0, .inr 7), (1, .inl (x1)), (2, .inl (x2)), (3, .inl (x3 + nI 1))] [] h Q)
    (e3 : ¬ (nI 16) ≤ x3 → (h 28 ((x3).toNatClampNeg)) = x1 → WP l E M_MD_countOf 4 [(0, .inr 7), (1, .inl (x1)), (2, .inl ((x2) + (nI 1))), (3, .inl (x3 + nI 1))] [] h Q) : WP l E M_MD_countOf 4 [(0, .inr 7), (1, .inl (x1)), (2, .inl (x2)), (3, .inl (x3))] [] h Q := by
  refine wp_iload_n d_MD_countOf_4 rfl ?_
  refine wp_bipush (v := nI 16) d_MD_countOf_5 c_bipush_16 ?_
  refine wp_ic_ge (tgt := 34) d_MD_countOf_7 (by decide) (fun c1 => ?_) (fun c1 => ?_)
  · refine wp_iload_n d_MD_countOf_34 rfl ?_
    refine wp_ireturn d_MD_countOf_35 rfl ?_
    exact e1 c1
  · refine wp_aload_n d_MD_countOf_10 rfl ?_
    refine wp_getR d_MD_countOf_11 fl_MD_27 rfl rfl ?_
    refine wp_iload_n d_MD_countOf_14 rfl ?_
    refine wp_iaload d_MD_countOf_15 rfl (o1 c1) ?_
    refine wp_iload_n d_MD_countOf_16 rfl ?_
    refine wp_ic_ne (tgt := 26) d_MD_countOf_17 (by decide) (fun c2 => ?_) (fun c2 => ?_)
    · refine wp_iload_n d_MD_countOf_26 rfl ?_
      refine wp_istore_n (ls' := [(0, .inr 7), (1, .inl (x1)), (2, .inl (x2)), (3, .inl (x3))]) d_MD_countOf_27 (by decide) rfl ?_
      refine wp_iinc (v := x3 + nI 1) (ls' := [(0, .inr 7), (1, .inl (x1)), (2, .inl (x2)), (3, .inl (x3 + nI 1))]) d_MD_countOf_28 rfl (c_inc_1 _) (by decide) rfl ?_
      refine wp_goto (tgt := 4) d_MD_countOf_31 (by decide) ?_
      exact e2 c1 c2
    · refine wp_iload_n d_MD_countOf_20 rfl ?_
      refine wp_iconst (v := nI 1) d_MD_countOf_21 c_iconst_1 ?_
      refine wp_iadd d_MD_countOf_22 ?_
      refine wp_goto (tgt := 27) d_MD_countOf_23 (by decide) ?_
      refine wp_istore_n (ls' := [(0, .inr 7), (1, .inl (x1)), (2, .inl ((x2) + (nI 1))), (3, .inl (x3))]) d_MD_countOf_27 (by decide) rfl ?_
      refine wp_iinc (v := x3 + nI 1) (ls' := [(0, .inr 7), (1, .inl (x1)), (2, .inl ((x2) + (nI 1))), (3, .inl (x3 + nI 1))]) d_MD_countOf_28 rfl (c_inc_1 _) (by decide) rfl ?_
      refine wp_goto (tgt := 4) d_MD_countOf_31 (by decide) ?_
      exact e3 c1 c2
set_option maxRecDepth 100000 in
set_option maxHeartbeats 4000000 in
theorem k_MD_get_0 {l : Launch} {E : xE} {x1 x2 : Int32} {h : xh} {Q : Option Int32 → xh → Prop}
    (e1 : (h 7 4) = 0 → Q (some (nI 0)) h)
    (e2 : ¬ (h 7 4) = 0 → x1 < 0 → Q (some (nI 0)) h)
    (e3 : ¬ (h 7 4) = 0 → ¬ x1 < 0 → (nI 15) < x1 → Q (some (nI 0)) h)
    (e4 : ¬ (h 7 4) = 0 → ¬ x1 < 0 → ¬ (nI 15) < x1 → x2 < 0 → Q (some (nI 0)) h)
    (e5 : ¬ (h 7 4) = 0 → ¬ x1 < 0 → ¬ (nI 15) < x1 → ¬ x2 < 0 → (nI 3) < x2 → Q (some (nI 0)) h)
    (o1 : ¬ (h 7 4) = 0 → ¬ x1 < 0 → ¬ (nI 15) < x1 → ¬ x2 < 0 → ¬ (nI 3) < x2 → vp_in (x1) 16)
    (o2 : ¬ (h 7 4) = 0 → ¬ x1 < 0 → ¬ (nI 15) < x1 → ¬ x2 < 0 → ¬ (nI 3) < x2 → (h 28 ((x1).toNatClampNeg)) ≠ (nI 1) → vp_in (x1) 16)
    (e6 : ¬ (h 7 4) = 0 → ¬ x1 < 0 → ¬ (nI 15) < x1 → ¬ x2 < 0 → ¬ (nI 3) < x2 → (h 28 ((x1).toNatClampNeg)) ≠ (nI 1) → (h 30 ((x1).toNatClampNeg)) = 0 → MC l E M_MD_read [.inr 7, .inl (x1), .inl (x2)] h (fun r h' => WP l E M_MD_get 74 [(0, .inr 7), (1, .inl (x1)), (2, .inl (x2))] (rpush r []) h' Q))
    (o3 : ¬ (h 7 4) = 0 → ¬ x1 < 0 → ¬ (nI 15) < x1 → ¬ x2 < 0 → ¬ (nI 3) < x2 → (h 28 ((x1).toNatClampNeg)) ≠ (nI 1) → ¬ (h 30 ((x1).toNatClampNeg)) = 0 → vp_in (((nI 4) * (x1)) + (x2)) 64)
    (e7 : ¬ (h 7 4) = 0 → ¬ x1 < 0 → ¬ (nI 15) < x1 → ¬ x2 < 0 → ¬ (nI 3) < x2 → (h 28 ((x1).toNatClampNeg)) ≠ (nI 1) → ¬ (h 30 ((x1).toNatClampNeg)) = 0 → Q (some (h 31 ((((nI 4) * (x1)) + (x2)).toNatClampNeg))) h)
    (o4 : ¬ (h 7 4) = 0 → ¬ x1 < 0 → ¬ (nI 15) < x1 → ¬ x2 < 0 → ¬ (nI 3) < x2 → (h 28 ((x1).toNatClampNeg)) = (nI 1) → vp_in (((nI 4) * (x1)) + (x2)) 64)
    (e8 : ¬ (h 7 4) = 0 → ¬ x1 < 0 → ¬ (nI 15) < x1 → ¬ x2 < 0 → ¬ (nI 3) < x2 → (h 28 ((x1).toNatClampNeg)) = (nI 1) → Q (some (h 29 ((((nI 4) * (x1)) + (x2)).toNatClampNeg))) h) : MC l E M_MD_get [.inr 7, .inl (x1), .inl (x2)] h Q := by
  refine wp_aload_n d_MD_get_0 rfl ?_
  refine wp_getI d_MD_get_1 fl_MD_19 rfl rfl ?_
  refine wp_if_eq (tgt := 21) d_MD_get_4 (by decide) (fun c1 => ?_) (fun c1 => ?_)
  · refine wp_iconst (v := nI 0) d_MD_get_21 c_iconst_0 ?_
    refine wp_ireturn d_MD_get_22 rfl ?_
    exact e1 c1
  · refine wp_iload_n d_MD_get_7 rfl ?_
    refine wp_callS (as := [.inl (x1)]) (rest := []) (Q' := fun r h' => WP l E M_MD_get 11 [(0, .inr 7), (1, .inl (x1)), (2, .inl (x2))] (rpush r []) h' _) d_MD_get_8 vb_MD_get_58 gw_3_117 rfl (Nat.le_of_ble_eq_true rfl) rfl (Nat.le_of_ble_eq_true rfl) ?_ (fun r h' z => z)
    show WP l E M_MD_isBlock 0 [(0, .inl (x1))] [] h _
    refine wp_iload_n d_MD_isBlock_0 rfl ?_
    refine wp_if_lt (tgt := 14) d_MD_isBlock_1 (by decide) (fun c2 => ?_) (fun c2 => ?_)
    · refine wp_iconst (v := nI 0) d_MD_isBlock_14 c_iconst_0 ?_
      refine wp_zreturn d_MD_isBlock_15 rfl (by decide) ?_
      show WP l E M_MD_get 11 [(0, .inr 7), (1, .inl (x1)), (2, .inl (x2))] [.inl (nI 0)] h _
      refine wp_if_eq (tgt := 21) d_MD_get_11 (by decide) (fun _ => ?_) (fun z => absurd z (by decide +kernel))
      refine wp_iconst (v := nI 0) d_MD_get_21 c_iconst_0 ?_
      refine wp_ireturn d_MD_get_22 rfl ?_
      exact e2 c1 c2
    · refine wp_iload_n d_MD_isBlock_4 rfl ?_
      refine wp_bipush (v := nI 15) d_MD_isBlock_5 c_bipush_15 ?_
      refine wp_ic_gt (tgt := 14) d_MD_isBlock_7 (by decide) (fun c3 => ?_) (fun c3 => ?_)
      · refine wp_iconst (v := nI 0) d_MD_isBlock_14 c_iconst_0 ?_
        refine wp_zreturn d_MD_isBlock_15 rfl (by decide) ?_
        show WP l E M_MD_get 11 [(0, .inr 7), (1, .inl (x1)), (2, .inl (x2))] [.inl (nI 0)] h _
        refine wp_if_eq (tgt := 21) d_MD_get_11 (by decide) (fun _ => ?_) (fun z => absurd z (by decide +kernel))
        refine wp_iconst (v := nI 0) d_MD_get_21 c_iconst_0 ?_
        refine wp_ireturn d_MD_get_22 rfl ?_
        exact e3 c1 c2 c3
      · refine wp_iconst (v := nI 1) d_MD_isBlock_10 c_iconst_1 ?_
        refine wp_goto (tgt := 15) d_MD_isBlock_11 (by decide) ?_
        refine wp_zreturn d_MD_isBlock_15 rfl (by decide) ?_
        show WP l E M_MD_get 11 [(0, .inr 7), (1, .inl (x1)), (2, .inl (x2))] [.inl (nI 1)] h _
        refine wp_if_eq (tgt := 21) d_MD_get_11 (by decide) (fun z => absurd z (by decide +kernel)) (fun _ => ?_)
        refine wp_iload_n d_MD_get_14 rfl ?_
        refine wp_callS (as := [.inl (x2)]) (rest := []) (Q' := fun r h' => WP l E M_MD_get 18 [(0, .inr 7), (1, .inl (x1)), (2, .inl (x2))] (rpush r []) h' _) d_MD_get_15 vb_MD_get_62 gw_3_120 rfl (Nat.le_of_ble_eq_true rfl) rfl (Nat.le_of_ble_eq_true rfl) ?_ (fun r h' z => z)
        show WP l E M_MD_isWord 0 [(0, .inl (x2))] [] h _
        refine wp_iload_n d_MD_isWord_0 rfl ?_
        refine wp_if_lt (tgt := 13) d_MD_isWord_1 (by decide) (fun c4 => ?_) (fun c4 => ?_)
        · refine wp_iconst (v := nI 0) d_MD_isWord_13 c_iconst_0 ?_
          refine wp_zreturn d_MD_isWord_14 rfl (by decide) ?_
          show WP l E M_MD_get 18 [(0, .inr 7), (1, .inl (x1)), (2, .inl (x2))] [.inl (nI 0)] h _
          refine wp_if_ne (tgt := 23) d_MD_get_18 (by decide) (fun z => absurd z (by decide +kernel)) (fun _ => ?_)
          refine wp_iconst (v := nI 0) d_MD_get_21 c_iconst_0 ?_
          refine wp_ireturn d_MD_get_22 rfl ?_
          exact e4 c1 c2 c3 c4
        · refine wp_iload_n d_MD_isWord_4 rfl ?_
          refine wp_iconst (v := nI 3) d_MD_isWord_5 c_iconst_3 ?_
          refine wp_ic_gt (tgt := 13) d_MD_isWord_6 (by decide) (fun c5 => ?_) (fun c5 => ?_)
          · refine wp_iconst (v := nI 0) d_MD_isWord_13 c_iconst_0 ?_
            refine wp_zreturn d_MD_isWord_14 rfl (by decide) ?_
            show WP l E M_MD_get 18 [(0, .inr 7), (1, .inl (x1)), (2, .inl (x2))] [.inl (nI 0)] h _
            refine wp_if_ne (tgt := 23) d_MD_get_18 (by decide) (fun z => absurd z (by decide +kernel)) (fun _ => ?_)
            refine wp_iconst (v := nI 0) d_MD_get_21 c_iconst_0 ?_
            refine wp_ireturn d_MD_get_22 rfl ?_
            exact e5 c1 c2 c3 c4 c5
          · refine wp_iconst (v := nI 1) d_MD_isWord_9 c_iconst_1 ?_
            refine wp_goto (tgt := 14) d_MD_isWord_10 (by decide) ?_
            refine wp_zreturn d_MD_isWord_14 rfl (by decide) ?_
            show WP l E M_MD_get 18 [(0, .inr 7), (1, .inl (x1)), (2, .inl (x2))] [.inl (nI 1)] h _
            refine wp_if_ne (tgt := 23) d_MD_get_18 (by decide) (fun _ => ?_) (fun z => absurd z (by decide +kernel))
            refine wp_aload_n d_MD_get_23 rfl ?_
            refine wp_getR d_MD_get_24 fl_MD_27 rfl rfl ?_
            refine wp_iload_n d_MD_get_27 rfl ?_
            refine wp_iaload d_MD_get_28 rfl (o1 c1 c2 c3 c4 c5) ?_
            refine wp_iconst (v := nI 1) d_MD_get_29 c_iconst_1 ?_
            refine wp_ic_ne (tgt := 46) d_MD_get_30 (by decide) (fun c6 => ?_) (fun c6 => ?_)
            · refine wp_aload_n d_MD_get_46 rfl ?_
              refine wp_getR d_MD_get_47 fl_MD_33 rfl rfl ?_
              refine wp_iload_n d_MD_get_50 rfl ?_
              refine wp_baload d_MD_get_51 rfl (o2 c1 c2 c3 c4 c5 c6) ?_
              refine wp_if_eq (tgt := 68) d_MD_get_52 (by decide) (fun c7 => ?_) (fun c7 => ?_)
              · refine wp_aload_n d_MD_get_68 rfl ?_
                refine wp_iload_n d_MD_get_69 rfl ?_
                refine wp_iload_n d_MD_get_70 rfl ?_
                refine wp_callV (as := [.inl (x1), .inl (x2)]) (rest := []) (Q' := fun r h' => WP l E M_MD_get 74 [(0, .inr 7), (1, .inl (x1)), (2, .inl (x2))] (rpush r []) h' Q) d_MD_get_71 vb_MD_get_65 ⟨gw_3_101, gw_3_102⟩ rfl rfl rfl rfl (Nat.le_of_ble_eq_true rfl) rfl (Nat.le_of_ble_eq_true rfl) ?_ (fun r h' z => z)
                exact e6 c1 c2 c3 c4 c5 c6 c7
              · refine wp_aload_n d_MD_get_55 rfl ?_
                refine wp_getR d_MD_get_56 fl_MD_37 rfl rfl ?_
                refine wp_iconst (v := nI 4) d_MD_get_59 c_iconst_4 ?_
                refine wp_iload_n d_MD_get_60 rfl ?_
                refine wp_imul d_MD_get_61 ?_
                refine wp_iload_n d_MD_get_62 rfl ?_
                refine wp_iadd d_MD_get_63 ?_
                refine wp_iaload d_MD_get_64 rfl (o3 c1 c2 c3 c4 c5 c6 c7) ?_
                refine wp_goto (tgt := 74) d_MD_get_65 (by decide) ?_
                refine wp_ireturn d_MD_get_74 rfl ?_
                exact e7 c1 c2 c3 c4 c5 c6 c7
            · refine wp_aload_n d_MD_get_33 rfl ?_
              refine wp_getR d_MD_get_34 fl_MD_30 rfl rfl ?_
              refine wp_iconst (v := nI 4) d_MD_get_37 c_iconst_4 ?_
              refine wp_iload_n d_MD_get_38 rfl ?_
              refine wp_imul d_MD_get_39 ?_
              refine wp_iload_n d_MD_get_40 rfl ?_
              refine wp_iadd d_MD_get_41 ?_
              refine wp_iaload d_MD_get_42 rfl (o4 c1 c2 c3 c4 c5 c6) ?_
              refine wp_goto (tgt := 74) d_MD_get_43 (by decide) ?_
              refine wp_ireturn d_MD_get_74 rfl ?_
              exact e8 c1 c2 c3 c4 c5 c6
set_option maxRecDepth 100000 in
set_option maxHeartbeats 4000000 in
theorem k_MD_get_74 {l : Launch} {E : xE} {v0 x1 x2 : Int32} {h : xh} {Q : Option Int32 → xh → Prop}
    (e1 : Q (some (v0)) h) : WP l E M_MD_get 74 [(0, .inr 7), (1, .inl (x1)), (2, .inl (x2))] [.inl (v0)] h Q := by
  refine wp_ireturn d_MD_get_74 rfl ?_
  exact e1
set_option maxRecDepth 100000 in
set_option maxHeartbeats 4000000 in
theorem k_MD_put_0 {l : Launch} {E : xE} {x1 x2 x3 : Int32} {h : xh} {Q : Option Int32 → xh → Prop}
    (e1 : (h 7 4) = 0 → Q (some (nI 0)) h)
    (e2 : ¬ (h 7 4) = 0 → (h 7 12) ≠ 0 → Q (some (nI 0)) h)
    (e3 : ¬ (h 7 4) = 0 → (h 7 12) = 0 → x1 < 0 → Q (some (nI 0)) h)
    (e4 : ¬ (h 7 4) = 0 → (h 7 12) = 0 → ¬ x1 < 0 → (nI 15) < x1 → Q (some (nI 0)) h)
    (e5 : ¬ (h 7 4) = 0 → (h 7 12) = 0 → ¬ x1 < 0 → ¬ (nI 15) < x1 → x2 < 0 → Q (some (nI 0)) h)
    (e6 : ¬ (h 7 4) = 0 → (h 7 12) = 0 → ¬ x1 < 0 → ¬ (nI 15) < x1 → ¬ x2 < 0 → (nI 3) < x2 → Q (some (nI 0)) h)
    (o1 : ¬ (h 7 4) = 0 → (h 7 12) = 0 → ¬ x1 < 0 → ¬ (nI 15) < x1 → ¬ x2 < 0 → ¬ (nI 3) < x2 → vp_in (x1) 16)
    (e7 : ¬ (h 7 4) = 0 → (h 7 12) = 0 → ¬ x1 < 0 → ¬ (nI 15) < x1 → ¬ x2 < 0 → ¬ (nI 3) < x2 → (h 28 ((x1).toNatClampNeg)) = (nI 1) → WP l E M_MD_put 46 [(0, .inr 7), (1, .inl (x1)), (2, .inl (x2)), (3, .inl (x3)), (4, .inl (nI 0))] [] h Q)
    (e8 : ¬ (h 7 4) = 0 → (h 7 12) = 0 → ¬ x1 < 0 → ¬ (nI 15) < x1 → ¬ x2 < 0 → ¬ (nI 3) < x2 → ¬ (h 28 ((x1).toNatClampNeg)) = (nI 1) → MC l E M_MD_countOf [.inr 7, .inl (nI 1)] h (fun r h' => WP l E M_MD_put 36 [(0, .inr 7), (1, .inl (x1)), (2, .inl (x2)), (3, .inl (x3))] (rpush r []) h' Q)) : MC l E M_MD_put [.inr 7, .inl (x1), .inl (x2), .inl (x3)] h Q := by
  refine wp_aload_n d_MD_put_0 rfl ?_
  refine wp_callV (as := []) (rest := []) (Q' := fun r h' => WP l E M_MD_put 4 [(0, .inr 7), (1, .inl (x1)), (2, .inl (x2)), (3, .inl (x3))] (rpush r []) h' _) d_MD_put_1 vb_MD_put_72 ⟨gw_3_129, sw_21⟩ rfl rfl rfl rfl (Nat.le_of_ble_eq_true rfl) rfl (Nat.le_of_ble_eq_true rfl) ?_ (fun r h' z => z)
  show WP l E M_MD_idle 0 [(0, .inr 7)] [] h _
  refine wp_aload_n d_MD_idle_0 rfl ?_
  refine wp_getI d_MD_idle_1 fl_MD_19 rfl rfl ?_
  refine wp_if_eq (tgt := 18) d_MD_idle_4 (by decide) (fun c1 => ?_) (fun c1 => ?_)
  · refine wp_iconst (v := nI 0) d_MD_idle_18 c_iconst_0 ?_
    refine wp_zreturn d_MD_idle_19 rfl (by decide) ?_
    show WP l E M_MD_put 4 [(0, .inr 7), (1, .inl (x1)), (2, .inl (x2)), (3, .inl (x3))] [.inl (nI 0)] h _
    refine wp_if_eq (tgt := 41) d_MD_put_4 (by decide) (fun _ => ?_) (fun z => absurd z (by decide +kernel))
    refine wp_iconst (v := nI 0) d_MD_put_41 c_iconst_0 ?_
    refine wp_zreturn d_MD_put_42 rfl (by decide) ?_
    exact e1 c1
  · refine wp_aload_n d_MD_idle_7 rfl ?_
    refine wp_getI d_MD_idle_8 fl_MD_69 rfl rfl ?_
    refine wp_if_ne (tgt := 18) d_MD_idle_11 (by decide) (fun c2 => ?_) (fun c2 => ?_)
    · refine wp_iconst (v := nI 0) d_MD_idle_18 c_iconst_0 ?_
      refine wp_zreturn d_MD_idle_19 rfl (by decide) ?_
      show WP l E M_MD_put 4 [(0, .inr 7), (1, .inl (x1)), (2, .inl (x2)), (3, .inl (x3))] [.inl (nI 0)] h _
      refine wp_if_eq (tgt := 41) d_MD_put_4 (by decide) (fun _ => ?_) (fun z => absurd z (by decide +kernel))
      refine wp_iconst (v := nI 0) d_MD_put_41 c_iconst_0 ?_
      refine wp_zreturn d_MD_put_42 rfl (by decide) ?_
      exact e2 c1 c2
    · refine wp_iconst (v := nI 1) d_MD_idle_14 c_iconst_1 ?_
      refine wp_goto (tgt := 19) d_MD_idle_15 (by decide) ?_
      refine wp_zreturn d_MD_idle_19 rfl (by decide) ?_
      show WP l E M_MD_put 4 [(0, .inr 7), (1, .inl (x1)), (2, .inl (x2)), (3, .inl (x3))] [.inl (nI 1)] h _
      refine wp_if_eq (tgt := 41) d_MD_put_4 (by decide) (fun z => absurd z (by decide +kernel)) (fun _ => ?_)
      refine wp_iload_n d_MD_put_7 rfl ?_
      refine wp_callS (as := [.inl (x1)]) (rest := []) (Q' := fun r h' => WP l E M_MD_put 11 [(0, .inr 7), (1, .inl (x1)), (2, .inl (x2)), (3, .inl (x3))] (rpush r []) h' _) d_MD_put_8 vb_MD_put_58 gw_3_117 rfl (Nat.le_of_ble_eq_true rfl) rfl (Nat.le_of_ble_eq_true rfl) ?_ (fun r h' z => z)
      show WP l E M_MD_isBlock 0 [(0, .inl (x1))] [] h _
      refine wp_iload_n d_MD_isBlock_0 rfl ?_
      refine wp_if_lt (tgt := 14) d_MD_isBlock_1 (by decide) (fun c3 => ?_) (fun c3 => ?_)
      · refine wp_iconst (v := nI 0) d_MD_isBlock_14 c_iconst_0 ?_
        refine wp_zreturn d_MD_isBlock_15 rfl (by decide) ?_
        show WP l E M_MD_put 11 [(0, .inr 7), (1, .inl (x1)), (2, .inl (x2)), (3, .inl (x3))] [.inl (nI 0)] h _
        refine wp_if_eq (tgt := 41) d_MD_put_11 (by decide) (fun _ => ?_) (fun z => absurd z (by decide +kernel))
        refine wp_iconst (v := nI 0) d_MD_put_41 c_iconst_0 ?_
        refine wp_zreturn d_MD_put_42 rfl (by decide) ?_
        exact e3 c1 c2 c3
      · refine wp_iload_n d_MD_isBlock_4 rfl ?_
        refine wp_bipush (v := nI 15) d_MD_isBlock_5 c_bipush_15 ?_
        refine wp_ic_gt (tgt := 14) d_MD_isBlock_7 (by decide) (fun c4 => ?_) (fun c4 => ?_)
        · refine wp_iconst (v := nI 0) d_MD_isBlock_14 c_iconst_0 ?_
          refine wp_zreturn d_MD_isBlock_15 rfl (by decide) ?_
          show WP l E M_MD_put 11 [(0, .inr 7), (1, .inl (x1)), (2, .inl (x2)), (3, .inl (x3))] [.inl (nI 0)] h _
          refine wp_if_eq (tgt := 41) d_MD_put_11 (by decide) (fun _ => ?_) (fun z => absurd z (by decide +kernel))
          refine wp_iconst (v := nI 0) d_MD_put_41 c_iconst_0 ?_
          refine wp_zreturn d_MD_put_42 rfl (by decide) ?_
          exact e4 c1 c2 c3 c4
        · refine wp_iconst (v := nI 1) d_MD_isBlock_10 c_iconst_1 ?_
          refine wp_goto (tgt := 15) d_MD_isBlock_11 (by decide) ?_
          refine wp_zreturn d_MD_isBlock_15 rfl (by decide) ?_
          show WP l E M_MD_put 11 [(0, .inr 7), (1, .inl (x1)), (2, .inl (x2)), (3, .inl (x3))] [.inl (nI 1)] h _
          refine wp_if_eq (tgt := 41) d_MD_put_11 (by decide) (fun z => absurd z (by decide +kernel)) (fun _ => ?_)
          refine wp_iload_n d_MD_put_14 rfl ?_
          refine wp_callS (as := [.inl (x2)]) (rest := []) (Q' := fun r h' => WP l E M_MD_put 18 [(0, .inr 7), (1, .inl (x1)), (2, .inl (x2)), (3, .inl (x3))] (rpush r []) h' _) d_MD_put_15 vb_MD_put_62 gw_3_120 rfl (Nat.le_of_ble_eq_true rfl) rfl (Nat.le_of_ble_eq_true rfl) ?_ (fun r h' z => z)
          show WP l E M_MD_isWord 0 [(0, .inl (x2))] [] h _
          refine wp_iload_n d_MD_isWord_0 rfl ?_
          refine wp_if_lt (tgt := 13) d_MD_isWord_1 (by decide) (fun c5 => ?_) (fun c5 => ?_)
          · refine wp_iconst (v := nI 0) d_MD_isWord_13 c_iconst_0 ?_
            refine wp_zreturn d_MD_isWord_14 rfl (by decide) ?_
            show WP l E M_MD_put 18 [(0, .inr 7), (1, .inl (x1)), (2, .inl (x2)), (3, .inl (x3))] [.inl (nI 0)] h _
            refine wp_if_eq (tgt := 41) d_MD_put_18 (by decide) (fun _ => ?_) (fun z => absurd z (by decide +kernel))
            refine wp_iconst (v := nI 0) d_MD_put_41 c_iconst_0 ?_
            refine wp_zreturn d_MD_put_42 rfl (by decide) ?_
            exact e5 c1 c2 c3 c4 c5
          · refine wp_iload_n d_MD_isWord_4 rfl ?_
            refine wp_iconst (v := nI 3) d_MD_isWord_5 c_iconst_3 ?_
            refine wp_ic_gt (tgt := 13) d_MD_isWord_6 (by decide) (fun c6 => ?_) (fun c6 => ?_)
            · refine wp_iconst (v := nI 0) d_MD_isWord_13 c_iconst_0 ?_
              refine wp_zreturn d_MD_isWord_14 rfl (by decide) ?_
              show WP l E M_MD_put 18 [(0, .inr 7), (1, .inl (x1)), (2, .inl (x2)), (3, .inl (x3))] [.inl (nI 0)] h _
              refine wp_if_eq (tgt := 41) d_MD_put_18 (by decide) (fun _ => ?_) (fun z => absurd z (by decide +kernel))
              refine wp_iconst (v := nI 0) d_MD_put_41 c_iconst_0 ?_
              refine wp_zreturn d_MD_put_42 rfl (by decide) ?_
              exact e6 c1 c2 c3 c4 c5 c6
            · refine wp_iconst (v := nI 1) d_MD_isWord_9 c_iconst_1 ?_
              refine wp_goto (tgt := 14) d_MD_isWord_10 (by decide) ?_
              refine wp_zreturn d_MD_isWord_14 rfl (by decide) ?_
              show WP l E M_MD_put 18 [(0, .inr 7), (1, .inl (x1)), (2, .inl (x2)), (3, .inl (x3))] [.inl (nI 1)] h _
              refine wp_if_eq (tgt := 41) d_MD_put_18 (by decide) (fun z => absurd z (by decide +kernel)) (fun _ => ?_)
              refine wp_aload_n d_MD_put_21 rfl ?_
              refine wp_getR d_MD_put_22 fl_MD_27 rfl rfl ?_
              refine wp_iload_n d_MD_put_25 rfl ?_
              refine wp_iaload d_MD_put_26 rfl (o1 c1 c2 c3 c4 c5 c6) ?_
              refine wp_iconst (v := nI 1) d_MD_put_27 c_iconst_1 ?_
              refine wp_ic_eq (tgt := 43) d_MD_put_28 (by decide) (fun c7 => ?_) (fun c7 => ?_)
              · refine wp_iconst (v := nI 0) d_MD_put_43 c_iconst_0 ?_
                refine wp_istore (ls' := [(0, .inr 7), (1, .inl (x1)), (2, .inl (x2)), (3, .inl (x3)), (4, .inl (nI 0))]) d_MD_put_44 (by decide) rfl ?_
                exact e7 c1 c2 c3 c4 c5 c6 c7
              · refine wp_aload_n d_MD_put_31 rfl ?_
                refine wp_iconst (v := nI 1) d_MD_put_32 c_iconst_1 ?_
                refine wp_callV (as := [.inl (nI 1)]) (rest := []) (Q' := fun r h' => WP l E M_MD_put 36 [(0, .inr 7), (1, .inl (x1)), (2, .inl (x2)), (3, .inl (x3))] (rpush r []) h' Q) d_MD_put_33 vb_MD_put_76 ⟨gw_3_133, sw_22⟩ rfl rfl rfl rfl (Nat.le_of_ble_eq_true rfl) rfl (Nat.le_of_ble_eq_true rfl) ?_ (fun r h' z => z)
                exact e8 c1 c2 c3 c4 c5 c6 c7
set_option maxRecDepth 100000 in
set_option maxHeartbeats 4000000 in
theorem k_MD_put_46 {l : Launch} {E : xE} {x1 x2 x3 x4 : Int32} {h : xh} {Q : Option Int32 → xh → Prop}
    (o1 : (nI 4) ≤ x4 → vp_in (x1) 16)
    (o2 : (nI 4) ≤ x4 → vp_in (((nI 4) * (x1)) + (x2)) 64)
    (e1 : (nI 4) ≤ x4 → Q (some (nI 1)) (hw (hw h 28 ((x1).toNatClampNeg) (nI 1)) 29 ((((nI 4) * (x1)) + (x2)).toNatClampNeg) (x3)))
    (e2 : ¬ (nI 4) ≤ x4 → MC l E M_MD_get [.inr 7, .inl (x1), .inl (x4)] h (fun r h' => WP l E M_MD_put 69 [(0, .inr 7), (1, .inl (x1)), (2, .inl (x2)), (3, .inl (x3)), (4, .inl (x4))] (rpush r [.inl (((nI 4) * (x1)) + (x4)), .inr 29]) h' Q)) : WP l E M_MD_put 46 [(0, .inr 7), (1, .inl (x1)), (2, .inl (x2)), (3, .inl (x3)), (4, .inl (x4))] [] h Q := by
  refine wp_iload d_MD_put_46 rfl ?_
  refine wp_iconst (v := nI 4) d_MD_put_48 c_iconst_4 ?_
  refine wp_ic_ge (tgt := 76) d_MD_put_49 (by decide) (fun c1 => ?_) (fun c1 => ?_)
  · refine wp_aload_n d_MD_put_76 rfl ?_
    refine wp_getR d_MD_put_77 fl_MD_27 rfl rfl ?_
    refine wp_iload_n d_MD_put_80 rfl ?_
    refine wp_iconst (v := nI 1) d_MD_put_81 c_iconst_1 ?_
    refine wp_iastore d_MD_put_82 rfl (o1 c1) ?_
    refine wp_aload_n d_MD_put_83 rfl ?_
    refine wp_getR d_MD_put_84 fl_MD_30 rfl rfl ?_
    refine wp_iconst (v := nI 4) d_MD_put_87 c_iconst_4 ?_
    refine wp_iload_n d_MD_put_88 rfl ?_
    refine wp_imul d_MD_put_89 ?_
    refine wp_iload_n d_MD_put_90 rfl ?_
    refine wp_iadd d_MD_put_91 ?_
    refine wp_iload_n d_MD_put_92 rfl ?_
    refine wp_iastore d_MD_put_93 rfl (o2 c1) ?_
    refine wp_iconst (v := nI 1) d_MD_put_94 c_iconst_1 ?_
    refine wp_zreturn d_MD_put_95 rfl (by decide) ?_
    exact e1 c1
  · refine wp_aload_n d_MD_put_52 rfl ?_
    refine wp_getR d_MD_put_53 fl_MD_30 rfl rfl ?_
    refine wp_iconst (v := nI 4) d_MD_put_56 c_iconst_4 ?_
    refine wp_iload_n d_MD_put_57 rfl ?_
    refine wp_imul d_MD_put_58 ?_
    refine wp_iload d_MD_put_59 rfl ?_
    refine wp_iadd d_MD_put_61 ?_
    refine wp_aload_n d_MD_put_62 rfl ?_
    refine wp_iload_n d_MD_put_63 rfl ?_
    refine wp_iload d_MD_put_64 rfl ?_
    refine wp_callV (as := [.inl (x1), .inl (x4)]) (rest := [.inl (((nI 4) * (x1)) + (x4)), .inr 29]) (Q' := fun r h' => WP l E M_MD_put 69 [(0, .inr 7), (1, .inl (x1)), (2, .inl (x2)), (3, .inl (x3)), (4, .inl (x4))] (rpush r [.inl (((nI 4) * (x1)) + (x4)), .inr 29]) h' Q) d_MD_put_66 vb_MD_put_80 ⟨gw_3_113, gw_3_114⟩ rfl rfl rfl rfl (Nat.le_of_ble_eq_true rfl) rfl (Nat.le_of_ble_eq_true rfl) ?_ (fun r h' z => z)
    exact e2 c1
set_option maxRecDepth 100000 in
set_option maxHeartbeats 4000000 in
theorem k_MD_put_36 {l : Launch} {E : xE} {v0 x1 x2 x3 : Int32} {h : xh} {Q : Option Int32 → xh → Prop}
    (e1 : v0 < (nI 8) → WP l E M_MD_put 46 [(0, .inr 7), (1, .inl (x1)), (2, .inl (x2)), (3, .inl (x3)), (4, .inl (nI 0))] [] h Q)
    (e2 : ¬ v0 < (nI 8) → Q (some (nI 0)) h) : WP l E M_MD_put 36 [(0, .inr 7), (1, .inl (x1)), (2, .inl (x2)), (3, .inl (x3))] [.inl (v0)] h Q := by
  refine wp_bipush (v := nI 8) d_MD_put_36 c_bipush_8 ?_
  refine wp_ic_lt (tgt := 43) d_MD_put_38 (by decide) (fun c1 => ?_) (fun c1 => ?_)
  · refine wp_iconst (v := nI 0) d_MD_put_43 c_iconst_0 ?_
    refine wp_istore (ls' := [(0, .inr 7), (1, .inl (x1)), (2, .inl (x2)), (3, .inl (x3)), (4, .inl (nI 0))]) d_MD_put_44 (by decide) rfl ?_
    exact e1 c1
  · refine wp_iconst (v := nI 0) d_MD_put_41 c_iconst_0 ?_
    refine wp_zreturn d_MD_put_42 rfl (by decide) ?_
    exact e2 c1
set_option maxRecDepth 100000 in
set_option maxHeartbeats 4000000 in
theorem k_MD_put_69 {l : Launch} {E : xE} {s1 v0 x1 x2 x3 x4 : Int32} {h : xh} {Q : Option Int32 → xh → Prop}
    (o1 : vp_in (s1) 64)
    (e1 : WP l E M_MD_put 46 [(0, .inr 7), (1, .inl (x1)), (2, .inl (x2)), (3, .inl (x3)), (4, .inl (x4 + nI 1))] [] (hw h 29 ((s1).toNatClampNeg) (v0)) Q) : WP l E M_MD_put 69 [(0, .inr 7), (1, .inl (x1)), (2, .inl (x2)), (3, .inl (x3)), (4, .inl (x4))] [.inl (v0), .inl (s1), .inr 29] h Q := by
  refine wp_iastore d_MD_put_69 rfl o1 ?_
  refine wp_iinc (v := x4 + nI 1) (ls' := [(0, .inr 7), (1, .inl (x1)), (2, .inl (x2)), (3, .inl (x3)), (4, .inl (x4 + nI 1))]) d_MD_put_70 rfl (c_inc_1 _) (by decide) rfl ?_
  refine wp_goto (tgt := 46) d_MD_put_73 (by decide) ?_
  exact e1
set_option maxRecDepth 100000 in
set_option maxHeartbeats 4000000 in
theorem k_MD_revoke_0 {l : Launch} {E : xE} {x1 : Int32} {h : xh} {Q : Option Int32 → xh → Prop}
    (e1 : (h 7 4) = 0 → Q (some (nI 0)) h)
    (e2 : ¬ (h 7 4) = 0 → (h 7 12) ≠ 0 → Q (some (nI 0)) h)
    (e3 : ¬ (h 7 4) = 0 → (h 7 12) = 0 → x1 < 0 → Q (some (nI 0)) h)
    (e4 : ¬ (h 7 4) = 0 → (h 7 12) = 0 → ¬ x1 < 0 → (nI 15) < x1 → Q (some (nI 0)) h)
    (o1 : ¬ (h 7 4) = 0 → (h 7 12) = 0 → ¬ x1 < 0 → ¬ (nI 15) < x1 → vp_in (x1) 16)
    (e5 : ¬ (h 7 4) = 0 → (h 7 12) = 0 → ¬ x1 < 0 → ¬ (nI 15) < x1 → Q (some (nI 1)) (hw h 28 ((x1).toNatClampNeg) (nI 2))) : MC l E M_MD_revoke [.inr 7, .inl (x1)] h Q := by
  refine wp_aload_n d_MD_revoke_0 rfl ?_
  refine wp_callV (as := []) (rest := []) (Q' := fun r h' => WP l E M_MD_revoke 4 [(0, .inr 7), (1, .inl (x1))] (rpush r []) h' _) d_MD_revoke_1 vb_MD_revoke_72 ⟨gw_3_129, sw_21⟩ rfl rfl rfl rfl (Nat.le_of_ble_eq_true rfl) rfl (Nat.le_of_ble_eq_true rfl) ?_ (fun r h' z => z)
  show WP l E M_MD_idle 0 [(0, .inr 7)] [] h _
  refine wp_aload_n d_MD_idle_0 rfl ?_
  refine wp_getI d_MD_idle_1 fl_MD_19 rfl rfl ?_
  refine wp_if_eq (tgt := 18) d_MD_idle_4 (by decide) (fun c1 => ?_) (fun c1 => ?_)
  · refine wp_iconst (v := nI 0) d_MD_idle_18 c_iconst_0 ?_
    refine wp_zreturn d_MD_idle_19 rfl (by decide) ?_
    show WP l E M_MD_revoke 4 [(0, .inr 7), (1, .inl (x1))] [.inl (nI 0)] h _
    refine wp_if_eq (tgt := 14) d_MD_revoke_4 (by decide) (fun _ => ?_) (fun z => absurd z (by decide +kernel))
    refine wp_iconst (v := nI 0) d_MD_revoke_14 c_iconst_0 ?_
    refine wp_zreturn d_MD_revoke_15 rfl (by decide) ?_
    exact e1 c1
  · refine wp_aload_n d_MD_idle_7 rfl ?_
    refine wp_getI d_MD_idle_8 fl_MD_69 rfl rfl ?_
    refine wp_if_ne (tgt := 18) d_MD_idle_11 (by decide) (fun c2 => ?_) (fun c2 => ?_)
    · refine wp_iconst (v := nI 0) d_MD_idle_18 c_iconst_0 ?_
      refine wp_zreturn d_MD_idle_19 rfl (by decide) ?_
      show WP l E M_MD_revoke 4 [(0, .inr 7), (1, .inl (x1))] [.inl (nI 0)] h _
      refine wp_if_eq (tgt := 14) d_MD_revoke_4 (by decide) (fun _ => ?_) (fun z => absurd z (by decide +kernel))
      refine wp_iconst (v := nI 0) d_MD_revoke_14 c_iconst_0 ?_
      refine wp_zreturn d_MD_revoke_15 rfl (by decide) ?_
      exact e2 c1 c2
    · refine wp_iconst (v := nI 1) d_MD_idle_14 c_iconst_1 ?_
      refine wp_goto (tgt := 19) d_MD_idle_15 (by decide) ?_
      refine wp_zreturn d_MD_idle_19 rfl (by decide) ?_
      show WP l E M_MD_revoke 4 [(0, .inr 7), (1, .inl (x1))] [.inl (nI 1)] h _
      refine wp_if_eq (tgt := 14) d_MD_revoke_4 (by decide) (fun z => absurd z (by decide +kernel)) (fun _ => ?_)
      refine wp_iload_n d_MD_revoke_7 rfl ?_
      refine wp_callS (as := [.inl (x1)]) (rest := []) (Q' := fun r h' => WP l E M_MD_revoke 11 [(0, .inr 7), (1, .inl (x1))] (rpush r []) h' _) d_MD_revoke_8 vb_MD_revoke_58 gw_3_117 rfl (Nat.le_of_ble_eq_true rfl) rfl (Nat.le_of_ble_eq_true rfl) ?_ (fun r h' z => z)
      show WP l E M_MD_isBlock 0 [(0, .inl (x1))] [] h _
      refine wp_iload_n d_MD_isBlock_0 rfl ?_
      refine wp_if_lt (tgt := 14) d_MD_isBlock_1 (by decide) (fun c3 => ?_) (fun c3 => ?_)
      · refine wp_iconst (v := nI 0) d_MD_isBlock_14 c_iconst_0 ?_
        refine wp_zreturn d_MD_isBlock_15 rfl (by decide) ?_
        show WP l E M_MD_revoke 11 [(0, .inr 7), (1, .inl (x1))] [.inl (nI 0)] h _
        refine wp_if_ne (tgt := 16) d_MD_revoke_11 (by decide) (fun z => absurd z (by decide +kernel)) (fun _ => ?_)
        refine wp_iconst (v := nI 0) d_MD_revoke_14 c_iconst_0 ?_
        refine wp_zreturn d_MD_revoke_15 rfl (by decide) ?_
        exact e3 c1 c2 c3
      · refine wp_iload_n d_MD_isBlock_4 rfl ?_
        refine wp_bipush (v := nI 15) d_MD_isBlock_5 c_bipush_15 ?_
        refine wp_ic_gt (tgt := 14) d_MD_isBlock_7 (by decide) (fun c4 => ?_) (fun c4 => ?_)
        · refine wp_iconst (v := nI 0) d_MD_isBlock_14 c_iconst_0 ?_
          refine wp_zreturn d_MD_isBlock_15 rfl (by decide) ?_
          show WP l E M_MD_revoke 11 [(0, .inr 7), (1, .inl (x1))] [.inl (nI 0)] h _
          refine wp_if_ne (tgt := 16) d_MD_revoke_11 (by decide) (fun z => absurd z (by decide +kernel)) (fun _ => ?_)
          refine wp_iconst (v := nI 0) d_MD_revoke_14 c_iconst_0 ?_
          refine wp_zreturn d_MD_revoke_15 rfl (by decide) ?_
          exact e4 c1 c2 c3 c4
        · refine wp_iconst (v := nI 1) d_MD_isBlock_10 c_iconst_1 ?_
          refine wp_goto (tgt := 15) d_MD_isBlock_11 (by decide) ?_
          refine wp_zreturn d_MD_isBlock_15 rfl (by decide) ?_
          show WP l E M_MD_revoke 11 [(0, .inr 7), (1, .inl (x1))] [.inl (nI 1)] h _
          refine wp_if_ne (tgt := 16) d_MD_revoke_11 (by decide) (fun _ => ?_) (fun z => absurd z (by decide +kernel))
          refine wp_aload_n d_MD_revoke_16 rfl ?_
          refine wp_getR d_MD_revoke_17 fl_MD_27 rfl rfl ?_
          refine wp_iload_n d_MD_revoke_20 rfl ?_
          refine wp_iconst (v := nI 2) d_MD_revoke_21 c_iconst_2 ?_
          refine wp_iastore d_MD_revoke_22 rfl (o1 c1 c2 c3 c4) ?_
          refine wp_iconst (v := nI 1) d_MD_revoke_23 c_iconst_1 ?_
          refine wp_zreturn d_MD_revoke_24 rfl (by decide) ?_
          exact e5 c1 c2 c3 c4
set_option maxRecDepth 100000 in
set_option maxHeartbeats 4000000 in
theorem k_MD_direct_0 {l : Launch} {E : xE} {x1 x2 x3 : Int32} {h : xh} {Q : Option Int32 → xh → Prop}
    (e1 : (h 7 4) = 0 → Q (some (nI 0)) h)
    (e2 : ¬ (h 7 4) = 0 → (h 7 12) ≠ 0 → Q (some (nI 0)) h)
    (e3 : ¬ (h 7 4) = 0 → (h 7 12) = 0 → x1 < 0 → Q (some (nI 0)) h)
    (e4 : ¬ (h 7 4) = 0 → (h 7 12) = 0 → ¬ x1 < 0 → (nI 15) < x1 → Q (some (nI 0)) h)
    (e5 : ¬ (h 7 4) = 0 → (h 7 12) = 0 → ¬ x1 < 0 → ¬ (nI 15) < x1 → x2 < 0 → Q (some (nI 0)) h)
    (e6 : ¬ (h 7 4) = 0 → (h 7 12) = 0 → ¬ x1 < 0 → ¬ (nI 15) < x1 → ¬ x2 < 0 → (nI 3) < x2 → Q (some (nI 0)) h)
    (o1 : ¬ (h 7 4) = 0 → (h 7 12) = 0 → ¬ x1 < 0 → ¬ (nI 15) < x1 → ¬ x2 < 0 → ¬ (nI 3) < x2 → vp_in (x1) 16)
    (e7 : ¬ (h 7 4) = 0 → (h 7 12) = 0 → ¬ x1 < 0 → ¬ (nI 15) < x1 → ¬ x2 < 0 → ¬ (nI 3) < x2 → (h 28 ((x1).toNatClampNeg)) = (nI 1) → Q (some (nI 0)) h)
    (o2 : ¬ (h 7 4) = 0 → (h 7 12) = 0 → ¬ x1 < 0 → ¬ (nI 15) < x1 → ¬ x2 < 0 → ¬ (nI 3) < x2 → ¬ (h 28 ((x1).toNatClampNeg)) = (nI 1) → vp_in (x1) 16)
    (e8 : ¬ (h 7 4) = 0 → (h 7 12) = 0 → ¬ x1 < 0 → ¬ (nI 15) < x1 → ¬ x2 < 0 → ¬ (nI 3) < x2 → ¬ (h 28 ((x1).toNatClampNeg)) = (nI 1) → (h 30 ((x1).toNatClampNeg)) ≠ 0 → Q (some (nI 0)) h)
    (e9 : ¬ (h 7 4) = 0 → (h 7 12) = 0 → ¬ x1 < 0 → ¬ (nI 15) < x1 → ¬ x2 < 0 → ¬ (nI 3) < x2 → ¬ (h 28 ((x1).toNatClampNeg)) = (nI 1) → (h 30 ((x1).toNatClampNeg)) = 0 → (h 7 1) < (nI 12) → WP l E M_MD_direct 54 [(0, .inr 7), (1, .inl (x1)), (2, .inl (x2)), (3, .inl (x3)), (4, .inl (nI 0))] [] h Q)
    (e10 : ¬ (h 7 4) = 0 → (h 7 12) = 0 → ¬ x1 < 0 → ¬ (nI 15) < x1 → ¬ x2 < 0 → ¬ (nI 3) < x2 → ¬ (h 28 ((x1).toNatClampNeg)) = (nI 1) → (h 30 ((x1).toNatClampNeg)) = 0 → ¬ (h 7 1) < (nI 12) → Q (some (nI 0)) h) : MC l E M_MD_direct [.inr 7, .inl (x1), .inl (x2), .inl (x3)] h Q := by
  refine wp_aload_n d_MD_direct_0 rfl ?_
  refine wp_callV (as := []) (rest := []) (Q' := fun r h' => WP l E M_MD_direct 4 [(0, .inr 7), (1, .inl (x1)), (2, .inl (x2)), (3, .inl (x3))] (rpush r []) h' _) d_MD_direct_1 vb_MD_direct_72 ⟨gw_3_129, sw_21⟩ rfl rfl rfl rfl (Nat.le_of_ble_eq_true rfl) rfl (Nat.le_of_ble_eq_true rfl) ?_ (fun r h' z => z)
  show WP l E M_MD_idle 0 [(0, .inr 7)] [] h _
  refine wp_aload_n d_MD_idle_0 rfl ?_
  refine wp_getI d_MD_idle_1 fl_MD_19 rfl rfl ?_
  refine wp_if_eq (tgt := 18) d_MD_idle_4 (by decide) (fun c1 => ?_) (fun c1 => ?_)
  · refine wp_iconst (v := nI 0) d_MD_idle_18 c_iconst_0 ?_
    refine wp_zreturn d_MD_idle_19 rfl (by decide) ?_
    show WP l E M_MD_direct 4 [(0, .inr 7), (1, .inl (x1)), (2, .inl (x2)), (3, .inl (x3))] [.inl (nI 0)] h _
    refine wp_if_eq (tgt := 49) d_MD_direct_4 (by decide) (fun _ => ?_) (fun z => absurd z (by decide +kernel))
    refine wp_iconst (v := nI 0) d_MD_direct_49 c_iconst_0 ?_
    refine wp_zreturn d_MD_direct_50 rfl (by decide) ?_
    exact e1 c1
  · refine wp_aload_n d_MD_idle_7 rfl ?_
    refine wp_getI d_MD_idle_8 fl_MD_69 rfl rfl ?_
    refine wp_if_ne (tgt := 18) d_MD_idle_11 (by decide) (fun c2 => ?_) (fun c2 => ?_)
    · refine wp_iconst (v := nI 0) d_MD_idle_18 c_iconst_0 ?_
      refine wp_zreturn d_MD_idle_19 rfl (by decide) ?_
      show WP l E M_MD_direct 4 [(0, .inr 7), (1, .inl (x1)), (2, .inl (x2)), (3, .inl (x3))] [.inl (nI 0)] h _
      refine wp_if_eq (tgt := 49) d_MD_direct_4 (by decide) (fun _ => ?_) (fun z => absurd z (by decide +kernel))
      refine wp_iconst (v := nI 0) d_MD_direct_49 c_iconst_0 ?_
      refine wp_zreturn d_MD_direct_50 rfl (by decide) ?_
      exact e2 c1 c2
    · refine wp_iconst (v := nI 1) d_MD_idle_14 c_iconst_1 ?_
      refine wp_goto (tgt := 19) d_MD_idle_15 (by decide) ?_
      refine wp_zreturn d_MD_idle_19 rfl (by decide) ?_
      show WP l E M_MD_direct 4 [(0, .inr 7), (1, .inl (x1)), (2, .inl (x2)), (3, .inl (x3))] [.inl (nI 1)] h _
      refine wp_if_eq (tgt := 49) d_MD_direct_4 (by decide) (fun z => absurd z (by decide +kernel)) (fun _ => ?_)
      refine wp_iload_n d_MD_direct_7 rfl ?_
      refine wp_callS (as := [.inl (x1)]) (rest := []) (Q' := fun r h' => WP l E M_MD_direct 11 [(0, .inr 7), (1, .inl (x1)), (2, .inl (x2)), (3, .inl (x3))] (rpush r []) h' _) d_MD_direct_8 vb_MD_direct_58 gw_3_117 rfl (Nat.le_of_ble_eq_true rfl) rfl (Nat.le_of_ble_eq_true rfl) ?_ (fun r h' z => z)
      show WP l E M_MD_isBlock 0 [(0, .inl (x1))] [] h _
      refine wp_iload_n d_MD_isBlock_0 rfl ?_
      refine wp_if_lt (tgt := 14) d_MD_isBlock_1 (by decide) (fun c3 => ?_) (fun c3 => ?_)
      · refine wp_iconst (v := nI 0) d_MD_isBlock_14 c_iconst_0 ?_
        refine wp_zreturn d_MD_isBlock_15 rfl (by decide) ?_
        show WP l E M_MD_direct 11 [(0, .inr 7), (1, .inl (x1)), (2, .inl (x2)), (3, .inl (x3))] [.inl (nI 0)] h _
        refine wp_if_eq (tgt := 49) d_MD_direct_11 (by decide) (fun _ => ?_) (fun z => absurd z (by decide +kernel))
        refine wp_iconst (v := nI 0) d_MD_direct_49 c_iconst_0 ?_
        refine wp_zreturn d_MD_direct_50 rfl (by decide) ?_
        exact e3 c1 c2 c3
      · refine wp_iload_n d_MD_isBlock_4 rfl ?_
        refine wp_bipush (v := nI 15) d_MD_isBlock_5 c_bipush_15 ?_
        refine wp_ic_gt (tgt := 14) d_MD_isBlock_7 (by decide) (fun c4 => ?_) (fun c4 => ?_)
        · refine wp_iconst (v := nI 0) d_MD_isBlock_14 c_iconst_0 ?_
          refine wp_zreturn d_MD_isBlock_15 rfl (by decide) ?_
          show WP l E M_MD_direct 11 [(0, .inr 7), (1, .inl (x1)), (2, .inl (x2)), (3, .inl (x3))] [.inl (nI 0)] h _
          refine wp_if_eq (tgt := 49) d_MD_direct_11 (by decide) (fun _ => ?_) (fun z => absurd z (by decide +kernel))
          refine wp_iconst (v := nI 0) d_MD_direct_49 c_iconst_0 ?_
          refine wp_zreturn d_MD_direct_50 rfl (by decide) ?_
          exact e4 c1 c2 c3 c4
        · refine wp_iconst (v := nI 1) d_MD_isBlock_10 c_iconst_1 ?_
          refine wp_goto (tgt := 15) d_MD_isBlock_11 (by decide) ?_
          refine wp_zreturn d_MD_isBlock_15 rfl (by decide) ?_
          show WP l E M_MD_direct 11 [(0, .inr 7), (1, .inl (x1)), (2, .inl (x2)), (3, .inl (x3))] [.inl (nI 1)] h _
          refine wp_if_eq (tgt := 49) d_MD_direct_11 (by decide) (fun z => absurd z (by decide +kernel)) (fun _ => ?_)
          refine wp_iload_n d_MD_direct_14 rfl ?_
          refine wp_callS (as := [.inl (x2)]) (rest := []) (Q' := fun r h' => WP l E M_MD_direct 18 [(0, .inr 7), (1, .inl (x1)), (2, .inl (x2)), (3, .inl (x3))] (rpush r []) h' _) d_MD_direct_15 vb_MD_direct_62 gw_3_120 rfl (Nat.le_of_ble_eq_true rfl) rfl (Nat.le_of_ble_eq_true rfl) ?_ (fun r h' z => z)
          show WP l E M_MD_isWord 0 [(0, .inl (x2))] [] h _
          refine wp_iload_n d_MD_isWord_0 rfl ?_
          refine wp_if_lt (tgt := 13) d_MD_isWord_1 (by decide) (fun c5 => ?_) (fun c5 => ?_)
          · refine wp_iconst (v := nI 0) d_MD_isWord_13 c_iconst_0 ?_
            refine wp_zreturn d_MD_isWord_14 rfl (by decide) ?_
            show WP l E M_MD_direct 18 [(0, .inr 7), (1, .inl (x1)), (2, .inl (x2)), (3, .inl (x3))] [.inl (nI 0)] h _
            refine wp_if_eq (tgt := 49) d_MD_direct_18 (by decide) (fun _ => ?_) (fun z => absurd z (by decide +kernel))
            refine wp_iconst (v := nI 0) d_MD_direct_49 c_iconst_0 ?_
            refine wp_zreturn d_MD_direct_50 rfl (by decide) ?_
            exact e5 c1 c2 c3 c4 c5
          · refine wp_iload_n d_MD_isWord_4 rfl ?_
            refine wp_iconst (v := nI 3) d_MD_isWord_5 c_iconst_3 ?_
            refine wp_ic_gt (tgt := 13) d_MD_isWord_6 (by decide) (fun c6 => ?_) (fun c6 => ?_)
            · refine wp_iconst (v := nI 0) d_MD_isWord_13 c_iconst_0 ?_
              refine wp_zreturn d_MD_isWord_14 rfl (by decide) ?_
              show WP l E M_MD_direct 18 [(0, .inr 7), (1, .inl (x1)), (2, .inl (x2)), (3, .inl (x3))] [.inl (nI 0)] h _
              refine wp_if_eq (tgt := 49) d_MD_direct_18 (by decide) (fun _ => ?_) (fun z => absurd z (by decide +kernel))
              refine wp_iconst (v := nI 0) d_MD_direct_49 c_iconst_0 ?_
              refine wp_zreturn d_MD_direct_50 rfl (by decide) ?_
              exact e6 c1 c2 c3 c4 c5 c6
            · refine wp_iconst (v := nI 1) d_MD_isWord_9 c_iconst_1 ?_
              refine wp_goto (tgt := 14) d_MD_isWord_10 (by decide) ?_
              refine wp_zreturn d_MD_isWord_14 rfl (by decide) ?_
              show WP l E M_MD_direct 18 [(0, .inr 7), (1, .inl (x1)), (2, .inl (x2)), (3, .inl (x3))] [.inl (nI 1)] h _
              refine wp_if_eq (tgt := 49) d_MD_direct_18 (by decide) (fun z => absurd z (by decide +kernel)) (fun _ => ?_)
              refine wp_aload_n d_MD_direct_21 rfl ?_
              refine wp_getR d_MD_direct_22 fl_MD_27 rfl rfl ?_
              refine wp_iload_n d_MD_direct_25 rfl ?_
              refine wp_iaload d_MD_direct_26 rfl (o1 c1 c2 c3 c4 c5 c6) ?_
              refine wp_iconst (v := nI 1) d_MD_direct_27 c_iconst_1 ?_
              refine wp_ic_eq (tgt := 49) d_MD_direct_28 (by decide) (fun c7 => ?_) (fun c7 => ?_)
              · refine wp_iconst (v := nI 0) d_MD_direct_49 c_iconst_0 ?_
                refine wp_zreturn d_MD_direct_50 rfl (by decide) ?_
                exact e7 c1 c2 c3 c4 c5 c6 c7
              · refine wp_aload_n d_MD_direct_31 rfl ?_
                refine wp_getR d_MD_direct_32 fl_MD_33 rfl rfl ?_
                refine wp_iload_n d_MD_direct_35 rfl ?_
                refine wp_baload d_MD_direct_36 rfl (o2 c1 c2 c3 c4 c5 c6 c7) ?_
                refine wp_if_ne (tgt := 49) d_MD_direct_37 (by decide) (fun c8 => ?_) (fun c8 => ?_)
                · refine wp_iconst (v := nI 0) d_MD_direct_49 c_iconst_0 ?_
                  refine wp_zreturn d_MD_direct_50 rfl (by decide) ?_
                  exact e8 c1 c2 c3 c4 c5 c6 c7 c8
                · refine wp_aload_n d_MD_direct_40 rfl ?_
                  refine wp_getI d_MD_direct_41 fl_MD_50 rfl rfl ?_
                  refine wp_bipush (v := nI 12) d_MD_direct_44 c_bipush_12 ?_
                  refine wp_ic_lt (tgt := 51) d_MD_direct_46 (by decide) (fun c9 => ?_) (fun c9 => ?_)
                  · refine wp_iconst (v := nI 0) d_MD_direct_51 c_iconst_0 ?_
                    refine wp_istore (ls' := [(0, .inr 7), (1, .inl (x1)), (2, .inl (x2)), (3, .inl (x3)), (4, .inl (nI 0))]) d_MD_direct_52 (by decide) rfl ?_
                    exact e9 c1 c2 c3 c4 c5 c6 c7 c8 c9
                  · refine wp_iconst (v := nI 0) d_MD_direct_49 c_iconst_0 ?_
                    refine wp_zreturn d_MD_direct_50 rfl (by decide) ?_
                    exact e10 c1 c2 c3 c4 c5 c6 c7 c8 c9
set_option maxRecDepth 100000 in
set_option maxHeartbeats 4000000 in
theorem k_MD_direct_54 {l : Launch} {E : xE} {x1 x2 x3 x4 : Int32} {h : xh} {Q : Option Int32 → xh → Prop}
    (o1 : (nI 4) ≤ x4 → vp_in (x2) 4)
    (e1 : (nI 4) ≤ x4 → MC l E M_MD_writeOut [.inr 7, .inl (x1)] (hw h 32 ((x2).toNatClampNeg) (x3)) (fun r h' => WP l E M_MD_direct 92 [(0, .inr 7), (1, .inl (x1)), (2, .inl (x2)), (3, .inl (x3)), (4, .inl (x4))] (rpush r []) h' Q))
    (e2 : ¬ (nI 4) ≤ x4 → MC l E M_MD_read [.inr 7, .inl (x1), .inl (x4)] h (fun r h' => WP l E M_MD_direct 73 [(0, .inr 7), (1, .inl (x1)), (2, .inl (x2)), (3, .inl (x3)), (4, .inl (x4))] (rpush r [.inl (x4), .inr 32]) h' Q)) : WP l E M_MD_direct 54 [(0, .inr 7), (1, .inl (x1)), (2, .inl (x2)), (3, .inl (x3)), (4, .inl (x4))] [] h Q := by
  refine wp_iload d_MD_direct_54 rfl ?_
  refine wp_iconst (v := nI 4) d_MD_direct_56 c_iconst_4 ?_
  refine wp_ic_ge (tgt := 80) d_MD_direct_57 (by decide) (fun c1 => ?_) (fun c1 => ?_)
  · refine wp_aload_n d_MD_direct_80 rfl ?_
    refine wp_getR d_MD_direct_81 fl_MD_40 rfl rfl ?_
    refine wp_iload_n d_MD_direct_84 rfl ?_
    refine wp_iload_n d_MD_direct_85 rfl ?_
    refine wp_iastore d_MD_direct_86 rfl (o1 c1) ?_
    refine wp_aload_n d_MD_direct_87 rfl ?_
    refine wp_iload_n d_MD_direct_88 rfl ?_
    refine wp_callV (as := [.inl (x1)]) (rest := []) (Q' := fun r h' => WP l E M_MD_direct 92 [(0, .inr 7), (1, .inl (x1)), (2, .inl (x2)), (3, .inl (x3)), (4, .inl (x4))] (rpush r []) h' Q) d_MD_direct_89 vb_MD_direct_83 ⟨gw_3_146, sw_23⟩ rfl rfl rfl rfl (Nat.le_of_ble_eq_true rfl) rfl (Nat.le_of_ble_eq_true rfl) ?_ (fun r h' z => z)
    exact e1 c1
  · refine wp_aload_n d_MD_direct_60 rfl ?_
    refine wp_getR d_MD_direct_61 fl_MD_40 rfl rfl ?_
    refine wp_iload d_MD_direct_64 rfl ?_
    refine wp_aload_n d_MD_direct_66 rfl ?_
    refine wp_iload_n d_MD_direct_67 rfl ?_
    refine wp_iload d_MD_direct_68 rfl ?_
    refine wp_callV (as := [.inl (x1), .inl (x4)]) (rest := [.inl (x4), .inr 32]) (Q' := fun r h' => WP l E M_MD_direct 73 [(0, .inr 7), (1, .inl (x1)), (2, .inl (x2)), (3, .inl (x3)), (4, .inl (x4))] (rpush r [.inl (x4), .inr 32]) h' Q) d_MD_direct_70 vb_MD_direct_65 ⟨gw_3_101, gw_3_102⟩ rfl rfl rfl rfl (Nat.le_of_ble_eq_true rfl) rfl (Nat.le_of_ble_eq_true rfl) ?_ (fun r h' z => z)
    exact e2 c1
set_option maxRecDepth 100000 in
set_option maxHeartbeats 4000000 in
theorem k_MD_direct_92 {l : Launch} {E : xE} {x1 x2 x3 x4 : Int32} {h : xh} {Q : Option Int32 → xh → Prop}
    (e1 : Q (some (nI 1)) h) : WP l E M_MD_direct 92 [(0, .inr 7), (1, .inl (x1)), (2, .inl (x2)), (3, .inl (x3)), (4, .inl (x4))] [] h Q := by
  refine wp_iconst (v := nI 1) d_MD_direct_92 c_iconst_1 ?_
  refine wp_zreturn d_MD_direct_93 rfl (by decide) ?_
  exact e1
