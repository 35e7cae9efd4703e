set_option maxRecDepth 100000 in
set_option maxHeartbeats 4000000 in
theorem k_JB_addFlush_0 {l : Launch} {E : xE} {h : xh} {Q : Option Int32 → xh → Prop}
    (e1 : (nI 27) ≤ (h 6 3) → Q none h)
    (o1 : ¬ (nI 27) ≤ (h 6 3) → vp_in (h 6 3) 27)
    (e2 : ¬ (nI 27) ≤ (h 6 3) → Q none (hw (hw h 23 ((h 6 3).toNatClampNeg) ((-1))) 6 3 ((h 6 3) + (nI 1)))) : MC l E M_JB_addFlush [.inr 6] h Q := by
  refine wp_aload_n d_JB_addFlush_0 rfl ?_
  refine wp_getI d_JB_addFlush_1 fl_JB_22 rfl rfl ?_
  refine wp_bipush (v := nI 27) d_JB_addFlush_4 c_bipush_27 ?_
  refine wp_ic_ge (tgt := 29) d_JB_addFlush_6 (by decide) (fun c1 => ?_) (fun c1 => ?_)
  · refine wp_return d_JB_addFlush_29 rfl ?_
    exact e1 c1
  · refine wp_aload_n d_JB_addFlush_9 rfl ?_
    refine wp_getR d_JB_addFlush_10 fl_JB_11 rfl rfl ?_
    refine wp_aload_n d_JB_addFlush_13 rfl ?_
    refine wp_getI d_JB_addFlush_14 fl_JB_22 rfl rfl ?_
    refine wp_iconst (v := (-1)) d_JB_addFlush_17 c_iconst_m1 ?_
    refine wp_iastore d_JB_addFlush_18 rfl (o1 c1) ?_
    refine wp_aload_n d_JB_addFlush_19 rfl ?_
    refine wp_dup d_JB_addFlush_20 ?_
    refine wp_getI d_JB_addFlush_21 fl_JB_22 rfl rfl ?_
    show WP l E M_JB_addFlush 24 [(0, .inr 6)] [.inl (h 6 3), .inr 6] (hw h 23 ((h 6 3).toNatClampNeg) ((-1))) _
    refine wp_iconst (v := nI 1) d_JB_addFlush_24 c_iconst_1 ?_
    refine wp_iadd d_JB_addFlush_25 ?_
    refine wp_putI d_JB_addFlush_26 fm_JB_22 rfl rfl ?_
    refine wp_return d_JB_addFlush_29 rfl ?_
    exact e2 c1
set_option maxRecDepth 100000 in
set_option maxHeartbeats 4000000 in
theorem k_JB_addWrite_0 {l : Launch} {E : xE} {x1 x2 x3 x4 x5 : Int32} {h : xh} {Q : Option Int32 → xh → Prop}
    (o1 : (h 6 3) < (nI 27) → vp_in ((h 6 3) * (nI 4)) 108)
    (o2 : (h 6 3) < (nI 27) → vp_in (((h 6 3) * (nI 4)) + (nI 1)) 108)
    (o3 : (h 6 3) < (nI 27) → vp_in (((h 6 3) * (nI 4)) + (nI 2)) 108)
    (o4 : (h 6 3) < (nI 27) → vp_in (((h 6 3) * (nI 4)) + (nI 3)) 108)
    (o5 : (h 6 3) < (nI 27) → vp_in (h 6 3) 27)
    (e1 : (h 6 3) < (nI 27) → Q none (hw (hw (hw (hw (hw (hw h 24 (((h 6 3) * (nI 4)).toNatClampNeg) (x2)) 24 ((((h 6 3) * (nI 4)) + (nI 1)).toNatClampNeg) (x3)) 24 ((((h 6 3) * (nI 4)) + (nI 2)).toNatClampNeg) (x4)) 24 ((((h 6 3) * (nI 4)) + (nI 3)).toNatClampNeg) (x5)) 23 ((h 6 3).toNatClampNeg) (x1)) 6 3 ((h 6 3) + (nI 1))))
    (e2 : ¬ (h 6 3) < (nI 27) → Q none h) : MC l E M_JB_addWrite [.inr 6, .inl (x1), .inl (x2), .inl (x3), .inl (x4), .inl (x5)] h Q := by
  refine wp_aload_n d_JB_addWrite_0 rfl ?_
  refine wp_getI d_JB_addWrite_1 fl_JB_22 rfl rfl ?_
  refine wp_bipush (v := nI 27) d_JB_addWrite_4 c_bipush_27 ?_
  refine wp_ic_lt (tgt := 10) d_JB_addWrite_6 (by decide) (fun c1 => ?_) (fun c1 => ?_)
  · refine wp_aload_n d_JB_addWrite_10 rfl ?_
    refine wp_getI d_JB_addWrite_11 fl_JB_22 rfl rfl ?_
    refine wp_iconst (v := nI 4) d_JB_addWrite_14 c_iconst_4 ?_
    refine wp_imul d_JB_addWrite_15 ?_
    refine wp_istore (ls' := [(0, .inr 6), (1, .inl (x1)), (2, .inl (x2)), (3, .inl (x3)), (4, .inl (x4)), (5, .inl (x5)), (6, .inl ((h 6 3) * (nI 4)))]) d_JB_addWrite_16 (by decide) rfl ?_
    refine wp_aload_n d_JB_addWrite_18 rfl ?_
    refine wp_getR d_JB_addWrite_19 fl_JB_15 rfl rfl ?_
    refine wp_iload d_JB_addWrite_22 rfl ?_
    refine wp_iload_n d_JB_addWrite_24 rfl ?_
    refine wp_iastore d_JB_addWrite_25 rfl (o1 c1) ?_
    refine wp_aload_n d_JB_addWrite_26 rfl ?_
    refine wp_getR d_JB_addWrite_27 fl_JB_15 rfl rfl ?_
    refine wp_iload d_JB_addWrite_30 rfl ?_
    refine wp_iconst (v := nI 1) d_JB_addWrite_32 c_iconst_1 ?_
    refine wp_iadd d_JB_addWrite_33 ?_
    refine wp_iload_n d_JB_addWrite_34 rfl ?_
    refine wp_iastore d_JB_addWrite_35 rfl (o2 c1) ?_
    refine wp_aload_n d_JB_addWrite_36 rfl ?_
    refine wp_getR d_JB_addWrite_37 fl_JB_15 rfl rfl ?_
    refine wp_iload d_JB_addWrite_40 rfl ?_
    refine wp_iconst (v := nI 2) d_JB_addWrite_42 c_iconst_2 ?_
    refine wp_iadd d_JB_addWrite_43 ?_
    refine wp_iload d_JB_addWrite_44 rfl ?_
    refine wp_iastore d_JB_addWrite_46 rfl (o3 c1) ?_
    refine wp_aload_n d_JB_addWrite_47 rfl ?_
    refine wp_getR d_JB_addWrite_48 fl_JB_15 rfl rfl ?_
    refine wp_iload d_JB_addWrite_51 rfl ?_
    refine wp_iconst (v := nI 3) d_JB_addWrite_53 c_iconst_3 ?_
    refine wp_iadd d_JB_addWrite_54 ?_
    refine wp_iload d_JB_addWrite_55 rfl ?_
    refine wp_iastore d_JB_addWrite_57 rfl (o4 c1) ?_
    refine wp_aload_n d_JB_addWrite_58 rfl ?_
    refine wp_getR d_JB_addWrite_59 fl_JB_11 rfl rfl ?_
    refine wp_aload_n d_JB_addWrite_62 rfl ?_
    refine wp_getI d_JB_addWrite_63 fl_JB_22 rfl rfl ?_
    show WP l E M_JB_addWrite 66 [(0, .inr 6), (1, .inl (x1)), (2, .inl (x2)), (3, .inl (x3)), (4, .inl (x4)), (5, .inl (x5)), (6, .inl ((h 6 3) * (nI 4)))] [.inl (h 6 3), .inr 23] (hw (hw (hw (hw h 24 (((h 6 3) * (nI 4)).toNatClampNeg) (x2)) 24 ((((h 6 3) * (nI 4)) + (nI 1)).toNatClampNeg) (x3)) 24 ((((h 6 3) * (nI 4)) + (nI 2)).toNatClampNeg) (x4)) 24 ((((h 6 3) * (nI 4)) + (nI 3)).toNatClampNeg) (x5)) _
    refine wp_iload_n d_JB_addWrite_66 rfl ?_
    refine wp_iastore d_JB_addWrite_67 rfl (o5 c1) ?_
    refine wp_aload_n d_JB_addWrite_68 rfl ?_
    refine wp_dup d_JB_addWrite_69 ?_
    refine wp_getI d_JB_addWrite_70 fl_JB_22 rfl rfl ?_
    show WP l E M_JB_addWrite 73 [(0, .inr 6), (1, .inl (x1)), (2, .inl (x2)), (3, .inl (x3)), (4, .inl (x4)), (5, .inl (x5)), (6, .inl ((h 6 3) * (nI 4)))] [.inl (h 6 3), .inr 6] (hw (hw (hw (hw (hw h 24 (((h 6 3) * (nI 4)).toNatClampNeg) (x2)) 24 ((((h 6 3) * (nI 4)) + (nI 1)).toNatClampNeg) (x3)) 24 ((((h 6 3) * (nI 4)) + (nI 2)).toNatClampNeg) (x4)) 24 ((((h 6 3) * (nI 4)) + (nI 3)).toNatClampNeg) (x5)) 23 ((h 6 3).toNatClampNeg) (x1)) _
    refine wp_iconst (v := nI 1) d_JB_addWrite_73 c_iconst_1 ?_
    refine wp_iadd d_JB_addWrite_74 ?_
    refine wp_putI d_JB_addWrite_75 fm_JB_22 rfl rfl ?_
    refine wp_return d_JB_addWrite_78 rfl ?_
    exact e1 c1
  · refine wp_return d_JB_addWrite_9 rfl ?_
    exact e2 c1
set_option maxRecDepth 100000 in
set_option maxHeartbeats 4000000 in
theorem k_JB_doNext_0 {l : Launch} {E : xE} {h : xh} {Q : Option Int32 → xh → Prop}
    (o1 : (h 6 4) < (h 6 3) → vp_in (h 6 4) 27)
    (o2 : (h 6 4) < (h 6 3) → (h 23 ((h 6 4).toNatClampNeg)) ≠ (-1) → vp_in (h 6 4) 27)
    (e1 : (h 6 4) < (h 6 3) → (h 23 ((h 6 4).toNatClampNeg)) ≠ (-1) → MC l E M_DV_write [.inr 1, .inl (h 23 ((h 6 4).toNatClampNeg)), .inr 24, .inl ((h 6 4) * (nI 4))] h (fun r h' => WP l E M_JB_doNext 55 [(0, .inr 6), (1, .inr 1)] (rpush r []) h' Q))
    (e2 : (h 6 4) < (h 6 3) → (h 23 ((h 6 4).toNatClampNeg)) = (-1) → MC l E M_DV_flush [.inr 1] h (fun r h' => WP l E M_JB_doNext 29 [(0, .inr 6), (1, .inr 1)] (rpush r []) h' Q))
    (e3 : ¬ (h 6 4) < (h 6 3) → Q none h) : MC l E M_JB_doNext [.inr 6, .inr 1] h Q := by
  refine wp_aload_n d_JB_doNext_0 rfl ?_
  refine wp_getI d_JB_doNext_1 fl_JB_25 rfl rfl ?_
  refine wp_aload_n d_JB_doNext_4 rfl ?_
  refine wp_getI d_JB_doNext_5 fl_JB_22 rfl rfl ?_
  refine wp_ic_lt (tgt := 12) d_JB_doNext_8 (by decide) (fun c1 => ?_) (fun c1 => ?_)
  · refine wp_aload_n d_JB_doNext_12 rfl ?_
    refine wp_getR d_JB_doNext_13 fl_JB_11 rfl rfl ?_
    refine wp_aload_n d_JB_doNext_16 rfl ?_
    refine wp_getI d_JB_doNext_17 fl_JB_25 rfl rfl ?_
    refine wp_iaload d_JB_doNext_20 rfl (o1 c1) ?_
    refine wp_iconst (v := (-1)) d_JB_doNext_21 c_iconst_m1 ?_
    refine wp_ic_ne (tgt := 32) d_JB_doNext_22 (by decide) (fun c2 => ?_) (fun c2 => ?_)
    · refine wp_aload_n d_JB_doNext_32 rfl ?_
      refine wp_aload_n d_JB_doNext_33 rfl ?_
      refine wp_getR d_JB_doNext_34 fl_JB_11 rfl rfl ?_
      refine wp_aload_n d_JB_doNext_37 rfl ?_
      refine wp_getI d_JB_doNext_38 fl_JB_25 rfl rfl ?_
      refine wp_iaload d_JB_doNext_41 rfl (o2 c1 c2) ?_
      refine wp_aload_n d_JB_doNext_42 rfl ?_
      refine wp_getR d_JB_doNext_43 fl_JB_15 rfl rfl ?_
      refine wp_aload_n d_JB_doNext_46 rfl ?_
      refine wp_getI d_JB_doNext_47 fl_JB_25 rfl rfl ?_
      refine wp_iconst (v := nI 4) d_JB_doNext_50 c_iconst_4 ?_
      refine wp_imul d_JB_doNext_51 ?_
      refine wp_callV (as := [.inl (h 23 ((h 6 4).toNatClampNeg)), .inr 24, .inl ((h 6 4) * (nI 4))]) (rest := []) (Q' := fun r h' => WP l E M_JB_doNext 55 [(0, .inr 6), (1, .inr 1)] (rpush r []) h' Q) d_JB_doNext_52 vb_JB_doNext_37 ⟨gw_2_182, gw_2_183⟩ rfl rfl rfl rfl (Nat.le_of_ble_eq_true rfl) rfl (Nat.le_of_ble_eq_true rfl) ?_ (fun r h' z => z)
      exact e1 c1 c2
    · refine wp_aload_n d_JB_doNext_25 rfl ?_
      refine wp_callV (as := []) (rest := []) (Q' := fun r h' => WP l E M_JB_doNext 29 [(0, .inr 6), (1, .inr 1)] (rpush r []) h' Q) d_JB_doNext_26 vb_JB_doNext_32 ⟨gw_2_171, gw_2_172⟩ rfl rfl rfl rfl (Nat.le_of_ble_eq_true rfl) rfl (Nat.le_of_ble_eq_true rfl) ?_ (fun r h' z => z)
      exact e2 c1 c2
  · refine wp_return d_JB_doNext_11 rfl ?_
    exact e3 c1
set_option maxRecDepth 100000 in
set_option maxHeartbeats 4000000 in
theorem k_JB_doNext_55 {l : Launch} {E : xE} {h : xh} {Q : Option Int32 → xh → Prop}
    (e1 : Q none (hw h 6 4 ((h 6 4) + (nI 1)))) : WP l E M_JB_doNext 55 [(0, .inr 6), (1, .inr 1)] [] h Q := by
  refine wp_aload_n d_JB_doNext_55 rfl ?_
  refine wp_dup d_JB_doNext_56 ?_
  refine wp_getI d_JB_doNext_57 fl_JB_25 rfl rfl ?_
  refine wp_iconst (v := nI 1) d_JB_doNext_60 c_iconst_1 ?_
  refine wp_iadd d_JB_doNext_61 ?_
  refine wp_putI d_JB_doNext_62 fm_JB_25 rfl rfl ?_
  refine wp_return d_JB_doNext_65 rfl ?_
  exact e1
set_option maxRecDepth 100000 in
set_option maxHeartbeats 4000000 in
theorem k_JB_doNext_29 {l : Launch} {E : xE} {h : xh} {Q : Option Int32 → xh → Prop}
    (e1 : Q none (hw h 6 4 ((h 6 4) + (nI 1)))) : WP l E M_JB_doNext 29 [(0, .inr 6), (1, .inr 1)] [] h Q := by
  refine wp_goto (tgt := 55) d_JB_doNext_29 (by decide) ?_
  refine wp_aload_n d_JB_doNext_55 rfl ?_
  refine wp_dup d_JB_doNext_56 ?_
  refine wp_getI d_JB_doNext_57 fl_JB_25 rfl rfl ?_
  refine wp_iconst (v := nI 1) d_JB_doNext_60 c_iconst_1 ?_
  refine wp_iadd d_JB_doNext_61 ?_
  refine wp_putI d_JB_doNext_62 fm_JB_25 rfl rfl ?_
  refine wp_return d_JB_doNext_65 rfl ?_
  exact e1
