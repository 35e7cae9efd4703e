set_option maxRecDepth 100000 in
set_option maxHeartbeats 4000000 in
theorem k_IM_hold_r_0 {l : Launch} {E : xE} {x1 : Int32} {h : xh} {Q : Option Int32 → xh → Prop}
    (o1 : vp_in (x1) 16)
    (e1 : (h 11 ((x1).toNatClampNeg)) ≠ 0 → Q none h)
    (o2 : (h 11 ((x1).toNatClampNeg)) = 0 → vp_in (x1) 16)
    (e2 : (h 11 ((x1).toNatClampNeg)) = 0 → Q none (hw (hw h 11 ((x1).toNatClampNeg) (nI 1)) 2 2 ((h 2 2) + (nI 1)))) : MC l E M_IM_hold [.inr 2, .inl (x1)] h Q := by
  refine wp_aload_n d_IM_hold_0 rfl ?_
  refine wp_getR d_IM_hold_1 fl_IM_9 rfl rfl ?_
  refine wp_iload_n d_IM_hold_4 rfl ?_
  refine wp_baload d_IM_hold_5 rfl o1 ?_
  refine wp_if_ne (tgt := 26) d_IM_hold_6 (by decide) (fun c1 => ?_) (fun c1 => ?_)
  · refine wp_return d_IM_hold_26 rfl ?_
    exact e1 c1
  · refine wp_aload_n d_IM_hold_9 rfl ?_
    refine wp_getR d_IM_hold_10 fl_IM_9 rfl rfl ?_
    refine wp_iload_n d_IM_hold_13 rfl ?_
    refine wp_iconst (v := nI 1) d_IM_hold_14 c_iconst_1 ?_
    refine wp_bastore d_IM_hold_15 rfl (o2 c1) (nar01 (by decide)) ?_
    refine wp_aload_n d_IM_hold_16 rfl ?_
    refine wp_dup d_IM_hold_17 ?_
    refine wp_getI d_IM_hold_18 fl_IM_19 rfl rfl ?_
    show WP l E M_IM_hold 21 [(0, .inr 2), (1, .inl (x1))] [.inl (h 2 2), .inr 2] (hw h 11 ((x1).toNatClampNeg) (nI 1)) _
    refine wp_iconst (v := nI 1) d_IM_hold_21 c_iconst_1 ?_
    refine wp_iadd d_IM_hold_22 ?_
    refine wp_putI d_IM_hold_23 fm_IM_19 rfl rfl ?_
    refine wp_return d_IM_hold_26 rfl ?_
    exact e2 c1
set_option maxRecDepth 100000 in
set_option maxHeartbeats 4000000 in
theorem k_IM_drop_r_0 {l : Launch} {E : xE} {x1 : Int32} {h : xh} {Q : Option Int32 → xh → Prop}
    (o1 : vp_in (x1) 16)
    (e1 : (h 11 ((x1).toNatClampNeg)) = 0 → Q none h)
    (o2 : ¬ (h 11 ((x1).toNatClampNeg)) = 0 → vp_in (x1) 16)
    (e2 : ¬ (h 11 ((x1).toNatClampNeg)) = 0 → Q none (hw (hw h 11 ((x1).toNatClampNeg) (nI 0)) 2 2 ((h 2 2) - (nI 1)))) : MC l E M_IM_drop [.inr 2, .inl (x1)] h Q := by
  refine wp_aload_n d_IM_drop_0 rfl ?_
  refine wp_getR d_IM_drop_1 fl_IM_9 rfl rfl ?_
  refine wp_iload_n d_IM_drop_4 rfl ?_
  refine wp_baload d_IM_drop_5 rfl o1 ?_
  refine wp_if_eq (tgt := 26) d_IM_drop_6 (by decide) (fun c1 => ?_) (fun c1 => ?_)
  · refine wp_return d_IM_drop_26 rfl ?_
    exact e1 c1
  · refine wp_aload_n d_IM_drop_9 rfl ?_
    refine wp_getR d_IM_drop_10 fl_IM_9 rfl rfl ?_
    refine wp_iload_n d_IM_drop_13 rfl ?_
    refine wp_iconst (v := nI 0) d_IM_drop_14 c_iconst_0 ?_
    refine wp_bastore d_IM_drop_15 rfl (o2 c1) (nar01 (by decide)) ?_
    refine wp_aload_n d_IM_drop_16 rfl ?_
    refine wp_dup d_IM_drop_17 ?_
    refine wp_getI d_IM_drop_18 fl_IM_19 rfl rfl ?_
    show WP l E M_IM_drop 21 [(0, .inr 2), (1, .inl (x1))] [.inl (h 2 2), .inr 2] (hw h 11 ((x1).toNatClampNeg) (nI 0)) _
    refine wp_iconst (v := nI 1) d_IM_drop_21 c_iconst_1 ?_
    refine wp_isub d_IM_drop_22 ?_
    refine wp_putI d_IM_drop_23 fm_IM_19 rfl rfl ?_
    refine wp_return d_IM_drop_26 rfl ?_
    exact e2 c1
set_option maxRecDepth 100000 in
set_option maxHeartbeats 4000000 in
theorem k_IM_clear_r_0 {l : Launch} {E : xE} {h : xh} {Q : Option Int32 → xh → Prop}
    (e1 : WP l E M_IM_clear 2 [(0, .inr 2), (1, .inl (nI 0))] [] h Q) : MC l E M_IM_clear [.inr 2] h Q := by
  refine wp_iconst (v := nI 0) d_IM_clear_0 c_iconst_0 ?_
  refine wp_istore_n (ls' := [(0, .inr 2), (1, .inl (nI 0))]) d_IM_clear_1 (by decide) rfl ?_
  exact e1
set_option maxRecDepth 100000 in
set_option maxHeartbeats 4000000 in
theorem k_IM_clear_r_2 {l : Launch} {E : xE} {x1 : Int32} {h : xh} {Q : Option Int32 → xh → Prop}
    (e1 : (nI 16) ≤ x1 → Q none (hw h 2 2 (nI 0)))
    (o1 : ¬ (nI 16) ≤ x1 → vp_in (x1) 16)
    (e2 : ¬ (nI 16) ≤ x1 → WP l E M_IM_clear 2 [(0, .inr 2), (1, .inl (x1 + nI 1))] [] (hw h 11 ((x1).toNatClampNeg) (nI 0)) Q) : WP l E M_IM_clear 2 [(0, .inr 2), (1, .inl (x1))] [] h Q := by
  refine wp_iload_n d_IM_clear_2 rfl ?_
  refine wp_bipush (v := nI 16) d_IM_clear_3 c_bipush_16 ?_
  refine wp_ic_ge (tgt := 21) d_IM_clear_5 (by decide) (fun c1 => ?_) (fun c1 => ?_)
  · refine wp_aload_n d_IM_clear_21 rfl ?_
    refine wp_iconst (v := nI 0) d_IM_clear_22 c_iconst_0 ?_
    refine wp_putI d_IM_clear_23 fm_IM_19 rfl rfl ?_
    refine wp_return d_IM_clear_26 rfl ?_
    exact e1 c1
  · refine wp_aload_n d_IM_clear_8 rfl ?_
    refine wp_getR d_IM_clear_9 fl_IM_9 rfl rfl ?_
    refine wp_iload_n d_IM_clear_12 rfl ?_
    refine wp_iconst (v := nI 0) d_IM_clear_13 c_iconst_0 ?_
    refine wp_bastore d_IM_clear_14 rfl (o1 c1) (nar01 (by decide)) ?_
    refine wp_iinc (v := x1 + nI 1) (ls' := [(0, .inr 2), (1, .inl (x1 + nI 1))]) d_IM_clear_15 rfl (c_inc_1 _) (by decide) rfl ?_
    refine wp_goto (tgt := 2) d_IM_clear_18 (by decide) ?_
    exact e2 c1
set_option maxRecDepth 100000 in
set_option maxHeartbeats 4000000 in
theorem k_IM_hold_p_0 {l : Launch} {E : xE} {x1 : Int32} {h : xh} {Q : Option Int32 → xh → Prop}
    (o1 : vp_in (x1) 16)
    (e1 : (h 13 ((x1).toNatClampNeg)) ≠ 0 → Q none h)
    (o2 : (h 13 ((x1).toNatClampNeg)) = 0 → vp_in (x1) 16)
    (e2 : (h 13 ((x1).toNatClampNeg)) = 0 → Q none (hw (hw h 13 ((x1).toNatClampNeg) (nI 1)) 3 2 ((h 3 2) + (nI 1)))) : MC l E M_IM_hold [.inr 3, .inl (x1)] h Q := by
  refine wp_aload_n d_IM_hold_0 rfl ?_
  refine wp_getR d_IM_hold_1 fl_IM_9 rfl rfl ?_
  refine wp_iload_n d_IM_hold_4 rfl ?_
  refine wp_baload d_IM_hold_5 rfl o1 ?_
  refine wp_if_ne (tgt := 26) d_IM_hold_6 (by decide) (fun c1 => ?_) (fun c1 => ?_)
  · refine wp_return d_IM_hold_26 rfl ?_
    exact e1 c1
  · refine wp_aload_n d_IM_hold_9 rfl ?_
    refine wp_getR d_IM_hold_10 fl_IM_9 rfl rfl ?_
    refine wp_iload_n d_IM_hold_13 rfl ?_
    refine wp_iconst (v := nI 1) d_IM_hold_14 c_iconst_1 ?_
    refine wp_bastore d_IM_hold_15 rfl (o2 c1) (nar01 (by decide)) ?_
    refine wp_aload_n d_IM_hold_16 rfl ?_
    refine wp_dup d_IM_hold_17 ?_
    refine wp_getI d_IM_hold_18 fl_IM_19 rfl rfl ?_
    show WP l E M_IM_hold 21 [(0, .inr 3), (1, .inl (x1))] [.inl (h 3 2), .inr 3] (hw h 13 ((x1).toNatClampNeg) (nI 1)) _
    refine wp_iconst (v := nI 1) d_IM_hold_21 c_iconst_1 ?_
    refine wp_iadd d_IM_hold_22 ?_
    refine wp_putI d_IM_hold_23 fm_IM_19 rfl rfl ?_
    refine wp_return d_IM_hold_26 rfl ?_
    exact e2 c1
set_option maxRecDepth 100000 in
set_option maxHeartbeats 4000000 in
theorem k_IM_drop_p_0 {l : Launch} {E : xE} {x1 : Int32} {h : xh} {Q : Option Int32 → xh → Prop}
    (o1 : vp_in (x1) 16)
    (e1 : (h 13 ((x1).toNatClampNeg)) = 0 → Q none h)
    (o2 : ¬ (h 13 ((x1).toNatClampNeg)) = 0 → vp_in (x1) 16)
    (e2 : ¬ (h 13 ((x1).toNatClampNeg)) = 0 → Q none (hw (hw h 13 ((x1).toNatClampNeg) (nI 0)) 3 2 ((h 3 2) - (nI 1)))) : MC l E M_IM_drop [.inr 3, .inl (x1)] h Q := by
  refine wp_aload_n d_IM_drop_0 rfl ?_
  refine wp_getR d_IM_drop_1 fl_IM_9 rfl rfl ?_
  refine wp_iload_n d_IM_drop_4 rfl ?_
  refine wp_baload d_IM_drop_5 rfl o1 ?_
  refine wp_if_eq (tgt := 26) d_IM_drop_6 (by decide) (fun c1 => ?_) (fun c1 => ?_)
  · refine wp_return d_IM_drop_26 rfl ?_
    exact e1 c1
  · refine wp_aload_n d_IM_drop_9 rfl ?_
    refine wp_getR d_IM_drop_10 fl_IM_9 rfl rfl ?_
    refine wp_iload_n d_IM_drop_13 rfl ?_
    refine wp_iconst (v := nI 0) d_IM_drop_14 c_iconst_0 ?_
    refine wp_bastore d_IM_drop_15 rfl (o2 c1) (nar01 (by decide)) ?_
    refine wp_aload_n d_IM_drop_16 rfl ?_
    refine wp_dup d_IM_drop_17 ?_
    refine wp_getI d_IM_drop_18 fl_IM_19 rfl rfl ?_
    show WP l E M_IM_drop 21 [(0, .inr 3), (1, .inl (x1))] [.inl (h 3 2), .inr 3] (hw h 13 ((x1).toNatClampNeg) (nI 0)) _
    refine wp_iconst (v := nI 1) d_IM_drop_21 c_iconst_1 ?_
    refine wp_isub d_IM_drop_22 ?_
    refine wp_putI d_IM_drop_23 fm_IM_19 rfl rfl ?_
    refine wp_return d_IM_drop_26 rfl ?_
    exact e2 c1
set_option maxRecDepth 100000 in
set_option maxHeartbeats 4000000 in
theorem k_IM_copyFrom_p_0 {l : Launch} {E : xE} {x2 : Int32} {h : xh} {Q : Option Int32 → xh → Prop}
    (o1 : ¬ ((x2) * (nI 4)) < 0)
    (o2 : ¬ ((x2) * (nI 4)) < 0)
    (o3 : ((x2) * (nI 4)).toNatClampNeg + (nI 4).toNatClampNeg ≤ 64)
    (o4 : ((x2) * (nI 4)).toNatClampNeg + (nI 4).toNatClampNeg ≤ 64)
    (e1 : MC l E M_IM_hold [.inr 3, .inl (x2)] (hc h 12 14 ((x2) * (nI 4)) ((x2) * (nI 4)) (nI 4)) (fun r h' => WP l E M_IM_copyFrom 23 [(0, .inr 3), (1, .inr 2), (2, .inl (x2))] (rpush r []) h' Q)) : MC l E M_IM_copyFrom [.inr 3, .inr 2, .inl (x2)] h Q := by
  refine wp_aload_n d_IM_copyFrom_0 rfl ?_
  refine wp_getR d_IM_copyFrom_1 fl_IM_15 rfl rfl ?_
  refine wp_iload_n d_IM_copyFrom_4 rfl ?_
  refine wp_iconst (v := nI 4) d_IM_copyFrom_5 c_iconst_4 ?_
  refine wp_imul d_IM_copyFrom_6 ?_
  refine wp_aload_n d_IM_copyFrom_7 rfl ?_
  refine wp_getR d_IM_copyFrom_8 fl_IM_15 rfl rfl ?_
  refine wp_iload_n d_IM_copyFrom_11 rfl ?_
  refine wp_iconst (v := nI 4) d_IM_copyFrom_12 c_iconst_4 ?_
  refine wp_imul d_IM_copyFrom_13 ?_
  refine wp_iconst (v := nI 4) d_IM_copyFrom_14 c_iconst_4 ?_
  refine wp_copy d_IM_copyFrom_15 gw_2_206 gw_2_180 gw_2_179 gw_1_10 rfl rfl (Nat.le_of_ble_eq_true rfl) (Nat.le_of_ble_eq_true rfl) o1 o2 (by decide +kernel) o3 o4 ?_
  refine wp_aload_n d_IM_copyFrom_18 rfl ?_
  refine wp_iload_n d_IM_copyFrom_19 rfl ?_
  refine wp_callV (as := [.inl (x2)]) (rest := []) (Q' := fun r h' => WP l E M_IM_copyFrom 23 [(0, .inr 3), (1, .inr 2), (2, .inl (x2))] (rpush r []) h' Q) d_IM_copyFrom_20 vb_IM_copyFrom_29 ⟨gw_1_237, gw_1_238⟩ rfl rfl rfl rfl (Nat.le_of_ble_eq_true rfl) rfl (Nat.le_of_ble_eq_true rfl) ?_ (fun r h' z => z)
  exact e1
set_option maxRecDepth 100000 in
set_option maxHeartbeats 4000000 in
theorem k_IM_copyFrom_p_23 {l : Launch} {E : xE} {x2 : Int32} {h : xh} {Q : Option Int32 → xh → Prop}
    (e1 : Q none h) : WP l E M_IM_copyFrom 23 [(0, .inr 3), (1, .inr 2), (2, .inl (x2))] [] h Q := by
  refine wp_return d_IM_copyFrom_23 rfl ?_
  exact e1
set_option maxRecDepth 100000 in
set_option maxHeartbeats 4000000 in
theorem k_IM_clear_p_0 {l : Launch} {E : xE} {h : xh} {Q : Option Int32 → xh → Prop}
    (e1 : WP l E M_IM_clear 2 [(0, .inr 3), (1, .inl (nI 0))] [] h Q) : MC l E M_IM_clear [.inr 3] h Q := by
  refine wp_iconst (v := nI 0) d_IM_clear_0 c_iconst_0 ?_
  refine wp_istore_n (ls' := [(0, .inr 3), (1, .inl (nI 0))]) d_IM_clear_1 (by decide) rfl ?_
  exact e1
set_option maxRecDepth 100000 in
set_option maxHeartbeats 4000000 in
theorem k_IM_clear_p_2 {l : Launch} {E : xE} {x1 : Int32} {h : xh} {Q : Option Int32 → xh → Prop}
    (e1 : (nI 16) ≤ x1 → Q none (hw h 3 2 (nI 0)))
    (o1 : ¬ (nI 16) ≤ x1 → vp_in (x1) 16)
    (e2 : ¬ (nI 16) ≤ x1 → WP l E M_IM_clear 2 [(0, .inr 3), (1, .inl (x1 + nI 1))] [] (hw h 13 ((x1).toNatClampNeg) (nI 0)) Q) : WP l E M_IM_clear 2 [(0, .inr 3), (1, .inl (x1))] [] h Q := by
  refine wp_iload_n d_IM_clear_2 rfl ?_
  refine wp_bipush (v := nI 16) d_IM_clear_3 c_bipush_16 ?_
  refine wp_ic_ge (tgt := 21) d_IM_clear_5 (by decide) (fun c1 => ?_) (fun c1 => ?_)
  · refine wp_aload_n d_IM_clear_21 rfl ?_
    refine wp_iconst (v := nI 0) d_IM_clear_22 c_iconst_0 ?_
    refine wp_putI d_IM_clear_23 fm_IM_19 rfl rfl ?_
    refine wp_return d_IM_clear_26 rfl ?_
    exact e1 c1
  · refine wp_aload_n d_IM_clear_8 rfl ?_
    refine wp_getR d_IM_clear_9 fl_IM_9 rfl rfl ?_
    refine wp_iload_n d_IM_clear_12 rfl ?_
    refine wp_iconst (v := nI 0) d_IM_clear_13 c_iconst_0 ?_
    refine wp_bastore d_IM_clear_14 rfl (o1 c1) (nar01 (by decide)) ?_
    refine wp_iinc (v := x1 + nI 1) (ls' := [(0, .inr 3), (1, .inl (x1 + nI 1))]) d_IM_clear_15 rfl (c_inc_1 _) (by decide) rfl ?_
    refine wp_goto (tgt := 2) d_IM_clear_18 (by decide) ?_
    exact e2 c1
