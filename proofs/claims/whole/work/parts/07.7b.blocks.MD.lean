set_option maxRecDepth 100000 in
set_option maxHeartbeats 4000000 in
theorem k_MD_direct_73 {l : Launch} {E : xE} {s1 v0 x1 x2 x3 x4 : Int32} {h : xh} {Q : Option Int32 → xh → Prop}
    (o1 : vp_in (s1) 4)
    (e1 : WP l E M_MD_direct 54 [(0, .inr 7), (1, .inl (x1)), (2, .inl (x2)), (3, .inl (x3)), (4, .inl (x4 + nI 1))] [] (hw h 32 ((s1).toNatClampNeg) (v0)) Q) : WP l E M_MD_direct 73 [(0, .inr 7), (1, .inl (x1)), (2, .inl (x2)), (3, .inl (x3)), (4, .inl (x4))] [.inl (v0), .inl (s1), .inr 32] h Q := by
  refine wp_iastore d_MD_direct_73 rfl o1 ?_
  refine wp_iinc (v := x4 + nI 1) (ls' := [(0, .inr 7), (1, .inl (x1)), (2, .inl (x2)), (3, .inl (x3)), (4, .inl (x4 + nI 1))]) d_MD_direct_74 rfl (c_inc_1 _) (by decide) rfl ?_
  refine wp_goto (tgt := 54) d_MD_direct_77 (by decide) ?_
  exact e1
set_option maxRecDepth 100000 in
set_option maxHeartbeats 4000000 in
theorem k_MD_changed_0 {l : Launch} {E : xE} {x1 : Int32} {h : xh} {Q : Option Int32 → xh → Prop}
    (e1 : (h 7 4) = 0 → Q (some ((-1))) h)
    (e2 : ¬ (h 7 4) = 0 → x1 < 0 → Q (some ((-1))) h)
    (e3 : ¬ (h 7 4) = 0 → ¬ x1 < 0 → (nI 15) < x1 → Q (some ((-1))) h)
    (o1 : ¬ (h 7 4) = 0 → ¬ x1 < 0 → ¬ (nI 15) < x1 → vp_in (x1) 16)
    (o2 : ¬ (h 7 4) = 0 → ¬ x1 < 0 → ¬ (nI 15) < x1 → vp_in (x1) 16)
    (e4 : ¬ (h 7 4) = 0 → ¬ x1 < 0 → ¬ (nI 15) < x1 → (h 30 ((x1).toNatClampNeg)) = 0 → Q (some ((h 28 ((x1).toNatClampNeg)) + (nI 0))) h)
    (e5 : ¬ (h 7 4) = 0 → ¬ x1 < 0 → ¬ (nI 15) < x1 → ¬ (h 30 ((x1).toNatClampNeg)) = 0 → Q (some ((h 28 ((x1).toNatClampNeg)) + (nI 4))) h) : MC l E M_MD_changed [.inr 7, .inl (x1)] h Q := by
  refine wp_aload_n d_MD_changed_0 rfl ?_
  refine wp_getI d_MD_changed_1 fl_MD_19 rfl rfl ?_
  refine wp_if_eq (tgt := 38) d_MD_changed_4 (by decide) (fun c1 => ?_) (fun c1 => ?_)
  · refine wp_iconst (v := (-1)) d_MD_changed_38 c_iconst_m1 ?_
    refine wp_ireturn d_MD_changed_39 rfl ?_
    exact e1 c1
  · refine wp_iload_n d_MD_changed_7 rfl ?_
    refine wp_callS (as := [.inl (x1)]) (rest := []) (Q' := fun r h' => WP l E M_MD_changed 11 [(0, .inr 7), (1, .inl (x1))] (rpush r []) h' _) d_MD_changed_8 vb_MD_changed_58 gw_3_117 rfl (Nat.le_of_ble_eq_true rfl) rfl (Nat.le_of_ble_eq_true rfl) ?_ (fun r h' z => z)
    show WP l E M_MD_isBlock 0 [(0, .inl (x1))] [] h _
    refine wp_iload_n d_MD_isBlock_0 rfl ?_
    refine wp_if_lt (tgt := 14) d_MD_isBlock_1 (by decide) (fun c2 => ?_) (fun c2 => ?_)
    · refine wp_iconst (v := nI 0) d_MD_isBlock_14 c_iconst_0 ?_
      refine wp_zreturn d_MD_isBlock_15 rfl (by decide) ?_
      show WP l E M_MD_changed 11 [(0, .inr 7), (1, .inl (x1))] [.inl (nI 0)] h _
      refine wp_if_eq (tgt := 38) d_MD_changed_11 (by decide) (fun _ => ?_) (fun z => absurd z (by decide +kernel))
      refine wp_iconst (v := (-1)) d_MD_changed_38 c_iconst_m1 ?_
      refine wp_ireturn d_MD_changed_39 rfl ?_
      exact e2 c1 c2
    · refine wp_iload_n d_MD_isBlock_4 rfl ?_
      refine wp_bipush (v := nI 15) d_MD_isBlock_5 c_bipush_15 ?_
      refine wp_ic_gt (tgt := 14) d_MD_isBlock_7 (by decide) (fun c3 => ?_) (fun c3 => ?_)
      · refine wp_iconst (v := nI 0) d_MD_isBlock_14 c_iconst_0 ?_
        refine wp_zreturn d_MD_isBlock_15 rfl (by decide) ?_
        show WP l E M_MD_changed 11 [(0, .inr 7), (1, .inl (x1))] [.inl (nI 0)] h _
        refine wp_if_eq (tgt := 38) d_MD_changed_11 (by decide) (fun _ => ?_) (fun z => absurd z (by decide +kernel))
        refine wp_iconst (v := (-1)) d_MD_changed_38 c_iconst_m1 ?_
        refine wp_ireturn d_MD_changed_39 rfl ?_
        exact e3 c1 c2 c3
      · refine wp_iconst (v := nI 1) d_MD_isBlock_10 c_iconst_1 ?_
        refine wp_goto (tgt := 15) d_MD_isBlock_11 (by decide) ?_
        refine wp_zreturn d_MD_isBlock_15 rfl (by decide) ?_
        show WP l E M_MD_changed 11 [(0, .inr 7), (1, .inl (x1))] [.inl (nI 1)] h _
        refine wp_if_eq (tgt := 38) d_MD_changed_11 (by decide) (fun z => absurd z (by decide +kernel)) (fun _ => ?_)
        refine wp_aload_n d_MD_changed_14 rfl ?_
        refine wp_getR d_MD_changed_15 fl_MD_27 rfl rfl ?_
        refine wp_iload_n d_MD_changed_18 rfl ?_
        refine wp_iaload d_MD_changed_19 rfl (o1 c1 c2 c3) ?_
        refine wp_aload_n d_MD_changed_20 rfl ?_
        refine wp_getR d_MD_changed_21 fl_MD_33 rfl rfl ?_
        refine wp_iload_n d_MD_changed_24 rfl ?_
        refine wp_baload d_MD_changed_25 rfl (o2 c1 c2 c3) ?_
        refine wp_if_eq (tgt := 33) d_MD_changed_26 (by decide) (fun c4 => ?_) (fun c4 => ?_)
        · refine wp_iconst (v := nI 0) d_MD_changed_33 c_iconst_0 ?_
          refine wp_iadd d_MD_changed_34 ?_
          refine wp_goto (tgt := 39) d_MD_changed_35 (by decide) ?_
          refine wp_ireturn d_MD_changed_39 rfl ?_
          exact e4 c1 c2 c3 c4
        · refine wp_iconst (v := nI 4) d_MD_changed_29 c_iconst_4 ?_
          refine wp_goto (tgt := 34) d_MD_changed_30 (by decide) ?_
          refine wp_iadd d_MD_changed_34 ?_
          refine wp_goto (tgt := 39) d_MD_changed_35 (by decide) ?_
          refine wp_ireturn d_MD_changed_39 rfl ?_
          exact e5 c1 c2 c3 c4
set_option maxRecDepth 100000 in
set_option maxHeartbeats 4000000 in
theorem k_MD_rowLength_0 {l : Launch} {E : xE} {h : xh} {Q : Option Int32 → xh → Prop}
    (e1 : MC l E M_MD_countOf [.inr 7, .inl (nI 1)] h (fun r h' => WP l E M_MD_rowLength 5 [(0, .inr 7)] (rpush r []) h' Q)) : MC l E M_MD_rowLength [.inr 7] h Q := by
  refine wp_aload_n d_MD_rowLength_0 rfl ?_
  refine wp_iconst (v := nI 1) d_MD_rowLength_1 c_iconst_1 ?_
  refine wp_callV (as := [.inl (nI 1)]) (rest := []) (Q' := fun r h' => WP l E M_MD_rowLength 5 [(0, .inr 7)] (rpush r []) h' Q) d_MD_rowLength_2 vb_MD_rowLength_76 ⟨gw_3_133, sw_22⟩ rfl rfl rfl rfl (Nat.le_of_ble_eq_true rfl) rfl (Nat.le_of_ble_eq_true rfl) ?_ (fun r h' z => z)
  exact e1
set_option maxRecDepth 100000 in
set_option maxHeartbeats 4000000 in
theorem k_MD_rowLength_5 {l : Launch} {E : xE} {v0 : Int32} {h : xh} {Q : Option Int32 → xh → Prop}
    (e1 : MC l E M_MD_countOf [.inr 7, .inl (nI 2)] h (fun r h' => WP l E M_MD_rowLength 18 [(0, .inr 7), (1, .inl (v0))] (rpush r [.inl ((v0) + (((v0) + (nI 3)) / (nI 4)))]) h' Q)) : WP l E M_MD_rowLength 5 [(0, .inr 7)] [.inl (v0)] h Q := by
  refine wp_istore_n (ls' := [(0, .inr 7), (1, .inl (v0))]) d_MD_rowLength_5 (by decide) rfl ?_
  refine wp_iload_n d_MD_rowLength_6 rfl ?_
  refine wp_iload_n d_MD_rowLength_7 rfl ?_
  refine wp_iconst (v := nI 3) d_MD_rowLength_8 c_iconst_3 ?_
  refine wp_iadd d_MD_rowLength_9 ?_
  refine wp_iconst (v := nI 4) d_MD_rowLength_10 c_iconst_4 ?_
  refine wp_idiv d_MD_rowLength_11 (by decide +kernel) ?_
  refine wp_iadd d_MD_rowLength_12 ?_
  refine wp_aload_n d_MD_rowLength_13 rfl ?_
  refine wp_iconst (v := nI 2) d_MD_rowLength_14 c_iconst_2 ?_
  refine wp_callV (as := [.inl (nI 2)]) (rest := [.inl ((v0) + (((v0) + (nI 3)) / (nI 4)))]) (Q' := fun r h' => WP l E M_MD_rowLength 18 [(0, .inr 7), (1, .inl (v0))] (rpush r [.inl ((v0) + (((v0) + (nI 3)) / (nI 4)))]) h' Q) d_MD_rowLength_15 vb_MD_rowLength_76 ⟨gw_3_133, sw_22⟩ rfl rfl rfl rfl (Nat.le_of_ble_eq_true rfl) rfl (Nat.le_of_ble_eq_true rfl) ?_ (fun r h' z => z)
  exact e1
set_option maxRecDepth 100000 in
set_option maxHeartbeats 4000000 in
theorem k_MD_rowLength_18 {l : Launch} {E : xE} {s0 v0 x1 : Int32} {h : xh} {Q : Option Int32 → xh → Prop}
    (e1 : v0 ≤ 0 → Q (some (((s0) + (nI 0)) + (nI 1))) h)
    (e2 : ¬ v0 ≤ 0 → Q (some (((s0) + (nI 1)) + (nI 1))) h) : WP l E M_MD_rowLength 18 [(0, .inr 7), (1, .inl (x1))] [.inl (v0), .inl (s0)] h Q := by
  refine wp_if_le (tgt := 25) d_MD_rowLength_18 (by decide) (fun c1 => ?_) (fun c1 => ?_)
  · refine wp_iconst (v := nI 0) d_MD_rowLength_25 c_iconst_0 ?_
    refine wp_iadd d_MD_rowLength_26 ?_
    refine wp_iconst (v := nI 1) d_MD_rowLength_27 c_iconst_1 ?_
    refine wp_iadd d_MD_rowLength_28 ?_
    refine wp_ireturn d_MD_rowLength_29 rfl ?_
    exact e1 c1
  · refine wp_iconst (v := nI 1) d_MD_rowLength_21 c_iconst_1 ?_
    refine wp_goto (tgt := 26) d_MD_rowLength_22 (by decide) ?_
    refine wp_iadd d_MD_rowLength_26 ?_
    refine wp_iconst (v := nI 1) d_MD_rowLength_27 c_iconst_1 ?_
    refine wp_iadd d_MD_rowLength_28 ?_
    refine wp_ireturn d_MD_rowLength_29 rfl ?_
    exact e2 c1
set_option maxRecDepth 100000 in
set_option maxHeartbeats 4000000 in
theorem k_MD_imageBlock_0 {l : Launch} {E : xE} {x1 : Int32} {h : xh} {Q : Option Int32 → xh → Prop}
    (e1 : WP l E M_MD_imageBlock 7 [(0, .inr 7), (1, .inl (x1)), (2, .inl (nI 0)), (3, .inl (nI 0)), (4, .inl (nI 0))] [] h Q) : MC l E M_MD_imageBlock [.inr 7, .inl (x1)] h Q := by
  refine wp_iconst (v := nI 0) d_MD_imageBlock_0 c_iconst_0 ?_
  refine wp_istore_n (ls' := [(0, .inr 7), (1, .inl (x1)), (2, .inl (nI 0))]) d_MD_imageBlock_1 (by decide) rfl ?_
  refine wp_iconst (v := nI 0) d_MD_imageBlock_2 c_iconst_0 ?_
  refine wp_istore_n (ls' := [(0, .inr 7), (1, .inl (x1)), (2, .inl (nI 0)), (3, .inl (nI 0))]) d_MD_imageBlock_3 (by decide) rfl ?_
  refine wp_iconst (v := nI 0) d_MD_imageBlock_4 c_iconst_0 ?_
  refine wp_istore (ls' := [(0, .inr 7), (1, .inl (x1)), (2, .inl (nI 0)), (3, .inl (nI 0)), (4, .inl (nI 0))]) d_MD_imageBlock_5 (by decide) rfl ?_
  exact e1
set_option maxRecDepth 100000 in
set_option maxHeartbeats 4000000 in
theorem k_MD_imageBlock_7 {l : Launch} {E : xE} {x1 x2 x3 x4 : Int32} {h : xh} {Q : Option Int32 → xh → Prop}
    (e1 : (nI 16) ≤ x4 → Q (some (x3)) h)
    (o1 : ¬ (nI 16) ≤ x4 → vp_in (x4) 16)
    (e2 : ¬ (nI 16) ≤ x4 → (h 28 ((x4).toNatClampNeg)) ≠ (nI 1) → WP l E M_MD_imageBlock 7 [(0, .inr 7), (1, .inl (x1)), (2, .inl (x2)), (3, .inl (x3)), (4, .inl (x4 + nI 1))] [] h Q)
    (e3 : ¬ (nI 16) ≤ x4 → (h 28 ((x4).toNatClampNeg)) = (nI 1) → x2 ≠ x1 → WP l E M_MD_imageBlock 7 [(0, .inr 7), (1, .inl (x1)), (2, .inl ((x2) + (nI 1))), (3, .inl (x3)), (4, .inl (x4 + nI 1))] [] h Q)
    (e4 : ¬ (nI 16) ≤ x4 → (h 28 ((x4).toNatClampNeg)) = (nI 1) → x2 = x1 → WP l E M_MD_imageBlock 7 [(0, .inr 7), (1, .inl (x1)), (2, .inl ((x2) + (nI 1))), (3, .inl (x4)), (4, .inl (x4 + nI 1))] [] h Q) : WP l E M_MD_imageBlock 7 [(0, .inr 7), (1, .inl (x1)), (2, .inl (x2)), (3, .inl (x3)), (4, .inl (x4))] [] h Q := by
  refine wp_iload d_MD_imageBlock_7 rfl ?_
  refine wp_bipush (v := nI 16) d_MD_imageBlock_9 c_bipush_16 ?_
  refine wp_ic_ge (tgt := 47) d_MD_imageBlock_11 (by decide) (fun c1 => ?_) (fun c1 => ?_)
  · refine wp_iload_n d_MD_imageBlock_47 rfl ?_
    refine wp_ireturn d_MD_imageBlock_48 rfl ?_
    exact e1 c1
  · refine wp_aload_n d_MD_imageBlock_14 rfl ?_
    refine wp_getR d_MD_imageBlock_15 fl_MD_27 rfl rfl ?_
    refine wp_iload d_MD_imageBlock_18 rfl ?_
    refine wp_iaload d_MD_imageBlock_20 rfl (o1 c1) ?_
    refine wp_iconst (v := nI 1) d_MD_imageBlock_21 c_iconst_1 ?_
    refine wp_ic_ne (tgt := 41) d_MD_imageBlock_22 (by decide) (fun c2 => ?_) (fun c2 => ?_)
    · refine wp_iinc (v := x4 + nI 1) (ls' := [(0, .inr 7), (1, .inl (x1)), (2, .inl (x2)), (3, .inl (x3)), (4, .inl (x4 + nI 1))]) d_MD_imageBlock_41 rfl (c_inc_1 _) (by decide) rfl ?_
      refine wp_goto (tgt := 7) d_MD_imageBlock_44 (by decide) ?_
      exact e2 c1 c2
    · refine wp_iload_n d_MD_imageBlock_25 rfl ?_
      refine wp_iload_n d_MD_imageBlock_26 rfl ?_
      refine wp_ic_ne (tgt := 35) d_MD_imageBlock_27 (by decide) (fun c3 => ?_) (fun c3 => ?_)
      · refine wp_iload_n d_MD_imageBlock_35 rfl ?_
        refine wp_istore_n (ls' := [(0, .inr 7), (1, .inl (x1)), (2, .inl (x2)), (3, .inl (x3)), (4, .inl (x4))]) d_MD_imageBlock_36 (by decide) rfl ?_
        refine wp_iload_n d_MD_imageBlock_37 rfl ?_
        refine wp_iconst (v := nI 1) d_MD_imageBlock_38 c_iconst_1 ?_
        refine wp_iadd d_MD_imageBlock_39 ?_
        refine wp_istore_n (ls' := [(0, .inr 7), (1, .inl (x1)), (2, .inl ((x2) + (nI 1))), (3, .inl (x3)), (4, .inl (x4))]) d_MD_imageBlock_40 (by decide) rfl ?_
        refine wp_iinc (v := x4 + nI 1) (ls' := [(0, .inr 7), (1, .inl (x1)), (2, .inl ((x2) + (nI 1))), (3, .inl (x3)), (4, .inl (x4 + nI 1))]) d_MD_imageBlock_41 rfl (c_inc_1 _) (by decide) rfl ?_
        refine wp_goto (tgt := 7) d_MD_imageBlock_44 (by decide) ?_
        exact e3 c1 c2 c3
      · refine wp_iload d_MD_imageBlock_30 rfl ?_
        refine wp_goto (tgt := 36) d_MD_imageBlock_32 (by decide) ?_
        refine wp_istore_n (ls' := [(0, .inr 7), (1, .inl (x1)), (2, .inl (x2)), (3, .inl (x4)), (4, .inl (x4))]) d_MD_imageBlock_36 (by decide) rfl ?_
        refine wp_iload_n d_MD_imageBlock_37 rfl ?_
        refine wp_iconst (v := nI 1) d_MD_imageBlock_38 c_iconst_1 ?_
        refine wp_iadd d_MD_imageBlock_39 ?_
        refine wp_istore_n (ls' := [(0, .inr 7), (1, .inl (x1)), (2, .inl ((x2) + (nI 1))), (3, .inl (x4)), (4, .inl (x4))]) d_MD_imageBlock_40 (by decide) rfl ?_
        refine wp_iinc (v := x4 + nI 1) (ls' := [(0, .inr 7), (1, .inl (x1)), (2, .inl ((x2) + (nI 1))), (3, .inl (x4)), (4, .inl (x4 + nI 1))]) d_MD_imageBlock_41 rfl (c_inc_1 _) (by decide) rfl ?_
        refine wp_goto (tgt := 7) d_MD_imageBlock_44 (by decide) ?_
        exact e4 c1 c2 c3
set_option maxRecDepth 100000 in
set_option maxHeartbeats 4000000 in
theorem k_MD_groupWord_0 {l : Launch} {E : xE} {x1 x2 : Int32} {h : xh} {Q : Option Int32 → xh → Prop}
    (e1 : (nI 4) ≤ ((x2) - ((nI 4) * (x1))) → WP l E M_MD_groupWord 25 [(0, .inr 7), (1, .inl (x1)), (2, .inl (x2)), (3, .inl (nI 4)), (4, .inl (nI 4)), (5, .inl (nI 0))] [] h Q)
    (e2 : ¬ (nI 4) ≤ ((x2) - ((nI 4) * (x1))) → WP l E M_MD_groupWord 25 [(0, .inr 7), (1, .inl (x1)), (2, .inl (x2)), (3, .inl ((x2) - ((nI 4) * (x1)))), (4, .inl ((x2) - ((nI 4) * (x1)))), (5, .inl (nI 0))] [] h Q) : MC l E M_MD_groupWord [.inr 7, .inl (x1), .inl (x2)] h Q := by
  refine wp_iload_n d_MD_groupWord_0 rfl ?_
  refine wp_iconst (v := nI 4) d_MD_groupWord_1 c_iconst_4 ?_
  refine wp_iload_n d_MD_groupWord_2 rfl ?_
  refine wp_imul d_MD_groupWord_3 ?_
  refine wp_isub d_MD_groupWord_4 ?_
  refine wp_iconst (v := nI 4) d_MD_groupWord_5 c_iconst_4 ?_
  refine wp_ic_ge (tgt := 17) d_MD_groupWord_6 (by decide) (fun c1 => ?_) (fun c1 => ?_)
  · refine wp_iconst (v := nI 4) d_MD_groupWord_17 c_iconst_4 ?_
    refine wp_istore_n (ls' := [(0, .inr 7), (1, .inl (x1)), (2, .inl (x2)), (3, .inl (nI 4))]) d_MD_groupWord_18 (by decide) rfl ?_
    refine wp_iload_n d_MD_groupWord_19 rfl ?_
    refine wp_istore (ls' := [(0, .inr 7), (1, .inl (x1)), (2, .inl (x2)), (3, .inl (nI 4)), (4, .inl (nI 4))]) d_MD_groupWord_20 (by decide) rfl ?_
    refine wp_iconst (v := nI 0) d_MD_groupWord_22 c_iconst_0 ?_
    refine wp_istore (ls' := [(0, .inr 7), (1, .inl (x1)), (2, .inl (x2)), (3, .inl (nI 4)), (4, .inl (nI 4)), (5, .inl (nI 0))]) d_MD_groupWord_23 (by decide) rfl ?_
    exact e1 c1
  · refine wp_iload_n d_MD_groupWord_9 rfl ?_
    refine wp_iconst (v := nI 4) d_MD_groupWord_10 c_iconst_4 ?_
    refine wp_iload_n d_MD_groupWord_11 rfl ?_
    refine wp_imul d_MD_groupWord_12 ?_
    refine wp_isub d_MD_groupWord_13 ?_
    refine wp_goto (tgt := 18) d_MD_groupWord_14 (by decide) ?_
    refine wp_istore_n (ls' := [(0, .inr 7), (1, .inl (x1)), (2, .inl (x2)), (3, .inl ((x2) - ((nI 4) * (x1))))]) d_MD_groupWord_18 (by decide) rfl ?_
    refine wp_iload_n d_MD_groupWord_19 rfl ?_
    refine wp_istore (ls' := [(0, .inr 7), (1, .inl (x1)), (2, .inl (x2)), (3, .inl ((x2) - ((nI 4) * (x1)))), (4, .inl ((x2) - ((nI 4) * (x1))))]) d_MD_groupWord_20 (by decide) rfl ?_
    refine wp_iconst (v := nI 0) d_MD_groupWord_22 c_iconst_0 ?_
    refine wp_istore (ls' := [(0, .inr 7), (1, .inl (x1)), (2, .inl (x2)), (3, .inl ((x2) - ((nI 4) * (x1)))), (4, .inl ((x2) - ((nI 4) * (x1)))), (5, .inl (nI 0))]) d_MD_groupWord_23 (by decide) rfl ?_
    exact e2 c1
set_option maxRecDepth 100000 in
set_option maxHeartbeats 4000000 in
theorem k_MD_groupWord_25 {l : Launch} {E : xE} {x1 x2 x3 x4 x5 : Int32} {h : xh} {Q : Option Int32 → xh → Prop}
    (e1 : x3 ≤ x5 → Q (some (x4)) h)
    (e2 : ¬ x3 ≤ x5 → MC l E M_MD_imageBlock [.inr 7, .inl (((nI 4) * (x1)) + (x5))] h (fun r h' => WP l E M_MD_groupWord 41 [(0, .inr 7), (1, .inl (x1)), (2, .inl (x2)), (3, .inl (x3)), (4, .inl (x4)), (5, .inl (x5))] (rpush r []) h' Q)) : WP l E M_MD_groupWord 25 [(0, .inr 7), (1, .inl (x1)), (2, .inl (x2)), (3, .inl (x3)), (4, .inl (x4)), (5, .inl (x5))] [] h Q := by
  refine wp_iload d_MD_groupWord_25 rfl ?_
  refine wp_iload_n d_MD_groupWord_27 rfl ?_
  refine wp_ic_ge (tgt := 89) d_MD_groupWord_28 (by decide) (fun c1 => ?_) (fun c1 => ?_)
  · refine wp_iload d_MD_groupWord_89 rfl ?_
    refine wp_ireturn d_MD_groupWord_91 rfl ?_
    exact e1 c1
  · refine wp_aload_n d_MD_groupWord_31 rfl ?_
    refine wp_iconst (v := nI 4) d_MD_groupWord_32 c_iconst_4 ?_
    refine wp_iload_n d_MD_groupWord_33 rfl ?_
    refine wp_imul d_MD_groupWord_34 ?_
    refine wp_iload d_MD_groupWord_35 rfl ?_
    refine wp_iadd d_MD_groupWord_37 ?_
    refine wp_callV (as := [.inl (((nI 4) * (x1)) + (x5))]) (rest := []) (Q' := fun r h' => WP l E M_MD_groupWord 41 [(0, .inr 7), (1, .inl (x1)), (2, .inl (x2)), (3, .inl (x3)), (4, .inl (x4)), (5, .inl (x5))] (rpush r []) h' Q) d_MD_groupWord_38 vb_MD_groupWord_87 ⟨gw_3_230, sw_38⟩ rfl rfl rfl rfl (Nat.le_of_ble_eq_true rfl) rfl (Nat.le_of_ble_eq_true rfl) ?_ (fun r h' z => z)
    exact e2 c1
set_option maxRecDepth 100000 in
set_option maxHeartbeats 4000000 in
theorem k_MD_groupWord_41 {l : Launch} {E : xE} {v0 x1 x2 x3 x4 x5 : Int32} {h : xh} {Q : Option Int32 → xh → Prop}
    (o1 : vp_in ((nI 4) * (v0)) 64)
    (e1 : (h 29 (((nI 4) * (v0)).toNatClampNeg)) ≠ (nI 77001) → WP l E M_MD_groupWord 25 [(0, .inr 7), (1, .inl (x1)), (2, .inl (x2)), (3, .inl (x3)), (4, .inl ((x4) + ((v0) <<< (((nI 3) + ((nI 5) * (x5))) &&& 31)))), (5, .inl (x5 + nI 1))] [] h Q)
    (e2 : (h 29 (((nI 4) * (v0)).toNatClampNeg)) = (nI 77001) → WP l E M_MD_groupWord 25 [(0, .inr 7), (1, .inl (x1)), (2, .inl (x2)), (3, .inl (x3)), (4, .inl ((x4) + (((v0) + (nI 16)) <<< (((nI 3) + ((nI 5) * (x5))) &&& 31)))), (5, .inl (x5 + nI 1))] [] h Q) : WP l E M_MD_groupWord 41 [(0, .inr 7), (1, .inl (x1)), (2, .inl (x2)), (3, .inl (x3)), (4, .inl (x4)), (5, .inl (x5))] [.inl (v0)] h Q := by
  refine wp_istore (ls' := [(0, .inr 7), (1, .inl (x1)), (2, .inl (x2)), (3, .inl (x3)), (4, .inl (x4)), (5, .inl (x5)), (6, .inl (v0))]) d_MD_groupWord_41 (by decide) rfl ?_
  refine wp_aload_n d_MD_groupWord_43 rfl ?_
  refine wp_getR d_MD_groupWord_44 fl_MD_30 rfl rfl ?_
  refine wp_iconst (v := nI 4) d_MD_groupWord_47 c_iconst_4 ?_
  refine wp_iload d_MD_groupWord_48 rfl ?_
  refine wp_imul d_MD_groupWord_50 ?_
  refine wp_iaload d_MD_groupWord_51 rfl o1 ?_
  refine wp_ldcN d_MD_groupWord_52 gw_3_29 c_lit_77001 ?_
  refine wp_ic_ne (tgt := 65) d_MD_groupWord_54 (by decide) (fun c1 => ?_) (fun c1 => ?_)
  · refine wp_iload d_MD_groupWord_65 rfl ?_
    refine wp_istore (ls' := [(0, .inr 7), (1, .inl (x1)), (2, .inl (x2)), (3, .inl (x3)), (4, .inl (x4)), (5, .inl (x5)), (6, .inl (v0)), (7, .inl (v0))]) d_MD_groupWord_67 (by decide) rfl ?_
    refine wp_iload d_MD_groupWord_69 rfl ?_
    refine wp_iload d_MD_groupWord_71 rfl ?_
    refine wp_iconst (v := nI 3) d_MD_groupWord_73 c_iconst_3 ?_
    refine wp_iconst (v := nI 5) d_MD_groupWord_74 c_iconst_5 ?_
    refine wp_iload d_MD_groupWord_75 rfl ?_
    refine wp_imul d_MD_groupWord_77 ?_
    refine wp_iadd d_MD_groupWord_78 ?_
    refine wp_ishl d_MD_groupWord_79 ?_
    refine wp_iadd d_MD_groupWord_80 ?_
    refine wp_istore (ls' := [(0, .inr 7), (1, .inl (x1)), (2, .inl (x2)), (3, .inl (x3)), (4, .inl ((x4) + ((v0) <<< (((nI 3) + ((nI 5) * (x5))) &&& 31)))), (5, .inl (x5)), (6, .inl (v0)), (7, .inl (v0))]) d_MD_groupWord_81 (by decide) rfl ?_
    refine wp_iinc (v := x5 + nI 1) (ls' := [(0, .inr 7), (1, .inl (x1)), (2, .inl (x2)), (3, .inl (x3)), (4, .inl ((x4) + ((v0) <<< (((nI 3) + ((nI 5) * (x5))) &&& 31)))), (5, .inl (x5 + nI 1)), (6, .inl (v0)), (7, .inl (v0))]) d_MD_groupWord_83 rfl (c_inc_1 _) (by decide) rfl ?_
    refine wp_goto (tgt := 25) d_MD_groupWord_86 (by decide) ?_
    refine wp_sub (ls' := [(0, .inr 7), (1, .inl (x1)), (2, .inl (x2)), (3, .inl (x3)), (4, .inl ((x4) + ((v0) <<< (((nI 3) + ((nI 5) * (x5))) &&& 31)))), (5, .inl (x5 + nI 1))]) [0, 1, 2, 3, 4, 5] rfl ?_
    exact e1 c1
  · refine wp_iload d_MD_groupWord_57 rfl ?_
    refine wp_bipush (v := nI 16) d_MD_groupWord_59 c_bipush_16 ?_
    refine wp_iadd d_MD_groupWord_61 ?_
    refine wp_goto (tgt := 67) d_MD_groupWord_62 (by decide) ?_
    refine wp_istore (ls' := [(0, .inr 7), (1, .inl (x1)), (2, .inl (x2)), (3, .inl (x3)), (4, .inl (x4)), (5, .inl (x5)), (6, .inl (v0)), (7, .inl ((v0) + (nI 16)))]) d_MD_groupWord_67 (by decide) rfl ?_
    refine wp_iload d_MD_groupWord_69 rfl ?_
    refine wp_iload d_MD_groupWord_71 rfl ?_
    refine wp_iconst (v := nI 3) d_MD_groupWord_73 c_iconst_3 ?_
    refine wp_iconst (v := nI 5) d_MD_groupWord_74 c_iconst_5 ?_
    refine wp_iload d_MD_groupWord_75 rfl ?_
    refine wp_imul d_MD_groupWord_77 ?_
    refine wp_iadd d_MD_groupWord_78 ?_
    refine wp_ishl d_MD_groupWord_79 ?_
    refine wp_iadd d_MD_groupWord_80 ?_
    refine wp_istore (ls' := [(0, .inr 7), (1, .inl (x1)), (2, .inl (x2)), (3, .inl (x3)), (4, .inl ((x4) + (((v0) + (nI 16)) <<< (((nI 3) + ((nI 5) * (x5))) &&& 31)))), (5, .inl (x5)), (6, .inl (v0)), (7, .inl ((v0) + (nI 16)))]) d_MD_groupWord_81 (by decide) rfl ?_
    refine wp_iinc (v := x5 + nI 1) (ls' := [(0, .inr 7), (1, .inl (x1)), (2, .inl (x2)), (3, .inl (x3)), (4, .inl ((x4) + (((v0) + (nI 16)) <<< (((nI 3) + ((nI 5) * (x5))) &&& 31)))), (5, .inl (x5 + nI 1)), (6, .inl (v0)), (7, .inl ((v0) + (nI 16)))]) d_MD_groupWord_83 rfl (c_inc_1 _) (by decide) rfl ?_
    refine wp_goto (tgt := 25) d_MD_groupWord_86 (by decide) ?_
    refine wp_sub (ls' := [(0, .inr 7), (1, .inl (x1)), (2, .inl (x2)), (3, .inl (x3)), (4, .inl ((x4) + (((v0) + (nI 16)) <<< (((nI 3) + ((nI 5) * (x5))) &&& 31)))), (5, .inl (x5 + nI 1))]) [0, 1, 2, 3, 4, 5] rfl ?_
    exact e2 c1
set_option maxRecDepth 100000 in
set_option maxHeartbeats 4000000 in
theorem k_MD_revocationWord_0 {l : Launch} {E : xE} {h : xh} {Q : Option Int32 → xh → Prop}
    (e1 : WP l E M_MD_revocationWord 4 [(0, .inr 7), (1, .inl (nI 0)), (2, .inl (nI 0))] [] h Q) : MC l E M_MD_revocationWord [.inr 7] h Q := by
  refine wp_iconst (v := nI 0) d_MD_revocationWord_0 c_iconst_0 ?_
  refine wp_istore_n (ls' := [(0, .inr 7), (1, .inl (nI 0))]) d_MD_revocationWord_1 (by decide) rfl ?_
  refine wp_iconst (v := nI 0) d_MD_revocationWord_2 c_iconst_0 ?_
  refine wp_istore_n (ls' := [(0, .inr 7), (1, .inl (nI 0)), (2, .inl (nI 0))]) d_MD_revocationWord_3 (by decide) rfl ?_
  exact e1
set_option maxRecDepth 100000 in
set_option maxHeartbeats 4000000 in
theorem k_MD_revocationWord_4 {l : Launch} {E : xE} {x1 x2 : Int32} {h : xh} {Q : Option Int32 → xh → Prop}
    (e1 : (nI 16) ≤ x2 → Q (some (x1)) h)
    (o1 : ¬ (nI 16) ≤ x2 → vp_in (x2) 16)
    (e2 : ¬ (nI 16) ≤ x2 → (h 28 ((x2).toNatClampNeg)) ≠ (nI 2) → WP l E M_MD_revocationWord 4 [(0, .inr 7), (1, .inl (x1)), (2, .inl (x2 + nI 1))] [] h Q)
    (e3 : ¬ (nI 16) ≤ x2 → (h 28 ((x2).toNatClampNeg)) = (nI 2) → WP l E M_MD_revocationWord 4 [(0, .inr 7), (1, .inl ((x1) ||| ((nI 1) <<< ((x2) &&& 31)))), (2, .inl (x2 + nI 1))] [] h Q) : WP l E M_MD_revocationWord 4 [(0, .inr 7), (1, .inl (x1)), (2, .inl (x2))] [] h Q := by
  refine wp_iload_n d_MD_revocationWord_4 rfl ?_
  refine wp_bipush (v := nI 16) d_MD_revocationWord_5 c_bipush_16 ?_
  refine wp_ic_ge (tgt := 36) d_MD_revocationWord_7 (by decide) (fun c1 => ?_) (fun c1 => ?_)
  · refine wp_iload_n d_MD_revocationWord_36 rfl ?_
    refine wp_ireturn d_MD_revocationWord_37 rfl ?_
    exact e1 c1
  · refine wp_aload_n d_MD_revocationWord_10 rfl ?_
    refine wp_getR d_MD_revocationWord_11 fl_MD_27 rfl rfl ?_
    refine wp_iload_n d_MD_revocationWord_14 rfl ?_
    refine wp_iaload d_MD_revocationWord_15 rfl (o1 c1) ?_
    refine wp_iconst (v := nI 2) d_MD_revocationWord_16 c_iconst_2 ?_
    refine wp_ic_ne (tgt := 28) d_MD_revocationWord_17 (by decide) (fun c2 => ?_) (fun c2 => ?_)
    · refine wp_iload_n d_MD_revocationWord_28 rfl ?_
      refine wp_istore_n (ls' := [(0, .inr 7), (1, .inl (x1)), (2, .inl (x2))]) d_MD_revocationWord_29 (by decide) rfl ?_
      refine wp_iinc (v := x2 + nI 1) (ls' := [(0, .inr 7), (1, .inl (x1)), (2, .inl (x2 + nI 1))]) d_MD_revocationWord_30 rfl (c_inc_1 _) (by decide) rfl ?_
      refine wp_goto (tgt := 4) d_MD_revocationWord_33 (by decide) ?_
      exact e2 c1 c2
    · refine wp_iload_n d_MD_revocationWord_20 rfl ?_
      refine wp_iconst (v := nI 1) d_MD_revocationWord_21 c_iconst_1 ?_
      refine wp_iload_n d_MD_revocationWord_22 rfl ?_
      refine wp_ishl d_MD_revocationWord_23 ?_
      refine wp_ior d_MD_revocationWord_24 ?_
      refine wp_goto (tgt := 29) d_MD_revocationWord_25 (by decide) ?_
      refine wp_istore_n (ls' := [(0, .inr 7), (1, .inl ((x1) ||| ((nI 1) <<< ((x2) &&& 31)))), (2, .inl (x2))]) d_MD_revocationWord_29 (by decide) rfl ?_
      refine wp_iinc (v := x2 + nI 1) (ls' := [(0, .inr 7), (1, .inl ((x1) ||| ((nI 1) <<< ((x2) &&& 31)))), (2, .inl (x2 + nI 1))]) d_MD_revocationWord_30 rfl (c_inc_1 _) (by decide) rfl ?_
      refine wp_goto (tgt := 4) d_MD_revocationWord_33 (by decide) ?_
      exact e3 c1 c2
set_option maxRecDepth 100000 in
set_option maxHeartbeats 4000000 in
theorem k_MD_body_0 {l : Launch} {E : xE} {x1 : Int32} {h : xh} {Q : Option Int32 → xh → Prop}
    (e1 : MC l E M_MD_countOf [.inr 7, .inl (nI 1)] h (fun r h' => WP l E M_MD_body 5 [(0, .inr 7), (1, .inl (x1))] (rpush r []) h' Q)) : MC l E M_MD_body [.inr 7, .inl (x1)] h Q := by
  refine wp_aload_n d_MD_body_0 rfl ?_
  refine wp_iconst (v := nI 1) d_MD_body_1 c_iconst_1 ?_
  refine wp_callV (as := [.inl (nI 1)]) (rest := []) (Q' := fun r h' => WP l E M_MD_body 5 [(0, .inr 7), (1, .inl (x1))] (rpush r []) h' Q) d_MD_body_2 vb_MD_body_76 ⟨gw_3_133, sw_22⟩ rfl rfl rfl rfl (Nat.le_of_ble_eq_true rfl) rfl (Nat.le_of_ble_eq_true rfl) ?_ (fun r h' z => z)
  exact e1
set_option maxRecDepth 100000 in
set_option maxHeartbeats 4000000 in
theorem k_MD_body_5 {l : Launch} {E : xE} {v0 x1 : Int32} {h : xh} {Q : Option Int32 → xh → Prop}
    (e1 : x1 < ((v0) + (((v0) + (nI 3)) / (nI 4))) → (irem (x1) (nI 5)) ≠ 0 → MC l E M_MD_imageBlock [.inr 7, .inl (((((x1) / (nI 5)) * (nI 4)) + (irem (x1) (nI 5))) - (nI 1))] h (fun r h' => WP l E M_MD_body 78 [(0, .inr 7), (1, .inl (x1)), (2, .inl (v0))] (rpush r []) h' Q))
    (e2 : x1 < ((v0) + (((v0) + (nI 3)) / (nI 4))) → (irem (x1) (nI 5)) = 0 → MC l E M_MD_groupWord [.inr 7, .inl ((x1) / (nI 5)), .inl (v0)] h (fun r h' => WP l E M_MD_body 57 [(0, .inr 7), (1, .inl (x1)), (2, .inl (v0))] (rpush r [.inl (h 7 5), .inl (nI 1), .inl (nI 77001), .inr 7]) h' Q))
    (e3 : ¬ x1 < ((v0) + (((v0) + (nI 3)) / (nI 4))) → MC l E M_MD_revocationWord [.inr 7] h (fun r h' => WP l E M_MD_body 29 [(0, .inr 7), (1, .inl (x1)), (2, .inl (v0))] (rpush r [.inl (h 7 5), .inl (nI 2), .inl (nI 77001), .inr 7]) h' Q)) : WP l E M_MD_body 5 [(0, .inr 7), (1, .inl (x1))] [.inl (v0)] h Q := by
  refine wp_istore_n (ls' := [(0, .inr 7), (1, .inl (x1)), (2, .inl (v0))]) d_MD_body_5 (by decide) rfl ?_
  refine wp_iload_n d_MD_body_6 rfl ?_
  refine wp_iload_n d_MD_body_7 rfl ?_
  refine wp_iload_n d_MD_body_8 rfl ?_
  refine wp_iconst (v := nI 3) d_MD_body_9 c_iconst_3 ?_
  refine wp_iadd d_MD_body_10 ?_
  refine wp_iconst (v := nI 4) d_MD_body_11 c_iconst_4 ?_
  refine wp_idiv d_MD_body_12 (by decide +kernel) ?_
  refine wp_iadd d_MD_body_13 ?_
  refine wp_ic_lt (tgt := 35) d_MD_body_14 (by decide) (fun c1 => ?_) (fun c1 => ?_)
  · refine wp_iload_n d_MD_body_35 rfl ?_
    refine wp_iconst (v := nI 5) d_MD_body_36 c_iconst_5 ?_
    refine wp_irem d_MD_body_37 (by decide +kernel) ?_
    refine wp_if_ne (tgt := 63) d_MD_body_38 (by decide) (fun c2 => ?_) (fun c2 => ?_)
    · refine wp_aload_n d_MD_body_63 rfl ?_
      refine wp_iload_n d_MD_body_64 rfl ?_
      refine wp_iconst (v := nI 5) d_MD_body_65 c_iconst_5 ?_
      refine wp_idiv d_MD_body_66 (by decide +kernel) ?_
      refine wp_iconst (v := nI 4) d_MD_body_67 c_iconst_4 ?_
      refine wp_imul d_MD_body_68 ?_
      refine wp_iload_n d_MD_body_69 rfl ?_
      refine wp_iconst (v := nI 5) d_MD_body_70 c_iconst_5 ?_
      refine wp_irem d_MD_body_71 (by decide +kernel) ?_
      refine wp_iadd d_MD_body_72 ?_
      refine wp_iconst (v := nI 1) d_MD_body_73 c_iconst_1 ?_
      refine wp_isub d_MD_body_74 ?_
      refine wp_callV (as := [.inl (((((x1) / (nI 5)) * (nI 4)) + (irem (x1) (nI 5))) - (nI 1))]) (rest := []) (Q' := fun r h' => WP l E M_MD_body 78 [(0, .inr 7), (1, .inl (x1)), (2, .inl (v0))] (rpush r []) h' Q) d_MD_body_75 vb_MD_body_87 ⟨gw_3_230, sw_38⟩ rfl rfl rfl rfl (Nat.le_of_ble_eq_true rfl) rfl (Nat.le_of_ble_eq_true rfl) ?_ (fun r h' z => z)
      exact e1 c1 c2
    · refine wp_aload_n d_MD_body_41 rfl ?_
      refine wp_ldcN d_MD_body_42 gw_3_29 c_lit_77001 ?_
      refine wp_iconst (v := nI 1) d_MD_body_44 c_iconst_1 ?_
      refine wp_aload_n d_MD_body_45 rfl ?_
      refine wp_getI d_MD_body_46 fl_MD_23 rfl rfl ?_
      refine wp_aload_n d_MD_body_49 rfl ?_
      refine wp_iload_n d_MD_body_50 rfl ?_
      refine wp_iconst (v := nI 5) d_MD_body_51 c_iconst_5 ?_
      refine wp_idiv d_MD_body_52 (by decide +kernel) ?_
      refine wp_iload_n d_MD_body_53 rfl ?_
      refine wp_callV (as := [.inl ((x1) / (nI 5)), .inl (v0)]) (rest := [.inl (h 7 5), .inl (nI 1), .inl (nI 77001), .inr 7]) (Q' := fun r h' => WP l E M_MD_body 57 [(0, .inr 7), (1, .inl (x1)), (2, .inl (v0))] (rpush r [.inl (h 7 5), .inl (nI 1), .inl (nI 77001), .inr 7]) h' Q) d_MD_body_54 vb_MD_body_98 ⟨gw_3_226, sw_37⟩ rfl rfl rfl rfl (Nat.le_of_ble_eq_true rfl) rfl (Nat.le_of_ble_eq_true rfl) ?_ (fun r h' z => z)
      exact e2 c1 c2
  · refine wp_aload_n d_MD_body_17 rfl ?_
    refine wp_ldcN d_MD_body_18 gw_3_29 c_lit_77001 ?_
    refine wp_iconst (v := nI 2) d_MD_body_20 c_iconst_2 ?_
    refine wp_aload_n d_MD_body_21 rfl ?_
    refine wp_getI d_MD_body_22 fl_MD_23 rfl rfl ?_
    refine wp_aload_n d_MD_body_25 rfl ?_
    refine wp_callV (as := []) (rest := [.inl (h 7 5), .inl (nI 2), .inl (nI 77001), .inr 7]) (Q' := fun r h' => WP l E M_MD_body 29 [(0, .inr 7), (1, .inl (x1)), (2, .inl (v0))] (rpush r [.inl (h 7 5), .inl (nI 2), .inl (nI 77001), .inr 7]) h' Q) d_MD_body_26 vb_MD_body_90 ⟨gw_3_222, sw_36⟩ rfl rfl rfl rfl (Nat.le_of_ble_eq_true rfl) rfl (Nat.le_of_ble_eq_true rfl) ?_ (fun r h' z => z)
    exact e3 c1
set_option maxRecDepth 100000 in
set_option maxHeartbeats 4000000 in
theorem k_MD_body_78 {l : Launch} {E : xE} {v0 x1 x2 : Int32} {h : xh} {Q : Option Int32 → xh → Prop}
    (o1 : vp_in ((nI 4) * (v0)) 64)
    (o2 : vp_in (((nI 4) * (v0)) + (nI 1)) 64)
    (o3 : vp_in (((nI 4) * (v0)) + (nI 2)) 64)
    (o4 : vp_in (((nI 4) * (v0)) + (nI 3)) 64)
    (e1 : MC l E M_MD_say [.inr 7, .inl (h 29 (((nI 4) * (v0)).toNatClampNeg)), .inl (h 29 ((((nI 4) * (v0)) + (nI 1)).toNatClampNeg)), .inl (h 29 ((((nI 4) * (v0)) + (nI 2)).toNatClampNeg)), .inl (h 29 ((((nI 4) * (v0)) + (nI 3)).toNatClampNeg))] h (fun r h' => WP l E M_MD_body 121 [(0, .inr 7), (1, .inl (x1)), (2, .inl (x2)), (3, .inl (v0))] (rpush r []) h' Q)) : WP l E M_MD_body 78 [(0, .inr 7), (1, .inl (x1)), (2, .inl (x2))] [.inl (v0)] h Q := by
  refine wp_istore_n (ls' := [(0, .inr 7), (1, .inl (x1)), (2, .inl (x2)), (3, .inl (v0))]) d_MD_body_78 (by decide) rfl ?_
  refine wp_aload_n d_MD_body_79 rfl ?_
  refine wp_aload_n d_MD_body_80 rfl ?_
  refine wp_getR d_MD_body_81 fl_MD_30 rfl rfl ?_
  refine wp_iconst (v := nI 4) d_MD_body_84 c_iconst_4 ?_
  refine wp_iload_n d_MD_body_85 rfl ?_
  refine wp_imul d_MD_body_86 ?_
  refine wp_iaload d_MD_body_87 rfl o1 ?_
  refine wp_aload_n d_MD_body_88 rfl ?_
  refine wp_getR d_MD_body_89 fl_MD_30 rfl rfl ?_
  refine wp_iconst (v := nI 4) d_MD_body_92 c_iconst_4 ?_
  refine wp_iload_n d_MD_body_93 rfl ?_
  refine wp_imul d_MD_body_94 ?_
  refine wp_iconst (v := nI 1) d_MD_body_95 c_iconst_1 ?_
  refine wp_iadd d_MD_body_96 ?_
  refine wp_iaload d_MD_body_97 rfl o2 ?_
  refine wp_aload_n d_MD_body_98 rfl ?_
  refine wp_getR d_MD_body_99 fl_MD_30 rfl rfl ?_
  refine wp_iconst (v := nI 4) d_MD_body_102 c_iconst_4 ?_
  refine wp_iload_n d_MD_body_103 rfl ?_
  refine wp_imul d_MD_body_104 ?_
  refine wp_iconst (v := nI 2) d_MD_body_105 c_iconst_2 ?_
  refine wp_iadd d_MD_body_106 ?_
  refine wp_iaload d_MD_body_107 rfl o3 ?_
  refine wp_aload_n d_MD_body_108 rfl ?_
  refine wp_getR d_MD_body_109 fl_MD_30 rfl rfl ?_
  refine wp_iconst (v := nI 4) d_MD_body_112 c_iconst_4 ?_
  refine wp_iload_n d_MD_body_113 rfl ?_
  refine wp_imul d_MD_body_114 ?_
  refine wp_iconst (v := nI 3) d_MD_body_115 c_iconst_3 ?_
  refine wp_iadd d_MD_body_116 ?_
  refine wp_iaload d_MD_body_117 rfl o4 ?_
  refine wp_callV (as := [.inl (h 29 (((nI 4) * (v0)).toNatClampNeg)), .inl (h 29 ((((nI 4) * (v0)) + (nI 1)).toNatClampNeg)), .inl (h 29 ((((nI 4) * (v0)) + (nI 2)).toNatClampNeg)), .inl (h 29 ((((nI 4) * (v0)) + (nI 3)).toNatClampNeg))]) (rest := []) (Q' := fun r h' => WP l E M_MD_body 121 [(0, .inr 7), (1, .inl (x1)), (2, .inl (x2)), (3, .inl (v0))] (rpush r []) h' Q) d_MD_body_118 vb_MD_body_94 ⟨gw_3_206, sw_33⟩ rfl rfl rfl rfl (Nat.le_of_ble_eq_true rfl) rfl (Nat.le_of_ble_eq_true rfl) ?_ (fun r h' z => z)
  exact e1
set_option maxRecDepth 100000 in
set_option maxHeartbeats 4000000 in
theorem k_MD_body_57 {l : Launch} {E : xE} {s1 s2 s3 v0 x1 x2 : Int32} {h : xh} {Q : Option Int32 → xh → Prop}
    (e1 : MC l E M_MD_say [.inr 7, .inl (s1), .inl (s2), .inl (s3), .inl (v0)] h (fun r h' => WP l E M_MD_body 60 [(0, .inr 7), (1, .inl (x1)), (2, .inl (x2))] (rpush r []) h' Q)) : WP l E M_MD_body 57 [(0, .inr 7), (1, .inl (x1)), (2, .inl (x2))] [.inl (v0), .inl (s3), .inl (s2), .inl (s1), .inr 7] h Q := by
  refine wp_callV (as := [.inl (s1), .inl (s2), .inl (s3), .inl (v0)]) (rest := []) (Q' := fun r h' => WP l E M_MD_body 60 [(0, .inr 7), (1, .inl (x1)), (2, .inl (x2))] (rpush r []) h' Q) d_MD_body_57 vb_MD_body_94 ⟨gw_3_206, sw_33⟩ rfl rfl rfl rfl (Nat.le_of_ble_eq_true rfl) rfl (Nat.le_of_ble_eq_true rfl) ?_ (fun r h' z => z)
  exact e1
set_option maxRecDepth 100000 in
set_option maxHeartbeats 4000000 in
theorem k_MD_body_29 {l : Launch} {E : xE} {s1 s2 s3 v0 x1 x2 : Int32} {h : xh} {Q : Option Int32 → xh → Prop}
    (e1 : MC l E M_MD_say [.inr 7, .inl (s1), .inl (s2), .inl (s3), .inl (v0)] h (fun r h' => WP l E M_MD_body 32 [(0, .inr 7), (1, .inl (x1)), (2, .inl (x2))] (rpush r []) h' Q)) : WP l E M_MD_body 29 [(0, .inr 7), (1, .inl (x1)), (2, .inl (x2))] [.inl (v0), .inl (s3), .inl (s2), .inl (s1), .inr 7] h Q := by
  refine wp_callV (as := [.inl (s1), .inl (s2), .inl (s3), .inl (v0)]) (rest := []) (Q' := fun r h' => WP l E M_MD_body 32 [(0, .inr 7), (1, .inl (x1)), (2, .inl (x2))] (rpush r []) h' Q) d_MD_body_29 vb_MD_body_94 ⟨gw_3_206, sw_33⟩ rfl rfl rfl rfl (Nat.le_of_ble_eq_true rfl) rfl (Nat.le_of_ble_eq_true rfl) ?_ (fun r h' z => z)
  exact e1
set_option maxRecDepth 100000 in
set_option maxHeartbeats 4000000 in
theorem k_MD_body_121 {l : Launch} {E : xE} {x1 x2 x3 : Int32} {h : xh} {Q : Option Int32 → xh → Prop}
    (e1 : (h 32 ((nI 0).toNatClampNeg)) ≠ (nI 77001) → Q none (hw h 32 ((nI 0).toNatClampNeg) (h 32 ((nI 0).toNatClampNeg))))
    (e2 : (h 32 ((nI 0).toNatClampNeg)) = (nI 77001) → Q none (hw h 32 ((nI 0).toNatClampNeg) (nI 0))) : WP l E M_MD_body 121 [(0, .inr 7), (1, .inl (x1)), (2, .inl (x2)), (3, .inl (x3))] [] h Q := by
  refine wp_aload_n d_MD_body_121 rfl ?_
  refine wp_getR d_MD_body_122 fl_MD_40 rfl rfl ?_
  refine wp_iconst (v := nI 0) d_MD_body_125 c_iconst_0 ?_
  refine wp_aload_n d_MD_body_126 rfl ?_
  refine wp_getR d_MD_body_127 fl_MD_40 rfl rfl ?_
  refine wp_iconst (v := nI 0) d_MD_body_130 c_iconst_0 ?_
  refine wp_iaload d_MD_body_131 rfl (vp_in_nI (by decide) (by decide)) ?_
  refine wp_ldcN d_MD_body_132 gw_3_29 c_lit_77001 ?_
  refine wp_ic_ne (tgt := 141) d_MD_body_134 (by decide) (fun c1 => ?_) (fun c1 => ?_)
  · refine wp_aload_n d_MD_body_141 rfl ?_
    refine wp_getR d_MD_body_142 fl_MD_40 rfl rfl ?_
    refine wp_iconst (v := nI 0) d_MD_body_145 c_iconst_0 ?_
    refine wp_iaload d_MD_body_146 rfl (vp_in_nI (by decide) (by decide)) ?_
    refine wp_iastore d_MD_body_147 rfl (vp_in_nI (by decide) (by decide)) ?_
    refine wp_return d_MD_body_148 rfl ?_
    exact e1 c1
  · refine wp_iconst (v := nI 0) d_MD_body_137 c_iconst_0 ?_
    refine wp_goto (tgt := 147) d_MD_body_138 (by decide) ?_
    refine wp_iastore d_MD_body_147 rfl (vp_in_nI (by decide) (by decide)) ?_
    refine wp_return d_MD_body_148 rfl ?_
    exact e2 c1
set_option maxRecDepth 100000 in
set_option maxHeartbeats 4000000 in
theorem k_MD_body_60 {l : Launch} {E : xE} {x1 x2 : Int32} {h : xh} {Q : Option Int32 → xh → Prop}
    (e1 : Q none h) : WP l E M_MD_body 60 [(0, .inr 7), (1, .inl (x1)), (2, .inl (x2))] [] h Q := by
  refine wp_goto (tgt := 148) d_MD_body_60 (by decide) ?_
  refine wp_return d_MD_body_148 rfl ?_
  exact e1
set_option maxRecDepth 100000 in
set_option maxHeartbeats 4000000 in
theorem k_MD_body_32 {l : Launch} {E : xE} {x1 x2 : Int32} {h : xh} {Q : Option Int32 → xh → Prop}
    (e1 : Q none h) : WP l E M_MD_body 32 [(0, .inr 7), (1, .inl (x1)), (2, .inl (x2))] [] h Q := by
  refine wp_goto (tgt := 148) d_MD_body_32 (by decide) ?_
  refine wp_return d_MD_body_148 rfl ?_
  exact e1
set_option maxRecDepth 100000 in
set_option maxHeartbeats 4000000 in
theorem k_MD_sum_0 {l : Launch} {E : xE} {x1 : Int32} {h : xh} {Q : Option Int32 → xh → Prop}
    (e1 : WP l E M_MD_sum 7 [(0, .inr 7), (1, .inl (x1)), (2, .inl (h 7 5)), (3, .inl (nI 0))] [] h Q) : MC l E M_MD_sum [.inr 7, .inl (x1)] h Q := by
  refine wp_aload_n d_MD_sum_0 rfl ?_
  refine wp_getI d_MD_sum_1 fl_MD_23 rfl rfl ?_
  refine wp_istore_n (ls' := [(0, .inr 7), (1, .inl (x1)), (2, .inl (h 7 5))]) d_MD_sum_4 (by decide) rfl ?_
  refine wp_iconst (v := nI 0) d_MD_sum_5 c_iconst_0 ?_
  refine wp_istore_n (ls' := [(0, .inr 7), (1, .inl (x1)), (2, .inl (h 7 5)), (3, .inl (nI 0))]) d_MD_sum_6 (by decide) rfl ?_
  exact e1
set_option maxRecDepth 100000 in
set_option maxHeartbeats 4000000 in
theorem k_MD_sum_7 {l : Launch} {E : xE} {x1 x2 x3 : Int32} {h : xh} {Q : Option Int32 → xh → Prop}
    (e1 : x1 ≤ x3 → Q (some (x2)) h)
    (e2 : ¬ x1 ≤ x3 → MC l E M_MD_body [.inr 7, .inl (x3)] h (fun r h' => WP l E M_MD_sum 17 [(0, .inr 7), (1, .inl (x1)), (2, .inl (x2)), (3, .inl (x3))] (rpush r []) h' Q)) : WP l E M_MD_sum 7 [(0, .inr 7), (1, .inl (x1)), (2, .inl (x2)), (3, .inl (x3))] [] h Q := by
  refine wp_iload_n d_MD_sum_7 rfl ?_
  refine wp_iload_n d_MD_sum_8 rfl ?_
  refine wp_ic_ge (tgt := 50) d_MD_sum_9 (by decide) (fun c1 => ?_) (fun c1 => ?_)
  · refine wp_iload_n d_MD_sum_50 rfl ?_
    refine wp_ireturn d_MD_sum_51 rfl ?_
    exact e1 c1
  · refine wp_aload_n d_MD_sum_12 rfl ?_
    refine wp_iload_n d_MD_sum_13 rfl ?_
    refine wp_callV (as := [.inl (x3)]) (rest := []) (Q' := fun r h' => WP l E M_MD_sum 17 [(0, .inr 7), (1, .inl (x1)), (2, .inl (x2)), (3, .inl (x3))] (rpush r []) h' Q) d_MD_sum_14 vb_MD_sum_101 ⟨gw_3_218, sw_35⟩ rfl rfl rfl rfl (Nat.le_of_ble_eq_true rfl) rfl (Nat.le_of_ble_eq_true rfl) ?_ (fun r h' z => z)
    exact e2 c1
set_option maxRecDepth 100000 in
set_option maxHeartbeats 4000000 in
theorem k_MD_sum_17 {l : Launch} {E : xE} {x1 x2 x3 : Int32} {h : xh} {Q : Option Int32 → xh → Prop}
    (e1 : WP l E M_MD_sum 20 [(0, .inr 7), (1, .inl (x1)), (2, .inl (x2)), (3, .inl (x3)), (4, .inl (nI 0))] [] h Q) : WP l E M_MD_sum 17 [(0, .inr 7), (1, .inl (x1)), (2, .inl (x2)), (3, .inl (x3))] [] h Q := by
  refine wp_iconst (v := nI 0) d_MD_sum_17 c_iconst_0 ?_
  refine wp_istore (ls' := [(0, .inr 7), (1, .inl (x1)), (2, .inl (x2)), (3, .inl (x3)), (4, .inl (nI 0))]) d_MD_sum_18 (by decide) rfl ?_
  exact e1
set_option maxRecDepth 100000 in
set_option maxHeartbeats 4000000 in
theorem k_MD_sum_20 {l : Launch} {E : xE} {x1 x2 x3 x4 : Int32} {h : xh} {Q : Option Int32 → xh → Prop}
    (e1 : (nI 4) ≤ x4 → WP l E M_MD_sum 7 [(0, .inr 7), (1, .inl (x1)), (2, .inl (x2)), (3, .inl (x3 + nI 1))] [] h Q)
    (o1 : ¬ (nI 4) ≤ x4 → vp_in (x4) 4)
    (e2 : ¬ (nI 4) ≤ x4 → WP l E M_MD_sum 20 [(0, .inr 7), (1, .inl (x1)), (2, .inl (((((x2) ^^^ (h 32 ((x4).toNatClampNeg))) * (nI 40503)) + (nI 7)) ^^^ (ushr ((((x2) ^^^ (h 32 ((x4).toNatClampNeg))) * (nI 40503)) + (nI 7)) (nI 15)))), (3, .inl (x3)), (4, .inl (x4 + nI 1))] [] h Q) : WP l E M_MD_sum 20 [(0, .inr 7), (1, .inl (x1)), (2, .inl (x2)), (3, .inl (x3)), (4, .inl (x4))] [] h Q := by
  refine wp_iload d_MD_sum_20 rfl ?_
  refine wp_iconst (v := nI 4) d_MD_sum_22 c_iconst_4 ?_
  refine wp_ic_ge (tgt := 44) d_MD_sum_23 (by decide) (fun c1 => ?_) (fun c1 => ?_)
  · refine wp_iinc (v := x3 + nI 1) (ls' := [(0, .inr 7), (1, .inl (x1)), (2, .inl (x2)), (3, .inl (x3 + nI 1)), (4, .inl (x4))]) d_MD_sum_44 rfl (c_inc_1 _) (by decide) rfl ?_
    refine wp_goto (tgt := 7) d_MD_sum_47 (by decide) ?_
    refine wp_sub (ls' := [(0, .inr 7), (1, .inl (x1)), (2, .inl (x2)), (3, .inl (x3 + nI 1))]) [0, 1, 2, 3] rfl ?_
    exact e1 c1
  · refine wp_iload_n d_MD_sum_26 rfl ?_
    refine wp_aload_n d_MD_sum_27 rfl ?_
    refine wp_getR d_MD_sum_28 fl_MD_40 rfl rfl ?_
    refine wp_iload d_MD_sum_31 rfl ?_
    refine wp_iaload d_MD_sum_33 rfl (o1 c1) ?_
    refine wp_callS (as := [.inl (x2), .inl (h 32 ((x4).toNatClampNeg))]) (rest := []) (Q' := fun r h' => WP l E M_MD_sum 37 [(0, .inr 7), (1, .inl (x1)), (2, .inl (x2)), (3, .inl (x3)), (4, .inl (x4))] (rpush r []) h' _) d_MD_sum_34 vb_MD_sum_104 gw_3_197 rfl (Nat.le_of_ble_eq_true rfl) rfl (Nat.le_of_ble_eq_true rfl) ?_ (fun r h' z => z)
    show WP l E M_MD_mix 0 [(0, .inl (x2)), (1, .inl (h 32 ((x4).toNatClampNeg)))] [] h _
    refine wp_iload_n d_MD_mix_0 rfl ?_
    refine wp_iload_n d_MD_mix_1 rfl ?_
    refine wp_ixor d_MD_mix_2 ?_
    refine wp_ldcN d_MD_mix_3 gw_3_199 c_lit_40503 ?_
    refine wp_imul d_MD_mix_5 ?_
    refine wp_bipush (v := nI 7) d_MD_mix_6 c_bipush_7 ?_
    refine wp_iadd d_MD_mix_8 ?_
    refine wp_istore_n (ls' := [(0, .inl (x2)), (1, .inl (h 32 ((x4).toNatClampNeg))), (2, .inl ((((x2) ^^^ (h 32 ((x4).toNatClampNeg))) * (nI 40503)) + (nI 7)))]) d_MD_mix_9 (by decide) rfl ?_
    refine wp_iload_n d_MD_mix_10 rfl ?_
    refine wp_iload_n d_MD_mix_11 rfl ?_
    refine wp_bipush (v := nI 15) d_MD_mix_12 c_bipush_15 ?_
    refine wp_iushr d_MD_mix_14 ?_
    refine wp_ixor d_MD_mix_15 ?_
    refine wp_ireturn d_MD_mix_16 rfl ?_
    show WP l E M_MD_sum 37 [(0, .inr 7), (1, .inl (x1)), (2, .inl (x2)), (3, .inl (x3)), (4, .inl (x4))] [.inl (((((x2) ^^^ (h 32 ((x4).toNatClampNeg))) * (nI 40503)) + (nI 7)) ^^^ (ushr ((((x2) ^^^ (h 32 ((x4).toNatClampNeg))) * (nI 40503)) + (nI 7)) (nI 15)))] h _
    refine wp_istore_n (ls' := [(0, .inr 7), (1, .inl (x1)), (2, .inl (((((x2) ^^^ (h 32 ((x4).toNatClampNeg))) * (nI 40503)) + (nI 7)) ^^^ (ushr ((((x2) ^^^ (h 32 ((x4).toNatClampNeg))) * (nI 40503)) + (nI 7)) (nI 15)))), (3, .inl (x3)), (4, .inl (x4))]) d_MD_sum_37 (by decide) rfl ?_
    refine wp_iinc (v := x4 + nI 1) (ls' := [(0, .inr 7), (1, .inl (x1)), (2, .inl (((((x2) ^^^ (h 32 ((x4).toNatClampNeg))) * (nI 40503)) + (nI 7)) ^^^ (ushr ((((x2) ^^^ (h 32 ((x4).toNatClampNeg))) * (nI 40503)) + (nI 7)) (nI 15)))), (3, .inl (x3)), (4, .inl (x4 + nI 1))]) d_MD_sum_38 rfl (c_inc_1 _) (by decide) rfl ?_
    refine wp_goto (tgt := 20) d_MD_sum_41 (by decide) ?_
    exact e2 c1
set_option maxRecDepth 100000 in
set_option maxHeartbeats 4000000 in
theorem k_MD_commit_0 {l : Launch} {E : xE} {h : xh} {Q : Option Int32 → xh → Prop}
    (e1 : (h 7 4) = 0 → Q (some ((-1))) h)
    (e2 : ¬ (h 7 4) = 0 → (h 7 12) ≠ 0 → Q (some ((-1))) h)
    (e3 : ¬ (h 7 4) = 0 → (h 7 12) = 0 → MC l E M_MD_countOf [.inr 7, .inl (nI 0)] h (fun r h' => WP l E M_MD_commit 12 [(0, .inr 7)] (rpush r []) h' Q)) : MC l E M_MD_commit [.inr 7] h Q := by
  refine wp_aload_n d_MD_commit_0 rfl ?_
  refine wp_callV (as := []) (rest := []) (Q' := fun r h' => WP l E M_MD_commit 4 [(0, .inr 7)] (rpush r []) h' _) d_MD_commit_1 vb_MD_commit_72 ⟨gw_3_129, sw_21⟩ rfl rfl rfl rfl (Nat.le_of_ble_eq_true rfl) rfl (Nat.le_of_ble_eq_true rfl) ?_ (fun r h' z => z)
  show WP l E M_MD_idle 0 [(0, .inr 7)] [] h _
  refine wp_aload_n d_MD_idle_0 rfl ?_
  refine wp_getI d_MD_idle_1 fl_MD_19 rfl rfl ?_
  refine wp_if_eq (tgt := 18) d_MD_idle_4 (by decide) (fun c1 => ?_) (fun c1 => ?_)
  · refine wp_iconst (v := nI 0) d_MD_idle_18 c_iconst_0 ?_
    refine wp_zreturn d_MD_idle_19 rfl (by decide) ?_
    show WP l E M_MD_commit 4 [(0, .inr 7)] [.inl (nI 0)] h _
    refine wp_if_eq (tgt := 17) d_MD_commit_4 (by decide) (fun _ => ?_) (fun z => absurd z (by decide +kernel))
    refine wp_iconst (v := (-1)) d_MD_commit_17 c_iconst_m1 ?_
    refine wp_ireturn d_MD_commit_18 rfl ?_
    exact e1 c1
  · refine wp_aload_n d_MD_idle_7 rfl ?_
    refine wp_getI d_MD_idle_8 fl_MD_69 rfl rfl ?_
    refine wp_if_ne (tgt := 18) d_MD_idle_11 (by decide) (fun c2 => ?_) (fun c2 => ?_)
    · refine wp_iconst (v := nI 0) d_MD_idle_18 c_iconst_0 ?_
      refine wp_zreturn d_MD_idle_19 rfl (by decide) ?_
      show WP l E M_MD_commit 4 [(0, .inr 7)] [.inl (nI 0)] h _
      refine wp_if_eq (tgt := 17) d_MD_commit_4 (by decide) (fun _ => ?_) (fun z => absurd z (by decide +kernel))
      refine wp_iconst (v := (-1)) d_MD_commit_17 c_iconst_m1 ?_
      refine wp_ireturn d_MD_commit_18 rfl ?_
      exact e2 c1 c2
    · refine wp_iconst (v := nI 1) d_MD_idle_14 c_iconst_1 ?_
      refine wp_goto (tgt := 19) d_MD_idle_15 (by decide) ?_
      refine wp_zreturn d_MD_idle_19 rfl (by decide) ?_
      show WP l E M_MD_commit 4 [(0, .inr 7)] [.inl (nI 1)] h _
      refine wp_if_eq (tgt := 17) d_MD_commit_4 (by decide) (fun z => absurd z (by decide +kernel)) (fun _ => ?_)
      refine wp_aload_n d_MD_commit_7 rfl ?_
      refine wp_iconst (v := nI 0) d_MD_commit_8 c_iconst_0 ?_
      refine wp_callV (as := [.inl (nI 0)]) (rest := []) (Q' := fun r h' => WP l E M_MD_commit 12 [(0, .inr 7)] (rpush r []) h' Q) d_MD_commit_9 vb_MD_commit_76 ⟨gw_3_133, sw_22⟩ rfl rfl rfl rfl (Nat.le_of_ble_eq_true rfl) rfl (Nat.le_of_ble_eq_true rfl) ?_ (fun r h' z => z)
      exact e3 c1 c2
set_option maxRecDepth 100000 in
set_option maxHeartbeats 4000000 in
theorem k_MD_commit_12 {l : Launch} {E : xE} {v0 : Int32} {h : xh} {Q : Option Int32 → xh → Prop}
    (e1 : v0 ≠ (nI 16) → MC l E M_MD_rowLength [.inr 7] h (fun r h' => WP l E M_MD_commit 23 [(0, .inr 7)] (rpush r []) h' Q))
    (e2 : v0 = (nI 16) → Q (some ((-1))) h) : WP l E M_MD_commit 12 [(0, .inr 7)] [.inl (v0)] h Q := by
  refine wp_bipush (v := nI 16) d_MD_commit_12 c_bipush_16 ?_
  refine wp_ic_ne (tgt := 19) d_MD_commit_14 (by decide) (fun c1 => ?_) (fun c1 => ?_)
  · refine wp_aload_n d_MD_commit_19 rfl ?_
    refine wp_callV (as := []) (rest := []) (Q' := fun r h' => WP l E M_MD_commit 23 [(0, .inr 7)] (rpush r []) h' Q) d_MD_commit_20 vb_MD_commit_107 ⟨gw_3_158, sw_24⟩ rfl rfl rfl rfl (Nat.le_of_ble_eq_true rfl) rfl (Nat.le_of_ble_eq_true rfl) ?_ (fun r h' z => z)
    exact e1 c1
  · refine wp_iconst (v := (-1)) d_MD_commit_17 c_iconst_m1 ?_
    refine wp_ireturn d_MD_commit_18 rfl ?_
    exact e2 c1
set_option maxRecDepth 100000 in
set_option maxHeartbeats 4000000 in
theorem k_MD_commit_23 {l : Launch} {E : xE} {v0 : Int32} {h : xh} {Q : Option Int32 → xh → Prop}
    (e1 : ((h 7 7) + (v0)) ≤ (nI 23) → Q (some (v0)) (hw (hw (hw h 7 12 (nI 2)) 7 13 (nI 0)) 7 14 ((v0) + (nI 2))))
    (e2 : ¬ ((h 7 7) + (v0)) ≤ (nI 23) → Q (some ((-2))) h) : WP l E M_MD_commit 23 [(0, .inr 7)] [.inl (v0)] h Q := by
  refine wp_istore_n (ls' := [(0, .inr 7), (1, .inl (v0))]) d_MD_commit_23 (by decide) rfl ?_
  refine wp_aload_n d_MD_commit_24 rfl ?_
  refine wp_getI d_MD_commit_25 fl_MD_110 rfl rfl ?_
  refine wp_iload_n d_MD_commit_28 rfl ?_
  refine wp_iadd d_MD_commit_29 ?_
  refine wp_bipush (v := nI 23) d_MD_commit_30 c_bipush_23 ?_
  refine wp_ic_le (tgt := 38) d_MD_commit_32 (by decide) (fun c1 => ?_) (fun c1 => ?_)
  · refine wp_aload_n d_MD_commit_38 rfl ?_
    refine wp_iconst (v := nI 2) d_MD_commit_39 c_iconst_2 ?_
    refine wp_putI d_MD_commit_40 fm_MD_69 rfl rfl ?_
    refine wp_aload_n d_MD_commit_43 rfl ?_
    refine wp_iconst (v := nI 0) d_MD_commit_44 c_iconst_0 ?_
    refine wp_putI d_MD_commit_45 fm_MD_113 rfl rfl ?_
    refine wp_aload_n d_MD_commit_48 rfl ?_
    refine wp_iload_n d_MD_commit_49 rfl ?_
    refine wp_iconst (v := nI 2) d_MD_commit_50 c_iconst_2 ?_
    refine wp_iadd d_MD_commit_51 ?_
    refine wp_putI d_MD_commit_52 fm_MD_116 rfl rfl ?_
    refine wp_iload_n d_MD_commit_55 rfl ?_
    refine wp_ireturn d_MD_commit_56 rfl ?_
    exact e1 c1
  · refine wp_bipush (v := (-2)) d_MD_commit_35 c_bipush_m2 ?_
    refine wp_ireturn d_MD_commit_37 rfl ?_
    exact e2 c1
set_option maxRecDepth 100000 in
set_option maxHeartbeats 4000000 in
theorem k_MD_commitAction_0 {l : Launch} {E : xE} {x1 : Int32} {h : xh} {Q : Option Int32 → xh → Prop}
    (e1 : (((h 7 14) - (nI 2)) - (nI 1)) ≤ x1 → x1 ≠ ((h 7 14) - (nI 2)) → MC l E M_MD_flush [.inr 7] h (fun r h' => WP l E M_MD_commitAction 88 [(0, .inr 7), (1, .inl (x1)), (2, .inl ((h 7 14) - (nI 2)))] (rpush r []) h' Q))
    (e2 : (((h 7 14) - (nI 2)) - (nI 1)) ≤ x1 → x1 = ((h 7 14) - (nI 2)) → MC l E M_MD_sum [.inr 7, .inl (((h 7 14) - (nI 2)) - (nI 1))] h (fun r h' => WP l E M_MD_commitAction 50 [(0, .inr 7), (1, .inl (x1)), (2, .inl ((h 7 14) - (nI 2)))] (rpush r []) h' Q))
    (e3 : ¬ (((h 7 14) - (nI 2)) - (nI 1)) ≤ x1 → MC l E M_MD_body [.inr 7, .inl (x1)] h (fun r h' => WP l E M_MD_commitAction 19 [(0, .inr 7), (1, .inl (x1)), (2, .inl ((h 7 14) - (nI 2)))] (rpush r []) h' Q)) : MC l E M_MD_commitAction [.inr 7, .inl (x1)] h Q := by
  refine wp_aload_n d_MD_commitAction_0 rfl ?_
  refine wp_getI d_MD_commitAction_1 fl_MD_116 rfl rfl ?_
  refine wp_iconst (v := nI 2) d_MD_commitAction_4 c_iconst_2 ?_
  refine wp_isub d_MD_commitAction_5 ?_
  refine wp_istore_n (ls' := [(0, .inr 7), (1, .inl (x1)), (2, .inl ((h 7 14) - (nI 2)))]) d_MD_commitAction_6 (by decide) rfl ?_
  refine wp_iload_n d_MD_commitAction_7 rfl ?_
  refine wp_iload_n d_MD_commitAction_8 rfl ?_
  refine wp_iconst (v := nI 1) d_MD_commitAction_9 c_iconst_1 ?_
  refine wp_isub d_MD_commitAction_10 ?_
  refine wp_ic_ge (tgt := 38) d_MD_commitAction_11 (by decide) (fun c1 => ?_) (fun c1 => ?_)
  · refine wp_iload_n d_MD_commitAction_38 rfl ?_
    refine wp_iload_n d_MD_commitAction_39 rfl ?_
    refine wp_ic_ne (tgt := 84) d_MD_commitAction_40 (by decide) (fun c2 => ?_) (fun c2 => ?_)
    · refine wp_aload_n d_MD_commitAction_84 rfl ?_
      refine wp_callV (as := []) (rest := []) (Q' := fun r h' => WP l E M_MD_commitAction 88 [(0, .inr 7), (1, .inl (x1)), (2, .inl ((h 7 14) - (nI 2)))] (rpush r []) h' Q) d_MD_commitAction_85 vb_MD_commitAction_125 ⟨gw_3_238, sw_40⟩ rfl rfl rfl rfl (Nat.le_of_ble_eq_true rfl) rfl (Nat.le_of_ble_eq_true rfl) ?_ (fun r h' z => z)
      exact e1 c1 c2
    · refine wp_aload_n d_MD_commitAction_43 rfl ?_
      refine wp_iload_n d_MD_commitAction_44 rfl ?_
      refine wp_iconst (v := nI 1) d_MD_commitAction_45 c_iconst_1 ?_
      refine wp_isub d_MD_commitAction_46 ?_
      refine wp_callV (as := [.inl (((h 7 14) - (nI 2)) - (nI 1))]) (rest := []) (Q' := fun r h' => WP l E M_MD_commitAction 50 [(0, .inr 7), (1, .inl (x1)), (2, .inl ((h 7 14) - (nI 2)))] (rpush r []) h' Q) d_MD_commitAction_47 vb_MD_commitAction_122 ⟨gw_3_234, sw_39⟩ rfl rfl rfl rfl (Nat.le_of_ble_eq_true rfl) rfl (Nat.le_of_ble_eq_true rfl) ?_ (fun r h' z => z)
      exact e2 c1 c2
  · refine wp_aload_n d_MD_commitAction_14 rfl ?_
    refine wp_iload_n d_MD_commitAction_15 rfl ?_
    refine wp_callV (as := [.inl (x1)]) (rest := []) (Q' := fun r h' => WP l E M_MD_commitAction 19 [(0, .inr 7), (1, .inl (x1)), (2, .inl ((h 7 14) - (nI 2)))] (rpush r []) h' Q) d_MD_commitAction_16 vb_MD_commitAction_101 ⟨gw_3_218, sw_35⟩ rfl rfl rfl rfl (Nat.le_of_ble_eq_true rfl) rfl (Nat.le_of_ble_eq_true rfl) ?_ (fun r h' z => z)
    exact e3 c1
set_option maxRecDepth 100000 in
set_option maxHeartbeats 4000000 in
theorem k_MD_commitAction_88 {l : Launch} {E : xE} {x1 x2 : Int32} {h : xh} {Q : Option Int32 → xh → Prop}
    (e1 : Q none h) : WP l E M_MD_commitAction 88 [(0, .inr 7), (1, .inl (x1)), (2, .inl (x2))] [] h Q := by
  refine wp_return d_MD_commitAction_88 rfl ?_
  exact e1
set_option maxRecDepth 100000 in
set_option maxHeartbeats 4000000 in
theorem k_MD_commitAction_50 {l : Launch} {E : xE} {v0 x1 x2 : Int32} {h : xh} {Q : Option Int32 → xh → Prop}
    (e1 : MC l E M_MD_say [.inr 7, .inl (nI 77001), .inl (nI 3), .inl (h 7 5), .inl (v0)] h (fun r h' => WP l E M_MD_commitAction 63 [(0, .inr 7), (1, .inl (x1)), (2, .inl (x2)), (3, .inl (v0))] (rpush r []) h' Q)) : WP l E M_MD_commitAction 50 [(0, .inr 7), (1, .inl (x1)), (2, .inl (x2))] [.inl (v0)] h Q := by
  refine wp_istore_n (ls' := [(0, .inr 7), (1, .inl (x1)), (2, .inl (x2)), (3, .inl (v0))]) d_MD_commitAction_50 (by decide) rfl ?_
  refine wp_aload_n d_MD_commitAction_51 rfl ?_
  refine wp_ldcN d_MD_commitAction_52 gw_3_29 c_lit_77001 ?_
  refine wp_iconst (v := nI 3) d_MD_commitAction_54 c_iconst_3 ?_
  refine wp_aload_n d_MD_commitAction_55 rfl ?_
  refine wp_getI d_MD_commitAction_56 fl_MD_23 rfl rfl ?_
  refine wp_iload_n d_MD_commitAction_59 rfl ?_
  refine wp_callV (as := [.inl (nI 77001), .inl (nI 3), .inl (h 7 5), .inl (v0)]) (rest := []) (Q' := fun r h' => WP l E M_MD_commitAction 63 [(0, .inr 7), (1, .inl (x1)), (2, .inl (x2)), (3, .inl (v0))] (rpush r []) h' Q) d_MD_commitAction_60 vb_MD_commitAction_94 ⟨gw_3_206, sw_33⟩ rfl rfl rfl rfl (Nat.le_of_ble_eq_true rfl) rfl (Nat.le_of_ble_eq_true rfl) ?_ (fun r h' z => z)
  exact e1
set_option maxRecDepth 100000 in
set_option maxHeartbeats 4000000 in
theorem k_MD_commitAction_19 {l : Launch} {E : xE} {x1 x2 : Int32} {h : xh} {Q : Option Int32 → xh → Prop}
    (e1 : MC l E M_MD_writeOut [.inr 7, .inl ((nI 17) + (irem ((h 7 6) + (x1)) (nI 24)))] h (fun r h' => WP l E M_MD_commitAction 35 [(0, .inr 7), (1, .inl (x1)), (2, .inl (x2))] (rpush r []) h' Q)) : WP l E M_MD_commitAction 19 [(0, .inr 7), (1, .inl (x1)), (2, .inl (x2))] [] h Q := by
  refine wp_aload_n d_MD_commitAction_19 rfl ?_
  refine wp_bipush (v := nI 17) d_MD_commitAction_20 c_bipush_17 ?_
  refine wp_aload_n d_MD_commitAction_22 rfl ?_
  refine wp_getI d_MD_commitAction_23 fl_MD_119 rfl rfl ?_
  refine wp_iload_n d_MD_commitAction_26 rfl ?_
  refine wp_iadd d_MD_commitAction_27 ?_
  refine wp_bipush (v := nI 24) d_MD_commitAction_28 c_bipush_24 ?_
  refine wp_irem d_MD_commitAction_30 (by decide +kernel) ?_
  refine wp_iadd d_MD_commitAction_31 ?_
  refine wp_callV (as := [.inl ((nI 17) + (irem ((h 7 6) + (x1)) (nI 24)))]) (rest := []) (Q' := fun r h' => WP l E M_MD_commitAction 35 [(0, .inr 7), (1, .inl (x1)), (2, .inl (x2))] (rpush r []) h' Q) d_MD_commitAction_32 vb_MD_commitAction_83 ⟨gw_3_146, sw_23⟩ rfl rfl rfl rfl (Nat.le_of_ble_eq_true rfl) rfl (Nat.le_of_ble_eq_true rfl) ?_ (fun r h' z => z)
  exact e1
set_option maxRecDepth 100000 in
set_option maxHeartbeats 4000000 in
theorem k_MD_commitAction_63 {l : Launch} {E : xE} {x1 x2 x3 : Int32} {h : xh} {Q : Option Int32 → xh → Prop}
    (e1 : MC l E M_MD_writeOut [.inr 7, .inl ((nI 17) + (irem (((h 7 6) + (x2)) - (nI 1)) (nI 24)))] h (fun r h' => WP l E M_MD_commitAction 81 [(0, .inr 7), (1, .inl (x1)), (2, .inl (x2)), (3, .inl (x3))] (rpush r []) h' Q)) : WP l E M_MD_commitAction 63 [(0, .inr 7), (1, .inl (x1)), (2, .inl (x2)), (3, .inl (x3))] [] h Q := by
  refine wp_aload_n d_MD_commitAction_63 rfl ?_
  refine wp_bipush (v := nI 17) d_MD_commitAction_64 c_bipush_17 ?_
  refine wp_aload_n d_MD_commitAction_66 rfl ?_
  refine wp_getI d_MD_commitAction_67 fl_MD_119 rfl rfl ?_
  refine wp_iload_n d_MD_commitAction_70 rfl ?_
  refine wp_iadd d_MD_commitAction_71 ?_
  refine wp_iconst (v := nI 1) d_MD_commitAction_72 c_iconst_1 ?_
  refine wp_isub d_MD_commitAction_73 ?_
  refine wp_bipush (v := nI 24) d_MD_commitAction_74 c_bipush_24 ?_
  refine wp_irem d_MD_commitAction_76 (by decide +kernel) ?_
  refine wp_iadd d_MD_commitAction_77 ?_
  refine wp_callV (as := [.inl ((nI 17) + (irem (((h 7 6) + (x2)) - (nI 1)) (nI 24)))]) (rest := []) (Q' := fun r h' => WP l E M_MD_commitAction 81 [(0, .inr 7), (1, .inl (x1)), (2, .inl (x2)), (3, .inl (x3))] (rpush r []) h' Q) d_MD_commitAction_78 vb_MD_commitAction_83 ⟨gw_3_146, sw_23⟩ rfl rfl rfl rfl (Nat.le_of_ble_eq_true rfl) rfl (Nat.le_of_ble_eq_true rfl) ?_ (fun r h' z => z)
  exact e1
set_option maxRecDepth 100000 in
set_option maxHeartbeats 4000000 in
theorem k_MD_commitAction_35 {l : Launch} {E : xE} {x1 x2 : Int32} {h : xh} {Q : Option Int32 → xh → Prop}
    (e1 : Q none h) : WP l E M_MD_commitAction 35 [(0, .inr 7), (1, .inl (x1)), (2, .inl (x2))] [] h Q := by
  refine wp_goto (tgt := 88) d_MD_commitAction_35 (by decide) ?_
  refine wp_return d_MD_commitAction_88 rfl ?_
  exact e1
set_option maxRecDepth 100000 in
set_option maxHeartbeats 4000000 in
theorem k_MD_commitAction_81 {l : Launch} {E : xE} {x1 x2 x3 : Int32} {h : xh} {Q : Option Int32 → xh → Prop}
    (e1 : Q none h) : WP l E M_MD_commitAction 81 [(0, .inr 7), (1, .inl (x1)), (2, .inl (x2)), (3, .inl (x3))] [] h Q := by
  refine wp_goto (tgt := 88) d_MD_commitAction_81 (by decide) ?_
  refine wp_return d_MD_commitAction_88 rfl ?_
  exact e1
set_option maxRecDepth 100000 in
set_option maxHeartbeats 4000000 in
theorem k_MD_committed_0 {l : Launch} {E : xE} {h : xh} {Q : Option Int32 → xh → Prop}
    (e1 : WP l E M_MD_committed 42 [(0, .inr 7), (1, .inl ((h 7 14) - (nI 2))), (2, .inl (nI 0))] [] (hw (hw (hw h 7 6 (irem ((h 7 6) + ((h 7 14) - (nI 2))) (nI 24))) 7 7 ((h 7 7) + ((h 7 14) - (nI 2)))) 7 5 ((h 7 5) + (nI 1))) Q) : MC l E M_MD_committed [.inr 7] h Q := by
  refine wp_aload_n d_MD_committed_0 rfl ?_
  refine wp_getI d_MD_committed_1 fl_MD_116 rfl rfl ?_
  refine wp_iconst (v := nI 2) d_MD_committed_4 c_iconst_2 ?_
  refine wp_isub d_MD_committed_5 ?_
  refine wp_istore_n (ls' := [(0, .inr 7), (1, .inl ((h 7 14) - (nI 2)))]) d_MD_committed_6 (by decide) rfl ?_
  refine wp_aload_n d_MD_committed_7 rfl ?_
  refine wp_aload_n d_MD_committed_8 rfl ?_
  refine wp_getI d_MD_committed_9 fl_MD_119 rfl rfl ?_
  refine wp_iload_n d_MD_committed_12 rfl ?_
  refine wp_iadd d_MD_committed_13 ?_
  refine wp_bipush (v := nI 24) d_MD_committed_14 c_bipush_24 ?_
  refine wp_irem d_MD_committed_16 (by decide +kernel) ?_
  refine wp_putI d_MD_committed_17 fm_MD_119 rfl rfl ?_
  refine wp_aload_n d_MD_committed_20 rfl ?_
  refine wp_aload_n d_MD_committed_21 rfl ?_
  refine wp_getI d_MD_committed_22 fl_MD_110 rfl rfl ?_
  show WP l E M_MD_committed 25 [(0, .inr 7), (1, .inl ((h 7 14) - (nI 2)))] [.inl (h 7 7), .inr 7] (hw h 7 6 (irem ((h 7 6) + ((h 7 14) - (nI 2))) (nI 24))) _
  refine wp_iload_n d_MD_committed_25 rfl ?_
  refine wp_iadd d_MD_committed_26 ?_
  refine wp_putI d_MD_committed_27 fm_MD_110 rfl rfl ?_
  refine wp_aload_n d_MD_committed_30 rfl ?_
  refine wp_aload_n d_MD_committed_31 rfl ?_
  refine wp_getI d_MD_committed_32 fl_MD_23 rfl rfl ?_
  show WP l E M_MD_committed 35 [(0, .inr 7), (1, .inl ((h 7 14) - (nI 2)))] [.inl (h 7 5), .inr 7] (hw (hw h 7 6 (irem ((h 7 6) + ((h 7 14) - (nI 2))) (nI 24))) 7 7 ((h 7 7) + ((h 7 14) - (nI 2)))) _
  refine wp_iconst (v := nI 1) d_MD_committed_35 c_iconst_1 ?_
  refine wp_iadd d_MD_committed_36 ?_
  refine wp_putI d_MD_committed_37 fm_MD_23 rfl rfl ?_
  refine wp_iconst (v := nI 0) d_MD_committed_40 c_iconst_0 ?_
  refine wp_istore_n (ls' := [(0, .inr 7), (1, .inl ((h 7 14) - (nI 2))), (2, .inl (nI 0))]) d_MD_committed_41 (by decide) rfl ?_
  exact e1
set_option maxRecDepth 100000 in
set_option maxHeartbeats 4000000 in
theorem k_MD_committed_42 {l : Launch} {E : xE} {x1 x2 : Int32} {h : xh} {Q : Option Int32 → xh → Prop}
    (e1 : (nI 16) ≤ x2 → Q none h)
    (e2 : ¬ (nI 16) ≤ x2 → WP l E M_MD_committed 50 [(0, .inr 7), (1, .inl (x1)), (2, .inl (x2)), (3, .inl (nI 0))] [] h Q) : WP l E M_MD_committed 42 [(0, .inr 7), (1, .inl (x1)), (2, .inl (x2))] [] h Q := by
  refine wp_iload_n d_MD_committed_42 rfl ?_
  refine wp_bipush (v := nI 16) d_MD_committed_43 c_bipush_16 ?_
  refine wp_ic_ge (tgt := 156) d_MD_committed_45 (by decide) (fun c1 => ?_) (fun c1 => ?_)
  · refine wp_return d_MD_committed_156 rfl ?_
    exact e1 c1
  · refine wp_iconst (v := nI 0) d_MD_committed_48 c_iconst_0 ?_
    refine wp_istore_n (ls' := [(0, .inr 7), (1, .inl (x1)), (2, .inl (x2)), (3, .inl (nI 0))]) d_MD_committed_49 (by decide) rfl ?_
    exact e2 c1
set_option maxRecDepth 100000 in
set_option maxHeartbeats 4000000 in
theorem k_MD_committed_50 {l : Launch} {E : xE} {x1 x2 x3 : Int32} {h : xh} {Q : Option Int32 → xh → Prop}
    (o1 : (nI 4) ≤ x3 → vp_in (x2) 16)
    (o2 : (nI 4) ≤ x3 → (h 28 ((x2).toNatClampNeg)) = (nI 1) → vp_in (x2) 16)
    (o3 : (nI 4) ≤ x3 → (h 28 ((x2).toNatClampNeg)) = (nI 1) → vp_in (x2) 16)
    (e1 : (nI 4) ≤ x3 → (h 28 ((x2).toNatClampNeg)) = (nI 1) → WP l E M_MD_committed 42 [(0, .inr 7), (1, .inl (x1)), (2, .inl (x2 + nI 1))] [] (hw (hw h 30 ((x2).toNatClampNeg) (nI 1)) 28 ((x2).toNatClampNeg) (nI 0)) Q)
    (o4 : (nI 4) ≤ x3 → ¬ (h 28 ((x2).toNatClampNeg)) = (nI 1) → vp_in (x2) 16)
    (o5 : (nI 4) ≤ x3 → ¬ (h 28 ((x2).toNatClampNeg)) = (nI 1) → (h 28 ((x2).toNatClampNeg)) ≠ 0 → vp_in (x2) 16)
    (o6 : (nI 4) ≤ x3 → ¬ (h 28 ((x2).toNatClampNeg)) = (nI 1) → (h 28 ((x2).toNatClampNeg)) ≠ 0 → vp_in (x2) 16)
    (e2 : (nI 4) ≤ x3 → ¬ (h 28 ((x2).toNatClampNeg)) = (nI 1) → (h 28 ((x2).toNatClampNeg)) ≠ 0 → WP l E M_MD_committed 42 [(0, .inr 7), (1, .inl (x1)), (2, .inl (x2 + nI 1))] [] (hw (hw h 30 ((x2).toNatClampNeg) (nI 0)) 28 ((x2).toNatClampNeg) (nI 0)) Q)
    (o7 : (nI 4) ≤ x3 → ¬ (h 28 ((x2).toNatClampNeg)) = (nI 1) → (h 28 ((x2).toNatClampNeg)) = 0 → vp_in (x2) 16)
    (o8 : (nI 4) ≤ x3 → ¬ (h 28 ((x2).toNatClampNeg)) = (nI 1) → (h 28 ((x2).toNatClampNeg)) = 0 → (h 30 ((x2).toNatClampNeg)) = 0 → vp_in (x2) 16)
    (o9 : (nI 4) ≤ x3 → ¬ (h 28 ((x2).toNatClampNeg)) = (nI 1) → (h 28 ((x2).toNatClampNeg)) = 0 → (h 30 ((x2).toNatClampNeg)) = 0 → vp_in (x2) 16)
    (e3 : (nI 4) ≤ x3 → ¬ (h 28 ((x2).toNatClampNeg)) = (nI 1) → (h 28 ((x2).toNatClampNeg)) = 0 → (h 30 ((x2).toNatClampNeg)) = 0 → WP l E M_MD_committed 42 [(0, .inr 7), (1, .inl (x1)), (2, .inl (x2 + nI 1))] [] (hw (hw h 30 ((x2).toNatClampNeg) (nI 0)) 28 ((x2).toNatClampNeg) (nI 0)) Q)
    (o10 : (nI 4) ≤ x3 → ¬ (h 28 ((x2).toNatClampNeg)) = (nI 1) → (h 28 ((x2).toNatClampNeg)) = 0 → ¬ (h 30 ((x2).toNatClampNeg)) = 0 → vp_in (x2) 16)
    (o11 : (nI 4) ≤ x3 → ¬ (h 28 ((x2).toNatClampNeg)) = (nI 1) → (h 28 ((x2).toNatClampNeg)) = 0 → ¬ (h 30 ((x2).toNatClampNeg)) = 0 → vp_in (x2) 16)
    (e4 : (nI 4) ≤ x3 → ¬ (h 28 ((x2).toNatClampNeg)) = (nI 1) → (h 28 ((x2).toNatClampNeg)) = 0 → ¬ (h 30 ((x2).toNatClampNeg)) = 0 → WP l E M_MD_committed 42 [(0, .inr 7), (1, .inl (x1)), (2, .inl (x2 + nI 1))] [] (hw (hw h 30 ((x2).toNatClampNeg) (nI 1)) 28 ((x2).toNatClampNeg) (nI 0)) Q)
    (o12 : ¬ (nI 4) ≤ x3 → vp_in (x2) 16)
    (o13 : ¬ (nI 4) ≤ x3 → (h 28 ((x2).toNatClampNeg)) ≠ (nI 1) → vp_in (((nI 4) * (x2)) + (x3)) 64)
    (o14 : ¬ (nI 4) ≤ x3 → (h 28 ((x2).toNatClampNeg)) ≠ (nI 1) → vp_in (((nI 4) * (x2)) + (x3)) 64)
    (e5 : ¬ (nI 4) ≤ x3 → (h 28 ((x2).toNatClampNeg)) ≠ (nI 1) → WP l E M_MD_committed 50 [(0, .inr 7), (1, .inl (x1)), (2, .inl (x2)), (3, .inl (x3 + nI 1))] [] (hw h 31 ((((nI 4) * (x2)) + (x3)).toNatClampNeg) (h 31 ((((nI 4) * (x2)) + (x3)).toNatClampNeg))) Q)
    (o15 : ¬ (nI 4) ≤ x3 → (h 28 ((x2).toNatClampNeg)) = (nI 1) → vp_in (((nI 4) * (x2)) + (x3)) 64)
    (o16 : ¬ (nI 4) ≤ x3 → (h 28 ((x2).toNatClampNeg)) = (nI 1) → vp_in (((nI 4) * (x2)) + (x3)) 64)
    (e6 : ¬ (nI 4) ≤ x3 → (h 28 ((x2).toNatClampNeg)) = (nI 1) → WP l E M_MD_committed 50 [(0, .inr 7), (1, .inl (x1)), (2, .inl (x2)), (3, .inl (x3 + nI 1))] [] (hw h 31 ((((nI 4) * (x2)) + (x3)).toNatClampNeg) (h 29 ((((nI 4) * (x2)) + (x3)).toNatClampNeg))) Q) : WP l E M_MD_committed 50 [(0, .inr 7), (1, .inl (x1)), (2, .inl (x2)), (3, .inl (x3))] [] h Q := by
  refine wp_iload_n d_MD_committed_50 rfl ?_
  refine wp_iconst (v := nI 4) d_MD_committed_51 c_iconst_4 ?_
  refine wp_ic_ge (tgt := 104) d_MD_committed_52 (by decide) (fun c1 => ?_) (fun c1 => ?_)
  · refine wp_aload_n d_MD_committed_104 rfl ?_
    refine wp_getR d_MD_committed_105 fl_MD_33 rfl rfl ?_
    refine wp_iload_n d_MD_committed_108 rfl ?_
    refine wp_aload_n d_MD_committed_109 rfl ?_
    refine wp_getR d_MD_committed_110 fl_MD_27 rfl rfl ?_
    refine wp_iload_n d_MD_committed_113 rfl ?_
    refine wp_iaload d_MD_committed_114 rfl (o1 c1) ?_
    refine wp_iconst (v := nI 1) d_MD_committed_115 c_iconst_1 ?_
    refine wp_ic_eq (tgt := 137) d_MD_committed_116 (by decide) (fun c2 => ?_) (fun c2 => ?_)
    · refine wp_iconst (v := nI 1) d_MD_committed_137 c_iconst_1 ?_
      refine wp_goto (tgt := 142) d_MD_committed_138 (by decide) ?_
      refine wp_bastore d_MD_committed_142 rfl (o2 c1 c2) (nar01 (by decide)) ?_
      refine wp_aload_n d_MD_committed_143 rfl ?_
      refine wp_getR d_MD_committed_144 fl_MD_27 rfl rfl ?_
      refine wp_iload_n d_MD_committed_147 rfl ?_
      refine wp_iconst (v := nI 0) d_MD_committed_148 c_iconst_0 ?_
      refine wp_iastore d_MD_committed_149 rfl (o3 c1 c2) ?_
      refine wp_iinc (v := x2 + nI 1) (ls' := [(0, .inr 7), (1, .inl (x1)), (2, .inl (x2 + nI 1)), (3, .inl (x3))]) d_MD_committed_150 rfl (c_inc_1 _) (by decide) rfl ?_
      refine wp_goto (tgt := 42) d_MD_committed_153 (by decide) ?_
      refine wp_sub (ls' := [(0, .inr 7), (1, .inl (x1)), (2, .inl (x2 + nI 1))]) [0, 1, 2] rfl ?_
      exact e1 c1 c2
    · refine wp_aload_n d_MD_committed_119 rfl ?_
      refine wp_getR d_MD_committed_120 fl_MD_27 rfl rfl ?_
      refine wp_iload_n d_MD_committed_123 rfl ?_
      refine wp_iaload d_MD_committed_124 rfl (o4 c1 c2) ?_
      refine wp_if_ne (tgt := 141) d_MD_committed_125 (by decide) (fun c3 => ?_) (fun c3 => ?_)
      · refine wp_iconst (v := nI 0) d_MD_committed_141 c_iconst_0 ?_
        refine wp_bastore d_MD_committed_142 rfl (o5 c1 c2 c3) (nar01 (by decide)) ?_
        refine wp_aload_n d_MD_committed_143 rfl ?_
        refine wp_getR d_MD_committed_144 fl_MD_27 rfl rfl ?_
        refine wp_iload_n d_MD_committed_147 rfl ?_
        refine wp_iconst (v := nI 0) d_MD_committed_148 c_iconst_0 ?_
        refine wp_iastore d_MD_committed_149 rfl (o6 c1 c2 c3) ?_
        refine wp_iinc (v := x2 + nI 1) (ls' := [(0, .inr 7), (1, .inl (x1)), (2, .inl (x2 + nI 1)), (3, .inl (x3))]) d_MD_committed_150 rfl (c_inc_1 _) (by decide) rfl ?_
        refine wp_goto (tgt := 42) d_MD_committed_153 (by decide) ?_
        refine wp_sub (ls' := [(0, .inr 7), (1, .inl (x1)), (2, .inl (x2 + nI 1))]) [0, 1, 2] rfl ?_
        exact e2 c1 c2 c3
      · refine wp_aload_n d_MD_committed_128 rfl ?_
        refine wp_getR d_MD_committed_129 fl_MD_33 rfl rfl ?_
        refine wp_iload_n d_MD_committed_132 rfl ?_
        refine wp_baload d_MD_committed_133 rfl (o7 c1 c2 c3) ?_
        refine wp_if_eq (tgt := 141) d_MD_committed_134 (by decide) (fun c4 => ?_) (fun c4 => ?_)
        · refine wp_iconst (v := nI 0) d_MD_committed_141 c_iconst_0 ?_
          refine wp_bastore d_MD_committed_142 rfl (o8 c1 c2 c3 c4) (nar01 (by decide)) ?_
          refine wp_aload_n d_MD_committed_143 rfl ?_
          refine wp_getR d_MD_committed_144 fl_MD_27 rfl rfl ?_
          refine wp_iload_n d_MD_committed_147 rfl ?_
          refine wp_iconst (v := nI 0) d_MD_committed_148 c_iconst_0 ?_
          refine wp_iastore d_MD_committed_149 rfl (o9 c1 c2 c3 c4) ?_
          refine wp_iinc (v := x2 + nI 1) (ls' := [(0, .inr 7), (1, .inl (x1)), (2, .inl (x2 + nI 1)), (3, .inl (x3))]) d_MD_committed_150 rfl (c_inc_1 _) (by decide) rfl ?_
          refine wp_goto (tgt := 42) d_MD_committed_153 (by decide) ?_
          refine wp_sub (ls' := [(0, .inr 7), (1, .inl (x1)), (2, .inl (x2 + nI 1))]) [0, 1, 2] rfl ?_
          exact e3 c1 c2 c3 c4
        · refine wp_iconst (v := nI 1) d_MD_committed_137 c_iconst_1 ?_
          refine wp_goto (tgt := 142) d_MD_committed_138 (by decide) ?_
          refine wp_bastore d_MD_committed_142 rfl (o10 c1 c2 c3 c4) (nar01 (by decide)) ?_
          refine wp_aload_n d_MD_committed_143 rfl ?_
          refine wp_getR d_MD_committed_144 fl_MD_27 rfl rfl ?_
          refine wp_iload_n d_MD_committed_147 rfl ?_
          refine wp_iconst (v := nI 0) d_MD_committed_148 c_iconst_0 ?_
          refine wp_iastore d_MD_committed_149 rfl (o11 c1 c2 c3 c4) ?_
          refine wp_iinc (v := x2 + nI 1) (ls' := [(0, .inr 7), (1, .inl (x1)), (2, .inl (x2 + nI 1)), (3, .inl (x3))]) d_MD_committed_150 rfl (c_inc_1 _) (by decide) rfl ?_
          refine wp_goto (tgt := 42) d_MD_committed_153 (by decide) ?_
          refine wp_sub (ls' := [(0, .inr 7), (1, .inl (x1)), (2, .inl (x2 + nI 1))]) [0, 1, 2] rfl ?_
          exact e4 c1 c2 c3 c4
  · refine wp_aload_n d_MD_committed_55 rfl ?_
    refine wp_getR d_MD_committed_56 fl_MD_37 rfl rfl ?_
    refine wp_iconst (v := nI 4) d_MD_committed_59 c_iconst_4 ?_
    refine wp_iload_n d_MD_committed_60 rfl ?_
    refine wp_imul d_MD_committed_61 ?_
    refine wp_iload_n d_MD_committed_62 rfl ?_
    refine wp_iadd d_MD_committed_63 ?_
    refine wp_aload_n d_MD_committed_64 rfl ?_
    refine wp_getR d_MD_committed_65 fl_MD_27 rfl rfl ?_
    refine wp_iload_n d_MD_committed_68 rfl ?_
    refine wp_iaload d_MD_committed_69 rfl (o12 c1) ?_
    refine wp_iconst (v := nI 1) d_MD_committed_70 c_iconst_1 ?_
    refine wp_ic_ne (tgt := 87) d_MD_committed_71 (by decide) (fun c5 => ?_) (fun c5 => ?_)
    · refine wp_aload_n d_MD_committed_87 rfl ?_
      refine wp_getR d_MD_committed_88 fl_MD_37 rfl rfl ?_
      refine wp_iconst (v := nI 4) d_MD_committed_91 c_iconst_4 ?_
      refine wp_iload_n d_MD_committed_92 rfl ?_
      refine wp_imul d_MD_committed_93 ?_
      refine wp_iload_n d_MD_committed_94 rfl ?_
      refine wp_iadd d_MD_committed_95 ?_
      refine wp_iaload d_MD_committed_96 rfl (o13 c1 c5) ?_
      refine wp_iastore d_MD_committed_97 rfl (o14 c1 c5) ?_
      refine wp_iinc (v := x3 + nI 1) (ls' := [(0, .inr 7), (1, .inl (x1)), (2, .inl (x2)), (3, .inl (x3 + nI 1))]) d_MD_committed_98 rfl (c_inc_1 _) (by decide) rfl ?_
      refine wp_goto (tgt := 50) d_MD_committed_101 (by decide) ?_
      exact e5 c1 c5
    · refine wp_aload_n d_MD_committed_74 rfl ?_
      refine wp_getR d_MD_committed_75 fl_MD_30 rfl rfl ?_
      refine wp_iconst (v := nI 4) d_MD_committed_78 c_iconst_4 ?_
      refine wp_iload_n d_MD_committed_79 rfl ?_
      refine wp_imul d_MD_committed_80 ?_
      refine wp_iload_n d_MD_committed_81 rfl ?_
      refine wp_iadd d_MD_committed_82 ?_
      refine wp_iaload d_MD_committed_83 rfl (o15 c1 c5) ?_
      refine wp_goto (tgt := 97) d_MD_committed_84 (by decide) ?_
      refine wp_iastore d_MD_committed_97 rfl (o16 c1 c5) ?_
      refine wp_iinc (v := x3 + nI 1) (ls' := [(0, .inr 7), (1, .inl (x1)), (2, .inl (x2)), (3, .inl (x3 + nI 1))]) d_MD_committed_98 rfl (c_inc_1 _) (by decide) rfl ?_
      refine wp_goto (tgt := 50) d_MD_committed_101 (by decide) ?_
      exact e6 c1 c5
