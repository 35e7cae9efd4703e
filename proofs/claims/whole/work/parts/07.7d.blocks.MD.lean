set_option maxRecDepth 100000 in
set_option maxHeartbeats 4000000 in
theorem k_MD_findHead_0 {l : Launch} {E : xE} {h : xh} {Q : Option Int32 → xh → Prop}
    (e1 : MC l E M_MD_read [.inr 7, .inl (nI 16), .inl (nI 0)] h (fun r h' => WP l E M_MD_findHead 7 [(0, .inr 7)] (rpush r []) h' Q)) : MC l E M_MD_findHead [.inr 7] h Q := by
  refine wp_aload_n d_MD_findHead_0 rfl ?_
  refine wp_bipush (v := nI 16) d_MD_findHead_1 c_bipush_16 ?_
  refine wp_iconst (v := nI 0) d_MD_findHead_3 c_iconst_0 ?_
  refine wp_callV (as := [.inl (nI 16), .inl (nI 0)]) (rest := []) (Q' := fun r h' => WP l E M_MD_findHead 7 [(0, .inr 7)] (rpush r []) h' Q) d_MD_findHead_4 vb_MD_findHead_65 ⟨gw_3_101, gw_3_102⟩ rfl rfl rfl rfl (Nat.le_of_ble_eq_true rfl) rfl (Nat.le_of_ble_eq_true rfl) ?_ (fun r h' z => z)
  exact e1
set_option maxRecDepth 100000 in
set_option maxHeartbeats 4000000 in
theorem k_MD_findHead_7 {l : Launch} {E : xE} {v0 : Int32} {h : xh} {Q : Option Int32 → xh → Prop}
    (e1 : v0 ≠ (nI 77001) → Q none (hw (hw h 7 17 (nI 0)) 7 18 (nI 1)))
    (e2 : v0 = (nI 77001) → MC l E M_MD_read [.inr 7, .inl (nI 16), .inl (nI 2)] h (fun r h' => WP l E M_MD_findHead 19 [(0, .inr 7)] (rpush r []) h' Q)) : WP l E M_MD_findHead 7 [(0, .inr 7)] [.inl (v0)] h Q := by
  refine wp_ldcN d_MD_findHead_7 gw_3_29 c_lit_77001 ?_
  refine wp_ic_ne (tgt := 38) d_MD_findHead_9 (by decide) (fun c1 => ?_) (fun c1 => ?_)
  · refine wp_iconst (v := nI 0) d_MD_findHead_38 c_iconst_0 ?_
    refine wp_istore_n (ls' := [(0, .inr 7), (1, .inl (nI 0))]) d_MD_findHead_39 (by decide) rfl ?_
    refine wp_aload_n d_MD_findHead_40 rfl ?_
    refine wp_iload_n d_MD_findHead_41 rfl ?_
    refine wp_if_eq (tgt := 55) d_MD_findHead_42 (by decide) (fun _ => ?_) (fun z => absurd z (by decide +kernel))
    refine wp_iconst (v := nI 0) d_MD_findHead_55 c_iconst_0 ?_
    refine wp_putI d_MD_findHead_56 fm_MD_134 rfl rfl ?_
    refine wp_aload_n d_MD_findHead_59 rfl ?_
    refine wp_iload_n d_MD_findHead_60 rfl ?_
    refine wp_if_eq (tgt := 74) d_MD_findHead_61 (by decide) (fun _ => ?_) (fun z => absurd z (by decide +kernel))
    refine wp_iconst (v := nI 1) d_MD_findHead_74 c_iconst_1 ?_
    refine wp_putI d_MD_findHead_75 fm_MD_143 rfl rfl ?_
    refine wp_return d_MD_findHead_78 rfl ?_
    exact e1 c1
  · refine wp_aload_n d_MD_findHead_12 rfl ?_
    refine wp_bipush (v := nI 16) d_MD_findHead_13 c_bipush_16 ?_
    refine wp_iconst (v := nI 2) d_MD_findHead_15 c_iconst_2 ?_
    refine wp_callV (as := [.inl (nI 16), .inl (nI 2)]) (rest := []) (Q' := fun r h' => WP l E M_MD_findHead 19 [(0, .inr 7)] (rpush r []) h' Q) d_MD_findHead_16 vb_MD_findHead_65 ⟨gw_3_101, gw_3_102⟩ rfl rfl rfl rfl (Nat.le_of_ble_eq_true rfl) rfl (Nat.le_of_ble_eq_true rfl) ?_ (fun r h' z => z)
    exact e2 c1
set_option maxRecDepth 100000 in
set_option maxHeartbeats 4000000 in
theorem k_MD_findHead_19 {l : Launch} {E : xE} {v0 : Int32} {h : xh} {Q : Option Int32 → xh → Prop}
    (e1 : v0 < 0 → Q none (hw (hw h 7 17 (nI 0)) 7 18 (nI 1)))
    (e2 : ¬ v0 < 0 → MC l E M_MD_read [.inr 7, .inl (nI 16), .inl (nI 2)] h (fun r h' => WP l E M_MD_findHead 29 [(0, .inr 7)] (rpush r []) h' Q)) : WP l E M_MD_findHead 19 [(0, .inr 7)] [.inl (v0)] h Q := by
  refine wp_if_lt (tgt := 38) d_MD_findHead_19 (by decide) (fun c1 => ?_) (fun c1 => ?_)
  · refine wp_iconst (v := nI 0) d_MD_findHead_38 c_iconst_0 ?_
    refine wp_istore_n (ls' := [(0, .inr 7), (1, .inl (nI 0))]) d_MD_findHead_39 (by decide) rfl ?_
    refine wp_aload_n d_MD_findHead_40 rfl ?_
    refine wp_iload_n d_MD_findHead_41 rfl ?_
    refine wp_if_eq (tgt := 55) d_MD_findHead_42 (by decide) (fun _ => ?_) (fun z => absurd z (by decide +kernel))
    refine wp_iconst (v := nI 0) d_MD_findHead_55 c_iconst_0 ?_
    refine wp_putI d_MD_findHead_56 fm_MD_134 rfl rfl ?_
    refine wp_aload_n d_MD_findHead_59 rfl ?_
    refine wp_iload_n d_MD_findHead_60 rfl ?_
    refine wp_if_eq (tgt := 74) d_MD_findHead_61 (by decide) (fun _ => ?_) (fun z => absurd z (by decide +kernel))
    refine wp_iconst (v := nI 1) d_MD_findHead_74 c_iconst_1 ?_
    refine wp_putI d_MD_findHead_75 fm_MD_143 rfl rfl ?_
    refine wp_return d_MD_findHead_78 rfl ?_
    exact e1 c1
  · refine wp_aload_n d_MD_findHead_22 rfl ?_
    refine wp_bipush (v := nI 16) d_MD_findHead_23 c_bipush_16 ?_
    refine wp_iconst (v := nI 2) d_MD_findHead_25 c_iconst_2 ?_
    refine wp_callV (as := [.inl (nI 16), .inl (nI 2)]) (rest := []) (Q' := fun r h' => WP l E M_MD_findHead 29 [(0, .inr 7)] (rpush r []) h' Q) d_MD_findHead_26 vb_MD_findHead_65 ⟨gw_3_101, gw_3_102⟩ rfl rfl rfl rfl (Nat.le_of_ble_eq_true rfl) rfl (Nat.le_of_ble_eq_true rfl) ?_ (fun r h' z => z)
    exact e2 c1
set_option maxRecDepth 100000 in
set_option maxHeartbeats 4000000 in
theorem k_MD_findHead_29 {l : Launch} {E : xE} {v0 : Int32} {h : xh} {Q : Option Int32 → xh → Prop}
    (e1 : (nI 23) < v0 → Q none (hw (hw h 7 17 (nI 0)) 7 18 (nI 1)))
    (e2 : ¬ (nI 23) < v0 → MC l E M_MD_read [.inr 7, .inl (nI 16), .inl (nI 2)] h (fun r h' => WP l E M_MD_findHead 52 [(0, .inr 7), (1, .inl (nI 1))] (rpush r [.inr 7]) h' Q)) : WP l E M_MD_findHead 29 [(0, .inr 7)] [.inl (v0)] h Q := by
  refine wp_bipush (v := nI 23) d_MD_findHead_29 c_bipush_23 ?_
  refine wp_ic_gt (tgt := 38) d_MD_findHead_31 (by decide) (fun c1 => ?_) (fun c1 => ?_)
  · refine wp_iconst (v := nI 0) d_MD_findHead_38 c_iconst_0 ?_
    refine wp_istore_n (ls' := [(0, .inr 7), (1, .inl (nI 0))]) d_MD_findHead_39 (by decide) rfl ?_
    refine wp_aload_n d_MD_findHead_40 rfl ?_
    refine wp_iload_n d_MD_findHead_41 rfl ?_
    refine wp_if_eq (tgt := 55) d_MD_findHead_42 (by decide) (fun _ => ?_) (fun z => absurd z (by decide +kernel))
    refine wp_iconst (v := nI 0) d_MD_findHead_55 c_iconst_0 ?_
    refine wp_putI d_MD_findHead_56 fm_MD_134 rfl rfl ?_
    refine wp_aload_n d_MD_findHead_59 rfl ?_
    refine wp_iload_n d_MD_findHead_60 rfl ?_
    refine wp_if_eq (tgt := 74) d_MD_findHead_61 (by decide) (fun _ => ?_) (fun z => absurd z (by decide +kernel))
    refine wp_iconst (v := nI 1) d_MD_findHead_74 c_iconst_1 ?_
    refine wp_putI d_MD_findHead_75 fm_MD_143 rfl rfl ?_
    refine wp_return d_MD_findHead_78 rfl ?_
    exact e1 c1
  · refine wp_iconst (v := nI 1) d_MD_findHead_34 c_iconst_1 ?_
    refine wp_goto (tgt := 39) d_MD_findHead_35 (by decide) ?_
    refine wp_istore_n (ls' := [(0, .inr 7), (1, .inl (nI 1))]) d_MD_findHead_39 (by decide) rfl ?_
    refine wp_aload_n d_MD_findHead_40 rfl ?_
    refine wp_iload_n d_MD_findHead_41 rfl ?_
    refine wp_if_eq (tgt := 55) d_MD_findHead_42 (by decide) (fun z => absurd z (by decide +kernel)) (fun _ => ?_)
    refine wp_aload_n d_MD_findHead_45 rfl ?_
    refine wp_bipush (v := nI 16) d_MD_findHead_46 c_bipush_16 ?_
    refine wp_iconst (v := nI 2) d_MD_findHead_48 c_iconst_2 ?_
    refine wp_callV (as := [.inl (nI 16), .inl (nI 2)]) (rest := [.inr 7]) (Q' := fun r h' => WP l E M_MD_findHead 52 [(0, .inr 7), (1, .inl (nI 1))] (rpush r [.inr 7]) h' Q) d_MD_findHead_49 vb_MD_findHead_65 ⟨gw_3_101, gw_3_102⟩ rfl rfl rfl rfl (Nat.le_of_ble_eq_true rfl) rfl (Nat.le_of_ble_eq_true rfl) ?_ (fun r h' z => z)
    exact e2 c1
set_option maxRecDepth 100000 in
set_option maxHeartbeats 4000000 in
theorem k_MD_findHead_52 {l : Launch} {E : xE} {v0 x1 : Int32} {h : xh} {Q : Option Int32 → xh → Prop}
    (e1 : x1 = 0 → Q none (hw (hw h 7 17 (v0)) 7 18 (nI 1)))
    (e2 : ¬ x1 = 0 → MC l E M_MD_read [.inr 7, .inl (nI 16), .inl (nI 1)] (hw h 7 17 (v0)) (fun r h' => WP l E M_MD_findHead 71 [(0, .inr 7), (1, .inl (x1))] (rpush r [.inr 7]) h' Q)) : WP l E M_MD_findHead 52 [(0, .inr 7), (1, .inl (x1))] [.inl (v0), .inr 7] h Q := by
  refine wp_goto (tgt := 56) d_MD_findHead_52 (by decide) ?_
  refine wp_putI d_MD_findHead_56 fm_MD_134 rfl rfl ?_
  refine wp_aload_n d_MD_findHead_59 rfl ?_
  refine wp_iload_n d_MD_findHead_60 rfl ?_
  refine wp_if_eq (tgt := 74) d_MD_findHead_61 (by decide) (fun c1 => ?_) (fun c1 => ?_)
  · refine wp_iconst (v := nI 1) d_MD_findHead_74 c_iconst_1 ?_
    refine wp_putI d_MD_findHead_75 fm_MD_143 rfl rfl ?_
    refine wp_return d_MD_findHead_78 rfl ?_
    exact e1 c1
  · refine wp_aload_n d_MD_findHead_64 rfl ?_
    refine wp_bipush (v := nI 16) d_MD_findHead_65 c_bipush_16 ?_
    refine wp_iconst (v := nI 1) d_MD_findHead_67 c_iconst_1 ?_
    refine wp_callV (as := [.inl (nI 16), .inl (nI 1)]) (rest := [.inr 7]) (Q' := fun r h' => WP l E M_MD_findHead 71 [(0, .inr 7), (1, .inl (x1))] (rpush r [.inr 7]) h' Q) d_MD_findHead_68 vb_MD_findHead_65 ⟨gw_3_101, gw_3_102⟩ rfl rfl rfl rfl (Nat.le_of_ble_eq_true rfl) rfl (Nat.le_of_ble_eq_true rfl) ?_ (fun r h' z => z)
    exact e2 c1
set_option maxRecDepth 100000 in
set_option maxHeartbeats 4000000 in
theorem k_MD_findHead_71 {l : Launch} {E : xE} {v0 x1 : Int32} {h : xh} {Q : Option Int32 → xh → Prop}
    (e1 : Q none (hw h 7 18 (v0))) : WP l E M_MD_findHead 71 [(0, .inr 7), (1, .inl (x1))] [.inl (v0), .inr 7] h Q := by
  refine wp_goto (tgt := 75) d_MD_findHead_71 (by decide) ?_
  refine wp_putI d_MD_findHead_75 fm_MD_143 rfl rfl ?_
  refine wp_return d_MD_findHead_78 rfl ?_
  exact e1
set_option maxRecDepth 100000 in
set_option maxHeartbeats 4000000 in
theorem k_MD_findRevocations_0 {l : Launch} {E : xE} {h : xh} {Q : Option Int32 → xh → Prop}
    (e1 : MC l E M_MD_findHead [.inr 7] h (fun r h' => WP l E M_MD_findRevocations 4 [(0, .inr 7)] (rpush r []) h' Q)) : MC l E M_MD_findRevocations [.inr 7] h Q := by
  refine wp_aload_n d_MD_findRevocations_0 rfl ?_
  refine wp_callV (as := []) (rest := []) (Q' := fun r h' => WP l E M_MD_findRevocations 4 [(0, .inr 7)] (rpush r []) h' Q) d_MD_findRevocations_1 vb_MD_findRevocations_146 ⟨gw_3_182, sw_28⟩ rfl rfl rfl rfl (Nat.le_of_ble_eq_true rfl) rfl (Nat.le_of_ble_eq_true rfl) ?_ (fun r h' z => z)
  exact e1
set_option maxRecDepth 100000 in
set_option maxHeartbeats 4000000 in
theorem k_MD_findRevocations_4 {l : Launch} {E : xE} {h : xh} {Q : Option Int32 → xh → Prop}
    (e1 : WP l E M_MD_findRevocations 6 [(0, .inr 7), (1, .inl (nI 0))] [] h Q) : WP l E M_MD_findRevocations 4 [(0, .inr 7)] [] h Q := by
  refine wp_iconst (v := nI 0) d_MD_findRevocations_4 c_iconst_0 ?_
  refine wp_istore_n (ls' := [(0, .inr 7), (1, .inl (nI 0))]) d_MD_findRevocations_5 (by decide) rfl ?_
  exact e1
set_option maxRecDepth 100000 in
set_option maxHeartbeats 4000000 in
theorem k_MD_findRevocations_6 {l : Launch} {E : xE} {x1 : Int32} {h : xh} {Q : Option Int32 → xh → Prop}
    (e1 : (nI 16) ≤ x1 → MC l E M_MD_validAt [.inr 7, .inl (nI 0), .inl (h 7 18)] (hw (hw h 7 20 (nI 0)) 7 19 (h 7 18)) (fun r h' => WP l E M_MD_findRevocations 47 [(0, .inr 7), (1, .inl (x1))] (rpush r []) h' Q))
    (o1 : ¬ (nI 16) ≤ x1 → vp_in (x1) 16)
    (e2 : ¬ (nI 16) ≤ x1 → WP l E M_MD_findRevocations 6 [(0, .inr 7), (1, .inl (x1 + nI 1))] [] (hw h 34 ((x1).toNatClampNeg) (nI 0)) Q) : WP l E M_MD_findRevocations 6 [(0, .inr 7), (1, .inl (x1))] [] h Q := by
  refine wp_iload_n d_MD_findRevocations_6 rfl ?_
  refine wp_bipush (v := nI 16) d_MD_findRevocations_7 c_bipush_16 ?_
  refine wp_ic_ge (tgt := 25) d_MD_findRevocations_9 (by decide) (fun c1 => ?_) (fun c1 => ?_)
  · refine wp_aload_n d_MD_findRevocations_25 rfl ?_
    refine wp_iconst (v := nI 0) d_MD_findRevocations_26 c_iconst_0 ?_
    refine wp_putI d_MD_findRevocations_27 fm_MD_149 rfl rfl ?_
    refine wp_aload_n d_MD_findRevocations_30 rfl ?_
    refine wp_aload_n d_MD_findRevocations_31 rfl ?_
    refine wp_getI d_MD_findRevocations_32 fl_MD_143 rfl rfl ?_
    show WP l E M_MD_findRevocations 35 [(0, .inr 7), (1, .inl (x1))] [.inl (h 7 18), .inr 7] (hw h 7 20 (nI 0)) _
    refine wp_putI d_MD_findRevocations_35 fm_MD_152 rfl rfl ?_
    refine wp_aload_n d_MD_findRevocations_38 rfl ?_
    refine wp_iconst (v := nI 0) d_MD_findRevocations_39 c_iconst_0 ?_
    refine wp_aload_n d_MD_findRevocations_40 rfl ?_
    refine wp_getI d_MD_findRevocations_41 fl_MD_152 rfl rfl ?_
    show WP l E M_MD_findRevocations 44 [(0, .inr 7), (1, .inl (x1))] [.inl (h 7 18), .inl (nI 0), .inr 7] (hw (hw h 7 20 (nI 0)) 7 19 (h 7 18)) _
    refine wp_callV (as := [.inl (nI 0), .inl (h 7 18)]) (rest := []) (Q' := fun r h' => WP l E M_MD_findRevocations 47 [(0, .inr 7), (1, .inl (x1))] (rpush r []) h' Q) d_MD_findRevocations_44 vb_MD_findRevocations_155 ⟨gw_3_186, sw_29⟩ rfl rfl rfl rfl (Nat.le_of_ble_eq_true rfl) rfl (Nat.le_of_ble_eq_true rfl) ?_ (fun r h' z => z)
    exact e1 c1
  · refine wp_aload_n d_MD_findRevocations_12 rfl ?_
    refine wp_getR d_MD_findRevocations_13 fl_MD_46 rfl rfl ?_
    refine wp_iload_n d_MD_findRevocations_16 rfl ?_
    refine wp_iconst (v := nI 0) d_MD_findRevocations_17 c_iconst_0 ?_
    refine wp_bastore d_MD_findRevocations_18 rfl (o1 c1) (nar01 (by decide)) ?_
    refine wp_iinc (v := x1 + nI 1) (ls' := [(0, .inr 7), (1, .inl (x1 + nI 1))]) d_MD_findRevocations_19 rfl (c_inc_1 _) (by decide) rfl ?_
    refine wp_goto (tgt := 6) d_MD_findRevocations_22 (by decide) ?_
    exact e2 c1
set_option maxRecDepth 100000 in
set_option maxHeartbeats 4000000 in
theorem k_MD_findRevocations_47 {l : Launch} {E : xE} {v0 x1 : Int32} {h : xh} {Q : Option Int32 → xh → Prop}
    (e1 : WP l E M_MD_findRevocations 48 [(0, .inr 7), (1, .inl (v0))] [] h Q) : WP l E M_MD_findRevocations 47 [(0, .inr 7), (1, .inl (x1))] [.inl (v0)] h Q := by
  refine wp_istore_n (ls' := [(0, .inr 7), (1, .inl (v0))]) d_MD_findRevocations_47 (by decide) rfl ?_
  exact e1
set_option maxRecDepth 100000 in
set_option maxHeartbeats 4000000 in
theorem k_MD_findRevocations_48 {l : Launch} {E : xE} {x1 : Int32} {h : xh} {Q : Option Int32 → xh → Prop}
    (e1 : x1 ≤ 0 → Q none h)
    (e2 : ¬ x1 ≤ 0 → x1 ≤ (nI 1) → WP l E M_MD_findRevocations 121 [(0, .inr 7), (1, .inl (x1)), (2, .inl (((h 7 20) + (x1)) - (nI 2))), (3, .inl (nI 0)), (4, .inl (nI 0))] [] h Q)
    (e3 : ¬ x1 ≤ 0 → ¬ x1 ≤ (nI 1) → MC l E M_MD_logWord [.inr 7, .inl (((h 7 20) + (x1)) - (nI 2)), .inl (nI 0)] h (fun r h' => WP l E M_MD_findRevocations 72 [(0, .inr 7), (1, .inl (x1)), (2, .inl (((h 7 20) + (x1)) - (nI 2)))] (rpush r []) h' Q)) : WP l E M_MD_findRevocations 48 [(0, .inr 7), (1, .inl (x1))] [] h Q := by
  refine wp_iload_n d_MD_findRevocations_48 rfl ?_
  refine wp_if_le (tgt := 208) d_MD_findRevocations_49 (by decide) (fun c1 => ?_) (fun c1 => ?_)
  · refine wp_return d_MD_findRevocations_208 rfl ?_
    exact e1 c1
  · refine wp_aload_n d_MD_findRevocations_52 rfl ?_
    refine wp_getI d_MD_findRevocations_53 fl_MD_149 rfl rfl ?_
    refine wp_iload_n d_MD_findRevocations_56 rfl ?_
    refine wp_iadd d_MD_findRevocations_57 ?_
    refine wp_iconst (v := nI 2) d_MD_findRevocations_58 c_iconst_2 ?_
    refine wp_isub d_MD_findRevocations_59 ?_
    refine wp_istore_n (ls' := [(0, .inr 7), (1, .inl (x1)), (2, .inl (((h 7 20) + (x1)) - (nI 2)))]) d_MD_findRevocations_60 (by decide) rfl ?_
    refine wp_iload_n d_MD_findRevocations_61 rfl ?_
    refine wp_iconst (v := nI 1) d_MD_findRevocations_62 c_iconst_1 ?_
    refine wp_ic_le (tgt := 116) d_MD_findRevocations_63 (by decide) (fun c2 => ?_) (fun c2 => ?_)
    · refine wp_iconst (v := nI 0) d_MD_findRevocations_116 c_iconst_0 ?_
      refine wp_istore_n (ls' := [(0, .inr 7), (1, .inl (x1)), (2, .inl (((h 7 20) + (x1)) - (nI 2))), (3, .inl (nI 0))]) d_MD_findRevocations_117 (by decide) rfl ?_
      refine wp_iconst (v := nI 0) d_MD_findRevocations_118 c_iconst_0 ?_
      refine wp_istore (ls' := [(0, .inr 7), (1, .inl (x1)), (2, .inl (((h 7 20) + (x1)) - (nI 2))), (3, .inl (nI 0)), (4, .inl (nI 0))]) d_MD_findRevocations_119 (by decide) rfl ?_
      exact e2 c1 c2
    · refine wp_aload_n d_MD_findRevocations_66 rfl ?_
      refine wp_iload_n d_MD_findRevocations_67 rfl ?_
      refine wp_iconst (v := nI 0) d_MD_findRevocations_68 c_iconst_0 ?_
      refine wp_callV (as := [.inl (((h 7 20) + (x1)) - (nI 2)), .inl (nI 0)]) (rest := []) (Q' := fun r h' => WP l E M_MD_findRevocations 72 [(0, .inr 7), (1, .inl (x1)), (2, .inl (((h 7 20) + (x1)) - (nI 2)))] (rpush r []) h' Q) d_MD_findRevocations_69 vb_MD_findRevocations_137 ⟨gw_3_190, sw_30⟩ rfl rfl rfl rfl (Nat.le_of_ble_eq_true rfl) rfl (Nat.le_of_ble_eq_true rfl) ?_ (fun r h' z => z)
      exact e3 c1 c2
set_option maxRecDepth 100000 in
set_option maxHeartbeats 4000000 in
theorem k_MD_findRevocations_121 {l : Launch} {E : xE} {x1 x2 x3 x4 : Int32} {h : xh} {Q : Option Int32 → xh → Prop}
    (e1 : (nI 16) ≤ x4 → MC l E M_MD_validAt [.inr 7, .inl ((h 7 20) + (x1)), .inl ((h 7 19) + (nI 1))] (hw (hw h 7 20 ((h 7 20) + (x1))) 7 19 ((h 7 19) + (nI 1))) (fun r h' => WP l E M_MD_findRevocations 204 [(0, .inr 7), (1, .inl (x1)), (2, .inl (x2)), (3, .inl (x3)), (4, .inl (x4))] (rpush r []) h' Q))
    (e2 : ¬ (nI 16) ≤ x4 → x3 = 0 → MC l E M_MD_validAt [.inr 7, .inl ((h 7 20) + (x1)), .inl ((h 7 19) + (nI 1))] (hw (hw h 7 20 ((h 7 20) + (x1))) 7 19 ((h 7 19) + (nI 1))) (fun r h' => WP l E M_MD_findRevocations 204 [(0, .inr 7), (1, .inl (x1)), (2, .inl (x2)), (3, .inl (x3)), (4, .inl (x4))] (rpush r []) h' Q))
    (e3 : ¬ (nI 16) ≤ x4 → ¬ x3 = 0 → MC l E M_MD_logWord [.inr 7, .inl (x2), .inl (nI 3)] h (fun r h' => WP l E M_MD_findRevocations 138 [(0, .inr 7), (1, .inl (x1)), (2, .inl (x2)), (3, .inl (x3)), (4, .inl (x4))] (rpush r []) h' Q)) : WP l E M_MD_findRevocations 121 [(0, .inr 7), (1, .inl (x1)), (2, .inl (x2)), (3, .inl (x3)), (4, .inl (x4))] [] h Q := by
  refine wp_iload d_MD_findRevocations_121 rfl ?_
  refine wp_bipush (v := nI 16) d_MD_findRevocations_123 c_bipush_16 ?_
  refine wp_ic_ge (tgt := 172) d_MD_findRevocations_125 (by decide) (fun c1 => ?_) (fun c1 => ?_)
  · refine wp_aload_n d_MD_findRevocations_172 rfl ?_
    refine wp_aload_n d_MD_findRevocations_173 rfl ?_
    refine wp_getI d_MD_findRevocations_174 fl_MD_149 rfl rfl ?_
    refine wp_iload_n d_MD_findRevocations_177 rfl ?_
    refine wp_iadd d_MD_findRevocations_178 ?_
    refine wp_putI d_MD_findRevocations_179 fm_MD_149 rfl rfl ?_
    refine wp_aload_n d_MD_findRevocations_182 rfl ?_
    refine wp_aload_n d_MD_findRevocations_183 rfl ?_
    refine wp_getI d_MD_findRevocations_184 fl_MD_152 rfl rfl ?_
    show WP l E M_MD_findRevocations 187 [(0, .inr 7), (1, .inl (x1)), (2, .inl (x2)), (3, .inl (x3)), (4, .inl (x4))] [.inl (h 7 19), .inr 7] (hw h 7 20 ((h 7 20) + (x1))) _
    refine wp_iconst (v := nI 1) d_MD_findRevocations_187 c_iconst_1 ?_
    refine wp_iadd d_MD_findRevocations_188 ?_
    refine wp_putI d_MD_findRevocations_189 fm_MD_152 rfl rfl ?_
    refine wp_aload_n d_MD_findRevocations_192 rfl ?_
    refine wp_aload_n d_MD_findRevocations_193 rfl ?_
    refine wp_getI d_MD_findRevocations_194 fl_MD_149 rfl rfl ?_
    show WP l E M_MD_findRevocations 197 [(0, .inr 7), (1, .inl (x1)), (2, .inl (x2)), (3, .inl (x3)), (4, .inl (x4))] [.inl ((h 7 20) + (x1)), .inr 7] (hw (hw h 7 20 ((h 7 20) + (x1))) 7 19 ((h 7 19) + (nI 1))) _
    refine wp_aload_n d_MD_findRevocations_197 rfl ?_
    refine wp_getI d_MD_findRevocations_198 fl_MD_152 rfl rfl ?_
    show WP l E M_MD_findRevocations 201 [(0, .inr 7), (1, .inl (x1)), (2, .inl (x2)), (3, .inl (x3)), (4, .inl (x4))] [.inl ((h 7 19) + (nI 1)), .inl ((h 7 20) + (x1)), .inr 7] (hw (hw h 7 20 ((h 7 20) + (x1))) 7 19 ((h 7 19) + (nI 1))) _
    refine wp_callV (as := [.inl ((h 7 20) + (x1)), .inl ((h 7 19) + (nI 1))]) (rest := []) (Q' := fun r h' => WP l E M_MD_findRevocations 204 [(0, .inr 7), (1, .inl (x1)), (2, .inl (x2)), (3, .inl (x3)), (4, .inl (x4))] (rpush r []) h' Q) d_MD_findRevocations_201 vb_MD_findRevocations_155 ⟨gw_3_186, sw_29⟩ rfl rfl rfl rfl (Nat.le_of_ble_eq_true rfl) rfl (Nat.le_of_ble_eq_true rfl) ?_ (fun r h' z => z)
    exact e1 c1
  · refine wp_iload_n d_MD_findRevocations_128 rfl ?_
    refine wp_if_eq (tgt := 172) d_MD_findRevocations_129 (by decide) (fun c2 => ?_) (fun c2 => ?_)
    · refine wp_aload_n d_MD_findRevocations_172 rfl ?_
      refine wp_aload_n d_MD_findRevocations_173 rfl ?_
      refine wp_getI d_MD_findRevocations_174 fl_MD_149 rfl rfl ?_
      refine wp_iload_n d_MD_findRevocations_177 rfl ?_
      refine wp_iadd d_MD_findRevocations_178 ?_
      refine wp_putI d_MD_findRevocations_179 fm_MD_149 rfl rfl ?_
      refine wp_aload_n d_MD_findRevocations_182 rfl ?_
      refine wp_aload_n d_MD_findRevocations_183 rfl ?_
      refine wp_getI d_MD_findRevocations_184 fl_MD_152 rfl rfl ?_
      show WP l E M_MD_findRevocations 187 [(0, .inr 7), (1, .inl (x1)), (2, .inl (x2)), (3, .inl (x3)), (4, .inl (x4))] [.inl (h 7 19), .inr 7] (hw h 7 20 ((h 7 20) + (x1))) _
      refine wp_iconst (v := nI 1) d_MD_findRevocations_187 c_iconst_1 ?_
      refine wp_iadd d_MD_findRevocations_188 ?_
      refine wp_putI d_MD_findRevocations_189 fm_MD_152 rfl rfl ?_
      refine wp_aload_n d_MD_findRevocations_192 rfl ?_
      refine wp_aload_n d_MD_findRevocations_193 rfl ?_
      refine wp_getI d_MD_findRevocations_194 fl_MD_149 rfl rfl ?_
      show WP l E M_MD_findRevocations 197 [(0, .inr 7), (1, .inl (x1)), (2, .inl (x2)), (3, .inl (x3)), (4, .inl (x4))] [.inl ((h 7 20) + (x1)), .inr 7] (hw (hw h 7 20 ((h 7 20) + (x1))) 7 19 ((h 7 19) + (nI 1))) _
      refine wp_aload_n d_MD_findRevocations_197 rfl ?_
      refine wp_getI d_MD_findRevocations_198 fl_MD_152 rfl rfl ?_
      show WP l E M_MD_findRevocations 201 [(0, .inr 7), (1, .inl (x1)), (2, .inl (x2)), (3, .inl (x3)), (4, .inl (x4))] [.inl ((h 7 19) + (nI 1)), .inl ((h 7 20) + (x1)), .inr 7] (hw (hw h 7 20 ((h 7 20) + (x1))) 7 19 ((h 7 19) + (nI 1))) _
      refine wp_callV (as := [.inl ((h 7 20) + (x1)), .inl ((h 7 19) + (nI 1))]) (rest := []) (Q' := fun r h' => WP l E M_MD_findRevocations 204 [(0, .inr 7), (1, .inl (x1)), (2, .inl (x2)), (3, .inl (x3)), (4, .inl (x4))] (rpush r []) h' Q) d_MD_findRevocations_201 vb_MD_findRevocations_155 ⟨gw_3_186, sw_29⟩ rfl rfl rfl rfl (Nat.le_of_ble_eq_true rfl) rfl (Nat.le_of_ble_eq_true rfl) ?_ (fun r h' z => z)
      exact e2 c1 c2
    · refine wp_aload_n d_MD_findRevocations_132 rfl ?_
      refine wp_iload_n d_MD_findRevocations_133 rfl ?_
      refine wp_iconst (v := nI 3) d_MD_findRevocations_134 c_iconst_3 ?_
      refine wp_callV (as := [.inl (x2), .inl (nI 3)]) (rest := []) (Q' := fun r h' => WP l E M_MD_findRevocations 138 [(0, .inr 7), (1, .inl (x1)), (2, .inl (x2)), (3, .inl (x3)), (4, .inl (x4))] (rpush r []) h' Q) d_MD_findRevocations_135 vb_MD_findRevocations_137 ⟨gw_3_190, sw_30⟩ rfl rfl rfl rfl (Nat.le_of_ble_eq_true rfl) rfl (Nat.le_of_ble_eq_true rfl) ?_ (fun r h' z => z)
      exact e3 c1 c2
set_option maxRecDepth 100000 in
set_option maxHeartbeats 4000000 in
theorem k_MD_findRevocations_72 {l : Launch} {E : xE} {v0 x1 x2 : Int32} {h : xh} {Q : Option Int32 → xh → Prop}
    (e1 : v0 ≠ (nI 77001) → WP l E M_MD_findRevocations 121 [(0, .inr 7), (1, .inl (x1)), (2, .inl (x2)), (3, .inl (nI 0)), (4, .inl (nI 0))] [] h Q)
    (e2 : v0 = (nI 77001) → MC l E M_MD_logWord [.inr 7, .inl (x2), .inl (nI 1)] h (fun r h' => WP l E M_MD_findRevocations 83 [(0, .inr 7), (1, .inl (x1)), (2, .inl (x2))] (rpush r []) h' Q)) : WP l E M_MD_findRevocations 72 [(0, .inr 7), (1, .inl (x1)), (2, .inl (x2))] [.inl (v0)] h Q := by
  refine wp_ldcN d_MD_findRevocations_72 gw_3_29 c_lit_77001 ?_
  refine wp_ic_ne (tgt := 116) d_MD_findRevocations_74 (by decide) (fun c1 => ?_) (fun c1 => ?_)
  · refine wp_iconst (v := nI 0) d_MD_findRevocations_116 c_iconst_0 ?_
    refine wp_istore_n (ls' := [(0, .inr 7), (1, .inl (x1)), (2, .inl (x2)), (3, .inl (nI 0))]) d_MD_findRevocations_117 (by decide) rfl ?_
    refine wp_iconst (v := nI 0) d_MD_findRevocations_118 c_iconst_0 ?_
    refine wp_istore (ls' := [(0, .inr 7), (1, .inl (x1)), (2, .inl (x2)), (3, .inl (nI 0)), (4, .inl (nI 0))]) d_MD_findRevocations_119 (by decide) rfl ?_
    exact e1 c1
  · refine wp_aload_n d_MD_findRevocations_77 rfl ?_
    refine wp_iload_n d_MD_findRevocations_78 rfl ?_
    refine wp_iconst (v := nI 1) d_MD_findRevocations_79 c_iconst_1 ?_
    refine wp_callV (as := [.inl (x2), .inl (nI 1)]) (rest := []) (Q' := fun r h' => WP l E M_MD_findRevocations 83 [(0, .inr 7), (1, .inl (x1)), (2, .inl (x2))] (rpush r []) h' Q) d_MD_findRevocations_80 vb_MD_findRevocations_137 ⟨gw_3_190, sw_30⟩ rfl rfl rfl rfl (Nat.le_of_ble_eq_true rfl) rfl (Nat.le_of_ble_eq_true rfl) ?_ (fun r h' z => z)
    exact e2 c1
set_option maxRecDepth 100000 in
set_option maxHeartbeats 4000000 in
theorem k_MD_findRevocations_204 {l : Launch} {E : xE} {v0 x1 x2 x3 x4 : Int32} {h : xh} {Q : Option Int32 → xh → Prop}
    (e1 : WP l E M_MD_findRevocations 48 [(0, .inr 7), (1, .inl (v0))] [] h Q) : WP l E M_MD_findRevocations 204 [(0, .inr 7), (1, .inl (x1)), (2, .inl (x2)), (3, .inl (x3)), (4, .inl (x4))] [.inl (v0)] h Q := by
  refine wp_istore_n (ls' := [(0, .inr 7), (1, .inl (v0)), (2, .inl (x2)), (3, .inl (x3)), (4, .inl (x4))]) d_MD_findRevocations_204 (by decide) rfl ?_
  refine wp_goto (tgt := 48) d_MD_findRevocations_205 (by decide) ?_
  refine wp_sub (ls' := [(0, .inr 7), (1, .inl (v0))]) [0, 1] rfl ?_
  exact e1
set_option maxRecDepth 100000 in
set_option maxHeartbeats 4000000 in
theorem k_MD_findRevocations_138 {l : Launch} {E : xE} {v0 x1 x2 x3 x4 : Int32} {h : xh} {Q : Option Int32 → xh → Prop}
    (e1 : (((v0) >>> ((x4) &&& 31)) &&& (nI 1)) ≠ (nI 1) → WP l E M_MD_findRevocations 121 [(0, .inr 7), (1, .inl (x1)), (2, .inl (x2)), (3, .inl (x3)), (4, .inl (x4 + nI 1))] [] h Q)
    (o1 : (((v0) >>> ((x4) &&& 31)) &&& (nI 1)) = (nI 1) → vp_in (x4) 16)
    (o2 : (((v0) >>> ((x4) &&& 31)) &&& (nI 1)) = (nI 1) → vp_in (x4) 16)
    (e2 : (((v0) >>> ((x4) &&& 31)) &&& (nI 1)) = (nI 1) → WP l E M_MD_findRevocations 121 [(0, .inr 7), (1, .inl (x1)), (2, .inl (x2)), (3, .inl (x3)), (4, .inl (x4 + nI 1))] [] (hw (hw h 34 ((x4).toNatClampNeg) (nI 1)) 33 ((x4).toNatClampNeg) (h 7 19)) Q) : WP l E M_MD_findRevocations 138 [(0, .inr 7), (1, .inl (x1)), (2, .inl (x2)), (3, .inl (x3)), (4, .inl (x4))] [.inl (v0)] h Q := by
  refine wp_iload d_MD_findRevocations_138 rfl ?_
  refine wp_ishr d_MD_findRevocations_140 ?_
  refine wp_iconst (v := nI 1) d_MD_findRevocations_141 c_iconst_1 ?_
  refine wp_iand d_MD_findRevocations_142 ?_
  refine wp_iconst (v := nI 1) d_MD_findRevocations_143 c_iconst_1 ?_
  refine wp_ic_ne (tgt := 166) d_MD_findRevocations_144 (by decide) (fun c1 => ?_) (fun c1 => ?_)
  · refine wp_iinc (v := x4 + nI 1) (ls' := [(0, .inr 7), (1, .inl (x1)), (2, .inl (x2)), (3, .inl (x3)), (4, .inl (x4 + nI 1))]) d_MD_findRevocations_166 rfl (c_inc_1 _) (by decide) rfl ?_
    refine wp_goto (tgt := 121) d_MD_findRevocations_169 (by decide) ?_
    exact e1 c1
  · refine wp_aload_n d_MD_findRevocations_147 rfl ?_
    refine wp_getR d_MD_findRevocations_148 fl_MD_46 rfl rfl ?_
    refine wp_iload d_MD_findRevocations_151 rfl ?_
    refine wp_iconst (v := nI 1) d_MD_findRevocations_153 c_iconst_1 ?_
    refine wp_bastore d_MD_findRevocations_154 rfl (o1 c1) (nar01 (by decide)) ?_
    refine wp_aload_n d_MD_findRevocations_155 rfl ?_
    refine wp_getR d_MD_findRevocations_156 fl_MD_43 rfl rfl ?_
    refine wp_iload d_MD_findRevocations_159 rfl ?_
    refine wp_aload_n d_MD_findRevocations_161 rfl ?_
    refine wp_getI d_MD_findRevocations_162 fl_MD_152 rfl rfl ?_
    show WP l E M_MD_findRevocations 165 [(0, .inr 7), (1, .inl (x1)), (2, .inl (x2)), (3, .inl (x3)), (4, .inl (x4))] [.inl (h 7 19), .inl (x4), .inr 33] (hw h 34 ((x4).toNatClampNeg) (nI 1)) _
    refine wp_iastore d_MD_findRevocations_165 rfl (o2 c1) ?_
    refine wp_iinc (v := x4 + nI 1) (ls' := [(0, .inr 7), (1, .inl (x1)), (2, .inl (x2)), (3, .inl (x3)), (4, .inl (x4 + nI 1))]) d_MD_findRevocations_166 rfl (c_inc_1 _) (by decide) rfl ?_
    refine wp_goto (tgt := 121) d_MD_findRevocations_169 (by decide) ?_
    exact e2 c1
set_option maxRecDepth 100000 in
set_option maxHeartbeats 4000000 in
theorem k_MD_findRevocations_83 {l : Launch} {E : xE} {v0 x1 x2 : Int32} {h : xh} {Q : Option Int32 → xh → Prop}
    (e1 : v0 ≠ (nI 2) → WP l E M_MD_findRevocations 121 [(0, .inr 7), (1, .inl (x1)), (2, .inl (x2)), (3, .inl (nI 0)), (4, .inl (nI 0))] [] h Q)
    (e2 : v0 = (nI 2) → MC l E M_MD_logWord [.inr 7, .inl (x2), .inl (nI 2)] h (fun r h' => WP l E M_MD_findRevocations 93 [(0, .inr 7), (1, .inl (x1)), (2, .inl (x2))] (rpush r []) h' Q)) : WP l E M_MD_findRevocations 83 [(0, .inr 7), (1, .inl (x1)), (2, .inl (x2))] [.inl (v0)] h Q := by
  refine wp_iconst (v := nI 2) d_MD_findRevocations_83 c_iconst_2 ?_
  refine wp_ic_ne (tgt := 116) d_MD_findRevocations_84 (by decide) (fun c1 => ?_) (fun c1 => ?_)
  · refine wp_iconst (v := nI 0) d_MD_findRevocations_116 c_iconst_0 ?_
    refine wp_istore_n (ls' := [(0, .inr 7), (1, .inl (x1)), (2, .inl (x2)), (3, .inl (nI 0))]) d_MD_findRevocations_117 (by decide) rfl ?_
    refine wp_iconst (v := nI 0) d_MD_findRevocations_118 c_iconst_0 ?_
    refine wp_istore (ls' := [(0, .inr 7), (1, .inl (x1)), (2, .inl (x2)), (3, .inl (nI 0)), (4, .inl (nI 0))]) d_MD_findRevocations_119 (by decide) rfl ?_
    exact e1 c1
  · refine wp_aload_n d_MD_findRevocations_87 rfl ?_
    refine wp_iload_n d_MD_findRevocations_88 rfl ?_
    refine wp_iconst (v := nI 2) d_MD_findRevocations_89 c_iconst_2 ?_
    refine wp_callV (as := [.inl (x2), .inl (nI 2)]) (rest := []) (Q' := fun r h' => WP l E M_MD_findRevocations 93 [(0, .inr 7), (1, .inl (x1)), (2, .inl (x2))] (rpush r []) h' Q) d_MD_findRevocations_90 vb_MD_findRevocations_137 ⟨gw_3_190, sw_30⟩ rfl rfl rfl rfl (Nat.le_of_ble_eq_true rfl) rfl (Nat.le_of_ble_eq_true rfl) ?_ (fun r h' z => z)
    exact e2 c1
set_option maxRecDepth 100000 in
set_option maxHeartbeats 4000000 in
theorem k_MD_findRevocations_93 {l : Launch} {E : xE} {v0 x1 x2 : Int32} {h : xh} {Q : Option Int32 → xh → Prop}
    (e1 : v0 ≠ (h 7 19) → WP l E M_MD_findRevocations 121 [(0, .inr 7), (1, .inl (x1)), (2, .inl (x2)), (3, .inl (nI 0)), (4, .inl (nI 0))] [] h Q)
    (e2 : v0 = (h 7 19) → MC l E M_MD_isRevocation [.inr 7, .inl (h 7 20), .inl (x2)] h (fun r h' => WP l E M_MD_findRevocations 109 [(0, .inr 7), (1, .inl (x1)), (2, .inl (x2))] (rpush r []) h' Q)) : WP l E M_MD_findRevocations 93 [(0, .inr 7), (1, .inl (x1)), (2, .inl (x2))] [.inl (v0)] h Q := by
  refine wp_aload_n d_MD_findRevocations_93 rfl ?_
  refine wp_getI d_MD_findRevocations_94 fl_MD_152 rfl rfl ?_
  refine wp_ic_ne (tgt := 116) d_MD_findRevocations_97 (by decide) (fun c1 => ?_) (fun c1 => ?_)
  · refine wp_iconst (v := nI 0) d_MD_findRevocations_116 c_iconst_0 ?_
    refine wp_istore_n (ls' := [(0, .inr 7), (1, .inl (x1)), (2, .inl (x2)), (3, .inl (nI 0))]) d_MD_findRevocations_117 (by decide) rfl ?_
    refine wp_iconst (v := nI 0) d_MD_findRevocations_118 c_iconst_0 ?_
    refine wp_istore (ls' := [(0, .inr 7), (1, .inl (x1)), (2, .inl (x2)), (3, .inl (nI 0)), (4, .inl (nI 0))]) d_MD_findRevocations_119 (by decide) rfl ?_
    exact e1 c1
  · refine wp_aload_n d_MD_findRevocations_100 rfl ?_
    refine wp_aload_n d_MD_findRevocations_101 rfl ?_
    refine wp_getI d_MD_findRevocations_102 fl_MD_149 rfl rfl ?_
    refine wp_iload_n d_MD_findRevocations_105 rfl ?_
    refine wp_callV (as := [.inl (h 7 20), .inl (x2)]) (rest := []) (Q' := fun r h' => WP l E M_MD_findRevocations 109 [(0, .inr 7), (1, .inl (x1)), (2, .inl (x2))] (rpush r []) h' Q) d_MD_findRevocations_106 vb_MD_findRevocations_158 ⟨gw_3_202, sw_32⟩ rfl rfl rfl rfl (Nat.le_of_ble_eq_true rfl) rfl (Nat.le_of_ble_eq_true rfl) ?_ (fun r h' z => z)
    exact e2 c1
set_option maxRecDepth 100000 in
set_option maxHeartbeats 4000000 in
theorem k_MD_findRevocations_109 {l : Launch} {E : xE} {v0 x1 x2 : Int32} {h : xh} {Q : Option Int32 → xh → Prop}
    (e1 : v0 = 0 → WP l E M_MD_findRevocations 121 [(0, .inr 7), (1, .inl (x1)), (2, .inl (x2)), (3, .inl (nI 0)), (4, .inl (nI 0))] [] h Q)
    (e2 : ¬ v0 = 0 → WP l E M_MD_findRevocations 121 [(0, .inr 7), (1, .inl (x1)), (2, .inl (x2)), (3, .inl (nI 1)), (4, .inl (nI 0))] [] h Q) : WP l E M_MD_findRevocations 109 [(0, .inr 7), (1, .inl (x1)), (2, .inl (x2))] [.inl (v0)] h Q := by
  refine wp_if_eq (tgt := 116) d_MD_findRevocations_109 (by decide) (fun c1 => ?_) (fun c1 => ?_)
  · refine wp_iconst (v := nI 0) d_MD_findRevocations_116 c_iconst_0 ?_
    refine wp_istore_n (ls' := [(0, .inr 7), (1, .inl (x1)), (2, .inl (x2)), (3, .inl (nI 0))]) d_MD_findRevocations_117 (by decide) rfl ?_
    refine wp_iconst (v := nI 0) d_MD_findRevocations_118 c_iconst_0 ?_
    refine wp_istore (ls' := [(0, .inr 7), (1, .inl (x1)), (2, .inl (x2)), (3, .inl (nI 0)), (4, .inl (nI 0))]) d_MD_findRevocations_119 (by decide) rfl ?_
    exact e1 c1
  · refine wp_iconst (v := nI 1) d_MD_findRevocations_112 c_iconst_1 ?_
    refine wp_goto (tgt := 117) d_MD_findRevocations_113 (by decide) ?_
    refine wp_istore_n (ls' := [(0, .inr 7), (1, .inl (x1)), (2, .inl (x2)), (3, .inl (nI 1))]) d_MD_findRevocations_117 (by decide) rfl ?_
    refine wp_iconst (v := nI 0) d_MD_findRevocations_118 c_iconst_0 ?_
    refine wp_istore (ls' := [(0, .inr 7), (1, .inl (x1)), (2, .inl (x2)), (3, .inl (nI 1)), (4, .inl (nI 0))]) d_MD_findRevocations_119 (by decide) rfl ?_
    exact e2 c1
set_option maxRecDepth 100000 in
set_option maxHeartbeats 4000000 in
theorem k_MD_isRevocation_0 {l : Launch} {E : xE} {x1 x2 : Int32} {h : xh} {Q : Option Int32 → xh → Prop}
    (e1 : WP l E M_MD_isRevocation 2 [(0, .inr 7), (1, .inl (x1)), (2, .inl (x2)), (3, .inl (x1))] [] h Q) : MC l E M_MD_isRevocation [.inr 7, .inl (x1), .inl (x2)] h Q := by
  refine wp_iload_n d_MD_isRevocation_0 rfl ?_
  refine wp_istore_n (ls' := [(0, .inr 7), (1, .inl (x1)), (2, .inl (x2)), (3, .inl (x1))]) d_MD_isRevocation_1 (by decide) rfl ?_
  exact e1
set_option maxRecDepth 100000 in
set_option maxHeartbeats 4000000 in
theorem k_MD_isRevocation_2 {l : Launch} {E : xE} {x1 x2 x3 : Int32} {h : xh} {Q : Option Int32 → xh → Prop}
    (e1 : x2 ≤ x3 → x3 ≠ x2 → Q (some (nI 0)) h)
    (e2 : x2 ≤ x3 → x3 = x2 → Q (some (nI 1)) h)
    (e3 : ¬ x2 ≤ x3 → MC l E M_MD_logWord [.inr 7, .inl (x3), .inl (nI 1)] h (fun r h' => WP l E M_MD_isRevocation 13 [(0, .inr 7), (1, .inl (x1)), (2, .inl (x2)), (3, .inl (x3))] (rpush r []) h' Q)) : WP l E M_MD_isRevocation 2 [(0, .inr 7), (1, .inl (x1)), (2, .inl (x2)), (3, .inl (x3))] [] h Q := by
  refine wp_iload_n d_MD_isRevocation_2 rfl ?_
  refine wp_iload_n d_MD_isRevocation_3 rfl ?_
  refine wp_ic_ge (tgt := 34) d_MD_isRevocation_4 (by decide) (fun c1 => ?_) (fun c1 => ?_)
  · refine wp_iload_n d_MD_isRevocation_34 rfl ?_
    refine wp_iload_n d_MD_isRevocation_35 rfl ?_
    refine wp_ic_ne (tgt := 43) d_MD_isRevocation_36 (by decide) (fun c2 => ?_) (fun c2 => ?_)
    · refine wp_iconst (v := nI 0) d_MD_isRevocation_43 c_iconst_0 ?_
      refine wp_zreturn d_MD_isRevocation_44 rfl (by decide) ?_
      exact e1 c1 c2
    · refine wp_iconst (v := nI 1) d_MD_isRevocation_39 c_iconst_1 ?_
      refine wp_goto (tgt := 44) d_MD_isRevocation_40 (by decide) ?_
      refine wp_zreturn d_MD_isRevocation_44 rfl (by decide) ?_
      exact e2 c1 c2
  · refine wp_aload_n d_MD_isRevocation_7 rfl ?_
    refine wp_iload_n d_MD_isRevocation_8 rfl ?_
    refine wp_iconst (v := nI 1) d_MD_isRevocation_9 c_iconst_1 ?_
    refine wp_callV (as := [.inl (x3), .inl (nI 1)]) (rest := []) (Q' := fun r h' => WP l E M_MD_isRevocation 13 [(0, .inr 7), (1, .inl (x1)), (2, .inl (x2)), (3, .inl (x3))] (rpush r []) h' Q) d_MD_isRevocation_10 vb_MD_isRevocation_137 ⟨gw_3_190, sw_30⟩ rfl rfl rfl rfl (Nat.le_of_ble_eq_true rfl) rfl (Nat.le_of_ble_eq_true rfl) ?_ (fun r h' z => z)
    exact e3 c1
set_option maxRecDepth 100000 in
set_option maxHeartbeats 4000000 in
theorem k_MD_isRevocation_13 {l : Launch} {E : xE} {v0 x1 x2 x3 : Int32} {h : xh} {Q : Option Int32 → xh → Prop}
    (e1 : v0 ≠ (nI 1) → x3 ≠ x2 → Q (some (nI 0)) h)
    (e2 : v0 ≠ (nI 1) → x3 = x2 → Q (some (nI 1)) h)
    (e3 : v0 = (nI 1) → MC l E M_MD_logWord [.inr 7, .inl (x3), .inl (nI 3)] h (fun r h' => WP l E M_MD_isRevocation 26 [(0, .inr 7), (1, .inl (x1)), (2, .inl (x2)), (3, .inl (x3))] (rpush r [.inl ((x3) + (nI 1))]) h' Q)) : WP l E M_MD_isRevocation 13 [(0, .inr 7), (1, .inl (x1)), (2, .inl (x2)), (3, .inl (x3))] [.inl (v0)] h Q := by
  refine wp_iconst (v := nI 1) d_MD_isRevocation_13 c_iconst_1 ?_
  refine wp_ic_ne (tgt := 34) d_MD_isRevocation_14 (by decide) (fun c1 => ?_) (fun c1 => ?_)
  · refine wp_iload_n d_MD_isRevocation_34 rfl ?_
    refine wp_iload_n d_MD_isRevocation_35 rfl ?_
    refine wp_ic_ne (tgt := 43) d_MD_isRevocation_36 (by decide) (fun c2 => ?_) (fun c2 => ?_)
    · refine wp_iconst (v := nI 0) d_MD_isRevocation_43 c_iconst_0 ?_
      refine wp_zreturn d_MD_isRevocation_44 rfl (by decide) ?_
      exact e1 c1 c2
    · refine wp_iconst (v := nI 1) d_MD_isRevocation_39 c_iconst_1 ?_
      refine wp_goto (tgt := 44) d_MD_isRevocation_40 (by decide) ?_
      refine wp_zreturn d_MD_isRevocation_44 rfl (by decide) ?_
      exact e2 c1 c2
  · refine wp_iload_n d_MD_isRevocation_17 rfl ?_
    refine wp_iconst (v := nI 1) d_MD_isRevocation_18 c_iconst_1 ?_
    refine wp_iadd d_MD_isRevocation_19 ?_
    refine wp_aload_n d_MD_isRevocation_20 rfl ?_
    refine wp_iload_n d_MD_isRevocation_21 rfl ?_
    refine wp_iconst (v := nI 3) d_MD_isRevocation_22 c_iconst_3 ?_
    refine wp_callV (as := [.inl (x3), .inl (nI 3)]) (rest := [.inl ((x3) + (nI 1))]) (Q' := fun r h' => WP l E M_MD_isRevocation 26 [(0, .inr 7), (1, .inl (x1)), (2, .inl (x2)), (3, .inl (x3))] (rpush r [.inl ((x3) + (nI 1))]) h' Q) d_MD_isRevocation_23 vb_MD_isRevocation_137 ⟨gw_3_190, sw_30⟩ rfl rfl rfl rfl (Nat.le_of_ble_eq_true rfl) rfl (Nat.le_of_ble_eq_true rfl) ?_ (fun r h' z => z)
    exact e3 c1
set_option maxRecDepth 100000 in
set_option maxHeartbeats 4000000 in
theorem k_MD_isRevocation_26 {l : Launch} {E : xE} {s0 v0 x1 x2 x3 : Int32} {h : xh} {Q : Option Int32 → xh → Prop}
    (e1 : WP l E M_MD_isRevocation 2 [(0, .inr 7), (1, .inl (x1)), (2, .inl (x2)), (3, .inl ((s0) + ((v0) &&& (nI 7))))] [] h Q) : WP l E M_MD_isRevocation 26 [(0, .inr 7), (1, .inl (x1)), (2, .inl (x2)), (3, .inl (x3))] [.inl (v0), .inl (s0)] h Q := by
  refine wp_bipush (v := nI 7) d_MD_isRevocation_26 c_bipush_7 ?_
  refine wp_iand d_MD_isRevocation_28 ?_
  refine wp_iadd d_MD_isRevocation_29 ?_
  refine wp_istore_n (ls' := [(0, .inr 7), (1, .inl (x1)), (2, .inl (x2)), (3, .inl ((s0) + ((v0) &&& (nI 7))))]) d_MD_isRevocation_30 (by decide) rfl ?_
  refine wp_goto (tgt := 2) d_MD_isRevocation_31 (by decide) ?_
  exact e1
set_option maxRecDepth 100000 in
set_option maxHeartbeats 4000000 in
theorem k_MD_replay_0 {l : Launch} {E : xE} {x1 : Int32} {h : xh} {Q : Option Int32 → xh → Prop}
    (e1 : MC l E M_MD_findRevocations [.inr 7] h (fun r h' => WP l E M_MD_replay 4 [(0, .inr 7), (1, .inl (x1))] (rpush r []) h' Q)) : MC l E M_MD_replay [.inr 7, .inl (x1)] h Q := by
  refine wp_aload_n d_MD_replay_0 rfl ?_
  refine wp_callV (as := []) (rest := []) (Q' := fun r h' => WP l E M_MD_replay 4 [(0, .inr 7), (1, .inl (x1))] (rpush r []) h' Q) d_MD_replay_1 vb_MD_replay_162 ⟨gw_3_178, sw_27⟩ rfl rfl rfl rfl (Nat.le_of_ble_eq_true rfl) rfl (Nat.le_of_ble_eq_true rfl) ?_ (fun r h' z => z)
  exact e1
set_option maxRecDepth 100000 in
set_option maxHeartbeats 4000000 in
theorem k_MD_replay_4 {l : Launch} {E : xE} {x1 : Int32} {h : xh} {Q : Option Int32 → xh → Prop}
    (e1 : WP l E M_MD_replay 14 [(0, .inr 7), (1, .inl (x1)), (2, .inl (nI 0)), (3, .inl (nI 0)), (4, .inl (h 7 18))] [] h Q) : WP l E M_MD_replay 4 [(0, .inr 7), (1, .inl (x1))] [] h Q := by
  refine wp_iconst (v := nI 0) d_MD_replay_4 c_iconst_0 ?_
  refine wp_istore_n (ls' := [(0, .inr 7), (1, .inl (x1)), (2, .inl (nI 0))]) d_MD_replay_5 (by decide) rfl ?_
  refine wp_iconst (v := nI 0) d_MD_replay_6 c_iconst_0 ?_
  refine wp_istore_n (ls' := [(0, .inr 7), (1, .inl (x1)), (2, .inl (nI 0)), (3, .inl (nI 0))]) d_MD_replay_7 (by decide) rfl ?_
  refine wp_aload_n d_MD_replay_8 rfl ?_
  refine wp_getI d_MD_replay_9 fl_MD_143 rfl rfl ?_
  refine wp_istore (ls' := [(0, .inr 7), (1, .inl (x1)), (2, .inl (nI 0)), (3, .inl (nI 0)), (4, .inl (h 7 18))]) d_MD_replay_12 (by decide) rfl ?_
  exact e1
set_option maxRecDepth 100000 in
set_option maxHeartbeats 4000000 in
theorem k_MD_replay_14 {l : Launch} {E : xE} {x1 x2 x3 x4 : Int32} {h : xh} {Q : Option Int32 → xh → Prop}
    (e1 : (h 7 20) ≤ x3 → Q (some (x2)) h)
    (e2 : ¬ (h 7 20) ≤ x3 → MC l E M_MD_logWord [.inr 7, .inl (x3), .inl (nI 1)] h (fun r h' => WP l E M_MD_replay 28 [(0, .inr 7), (1, .inl (x1)), (2, .inl (x2)), (3, .inl (x3)), (4, .inl (x4))] (rpush r []) h' Q)) : WP l E M_MD_replay 14 [(0, .inr 7), (1, .inl (x1)), (2, .inl (x2)), (3, .inl (x3)), (4, .inl (x4))] [] h Q := by
  refine wp_iload_n d_MD_replay_14 rfl ?_
  refine wp_aload_n d_MD_replay_15 rfl ?_
  refine wp_getI d_MD_replay_16 fl_MD_149 rfl rfl ?_
  refine wp_ic_ge (tgt := 232) d_MD_replay_19 (by decide) (fun c1 => ?_) (fun c1 => ?_)
  · refine wp_iload_n d_MD_replay_232 rfl ?_
    refine wp_ireturn d_MD_replay_233 rfl ?_
    exact e1 c1
  · refine wp_aload_n d_MD_replay_22 rfl ?_
    refine wp_iload_n d_MD_replay_23 rfl ?_
    refine wp_iconst (v := nI 1) d_MD_replay_24 c_iconst_1 ?_
    refine wp_callV (as := [.inl (x3), .inl (nI 1)]) (rest := []) (Q' := fun r h' => WP l E M_MD_replay 28 [(0, .inr 7), (1, .inl (x1)), (2, .inl (x2)), (3, .inl (x3)), (4, .inl (x4))] (rpush r []) h' Q) d_MD_replay_25 vb_MD_replay_137 ⟨gw_3_190, sw_30⟩ rfl rfl rfl rfl (Nat.le_of_ble_eq_true rfl) rfl (Nat.le_of_ble_eq_true rfl) ?_ (fun r h' z => z)
    exact e2 c1
set_option maxRecDepth 100000 in
set_option maxHeartbeats 4000000 in
theorem k_MD_replay_28 {l : Launch} {E : xE} {v0 x1 x2 x3 x4 : Int32} {h : xh} {Q : Option Int32 → xh → Prop}
    (e1 : v0 ≠ (nI 1) → MC l E M_MD_logWord [.inr 7, .inl (x3), .inl (nI 1)] h (fun r h' => WP l E M_MD_replay 210 [(0, .inr 7), (1, .inl (x1)), (2, .inl (x2)), (3, .inl (x3)), (4, .inl (x4))] (rpush r []) h' Q))
    (e2 : v0 = (nI 1) → MC l E M_MD_logWord [.inr 7, .inl (x3), .inl (nI 3)] h (fun r h' => WP l E M_MD_replay 38 [(0, .inr 7), (1, .inl (x1)), (2, .inl (x2)), (3, .inl (x3)), (4, .inl (x4))] (rpush r []) h' Q)) : WP l E M_MD_replay 28 [(0, .inr 7), (1, .inl (x1)), (2, .inl (x2)), (3, .inl (x3)), (4, .inl (x4))] [.inl (v0)] h Q := by
  refine wp_iconst (v := nI 1) d_MD_replay_28 c_iconst_1 ?_
  refine wp_ic_ne (tgt := 204) d_MD_replay_29 (by decide) (fun c1 => ?_) (fun c1 => ?_)
  · refine wp_aload_n d_MD_replay_204 rfl ?_
    refine wp_iload_n d_MD_replay_205 rfl ?_
    refine wp_iconst (v := nI 1) d_MD_replay_206 c_iconst_1 ?_
    refine wp_callV (as := [.inl (x3), .inl (nI 1)]) (rest := []) (Q' := fun r h' => WP l E M_MD_replay 210 [(0, .inr 7), (1, .inl (x1)), (2, .inl (x2)), (3, .inl (x3)), (4, .inl (x4))] (rpush r []) h' Q) d_MD_replay_207 vb_MD_replay_137 ⟨gw_3_190, sw_30⟩ rfl rfl rfl rfl (Nat.le_of_ble_eq_true rfl) rfl (Nat.le_of_ble_eq_true rfl) ?_ (fun r h' z => z)
    exact e1 c1
  · refine wp_aload_n d_MD_replay_32 rfl ?_
    refine wp_iload_n d_MD_replay_33 rfl ?_
    refine wp_iconst (v := nI 3) d_MD_replay_34 c_iconst_3 ?_
    refine wp_callV (as := [.inl (x3), .inl (nI 3)]) (rest := []) (Q' := fun r h' => WP l E M_MD_replay 38 [(0, .inr 7), (1, .inl (x1)), (2, .inl (x2)), (3, .inl (x3)), (4, .inl (x4))] (rpush r []) h' Q) d_MD_replay_35 vb_MD_replay_137 ⟨gw_3_190, sw_30⟩ rfl rfl rfl rfl (Nat.le_of_ble_eq_true rfl) rfl (Nat.le_of_ble_eq_true rfl) ?_ (fun r h' z => z)
    exact e2 c1
set_option maxRecDepth 100000 in
set_option maxHeartbeats 4000000 in
theorem k_MD_replay_210 {l : Launch} {E : xE} {v0 x1 x2 x3 x4 : Int32} {h : xh} {Q : Option Int32 → xh → Prop}
    (e1 : v0 ≠ (nI 3) → WP l E M_MD_replay 14 [(0, .inr 7), (1, .inl (x1)), (2, .inl (x2)), (3, .inl ((x3) + (nI 1))), (4, .inl (x4))] [] h Q)
    (e2 : v0 = (nI 3) → WP l E M_MD_replay 14 [(0, .inr 7), (1, .inl (x1)), (2, .inl (x2)), (3, .inl ((x3) + (nI 1))), (4, .inl ((x4) + (nI 1)))] [] h Q) : WP l E M_MD_replay 210 [(0, .inr 7), (1, .inl (x1)), (2, .inl (x2)), (3, .inl (x3)), (4, .inl (x4))] [.inl (v0)] h Q := by
  refine wp_iconst (v := nI 3) d_MD_replay_210 c_iconst_3 ?_
  refine wp_ic_ne (tgt := 221) d_MD_replay_211 (by decide) (fun c1 => ?_) (fun c1 => ?_)
  · refine wp_iload d_MD_replay_221 rfl ?_
    refine wp_istore (ls' := [(0, .inr 7), (1, .inl (x1)), (2, .inl (x2)), (3, .inl (x3)), (4, .inl (x4))]) d_MD_replay_223 (by decide) rfl ?_
    refine wp_iload_n d_MD_replay_225 rfl ?_
    refine wp_iconst (v := nI 1) d_MD_replay_226 c_iconst_1 ?_
    refine wp_iadd d_MD_replay_227 ?_
    refine wp_istore_n (ls' := [(0, .inr 7), (1, .inl (x1)), (2, .inl (x2)), (3, .inl ((x3) + (nI 1))), (4, .inl (x4))]) d_MD_replay_228 (by decide) rfl ?_
    refine wp_goto (tgt := 14) d_MD_replay_229 (by decide) ?_
    exact e1 c1
  · refine wp_iload d_MD_replay_214 rfl ?_
    refine wp_iconst (v := nI 1) d_MD_replay_216 c_iconst_1 ?_
    refine wp_iadd d_MD_replay_217 ?_
    refine wp_goto (tgt := 223) d_MD_replay_218 (by decide) ?_
    refine wp_istore (ls' := [(0, .inr 7), (1, .inl (x1)), (2, .inl (x2)), (3, .inl (x3)), (4, .inl ((x4) + (nI 1)))]) d_MD_replay_223 (by decide) rfl ?_
    refine wp_iload_n d_MD_replay_225 rfl ?_
    refine wp_iconst (v := nI 1) d_MD_replay_226 c_iconst_1 ?_
    refine wp_iadd d_MD_replay_227 ?_
    refine wp_istore_n (ls' := [(0, .inr 7), (1, .inl (x1)), (2, .inl (x2)), (3, .inl ((x3) + (nI 1))), (4, .inl ((x4) + (nI 1)))]) d_MD_replay_228 (by decide) rfl ?_
    refine wp_goto (tgt := 14) d_MD_replay_229 (by decide) ?_
    exact e2 c1
set_option maxRecDepth 100000 in
set_option maxHeartbeats 4000000 in
theorem k_MD_replay_38 {l : Launch} {E : xE} {v0 x1 x2 x3 x4 : Int32} {h : xh} {Q : Option Int32 → xh → Prop}
    (e1 : WP l E M_MD_replay 43 [(0, .inr 7), (1, .inl (x1)), (2, .inl (x2)), (3, .inl (x3)), (4, .inl (x4)), (5, .inl (v0)), (6, .inl (nI 0))] [] h Q) : WP l E M_MD_replay 38 [(0, .inr 7), (1, .inl (x1)), (2, .inl (x2)), (3, .inl (x3)), (4, .inl (x4))] [.inl (v0)] h Q := by
  refine wp_istore (ls' := [(0, .inr 7), (1, .inl (x1)), (2, .inl (x2)), (3, .inl (x3)), (4, .inl (x4)), (5, .inl (v0))]) d_MD_replay_38 (by decide) rfl ?_
  refine wp_iconst (v := nI 0) d_MD_replay_40 c_iconst_0 ?_
  refine wp_istore (ls' := [(0, .inr 7), (1, .inl (x1)), (2, .inl (x2)), (3, .inl (x3)), (4, .inl (x4)), (5, .inl (v0)), (6, .inl (nI 0))]) d_MD_replay_41 (by decide) rfl ?_
  exact e1
set_option maxRecDepth 100000 in
set_option maxHeartbeats 4000000 in
theorem k_MD_replay_43 {l : Launch} {E : xE} {x1 x2 x3 x4 x5 x6 : Int32} {h : xh} {Q : Option Int32 → xh → Prop}
    (e1 : ((x5) &&& (nI 7)) ≤ x6 → WP l E M_MD_replay 14 [(0, .inr 7), (1, .inl (x1)), (2, .inl (x2)), (3, .inl (((x3) + (nI 1)) + ((x5) &&& (nI 7)))), (4, .inl (x4))] [] h Q)
    (o1 : ¬ ((x5) &&& (nI 7)) ≤ x6 → vp_in ((ushr (x5) ((nI 3) + ((nI 5) * (x6)))) &&& (nI 15)) 16)
    (e2 : ¬ ((x5) &&& (nI 7)) ≤ x6 → (h 34 (((ushr (x5) ((nI 3) + ((nI 5) * (x6)))) &&& (nI 15)).toNatClampNeg)) = 0 → x2 ≠ x1 → WP l E M_MD_replay 43 [(0, .inr 7), (1, .inl (x1)), (2, .inl ((x2) + (nI 1))), (3, .inl (x3)), (4, .inl (x4)), (5, .inl (x5)), (6, .inl (x6 + nI 1))] [] h Q)
    (e3 : ¬ ((x5) &&& (nI 7)) ≤ x6 → (h 34 (((ushr (x5) ((nI 3) + ((nI 5) * (x6)))) &&& (nI 15)).toNatClampNeg)) = 0 → x2 = x1 → ((ushr (x5) ((nI 7) + ((nI 5) * (x6)))) &&& (nI 1)) ≠ (nI 1) → MC l E M_MD_logWord [.inr 7, .inl (((x3) + (nI 1)) + (x6)), .inl (nI 0)] h (fun r h' => WP l E M_MD_replay 139 [(0, .inr 7), (1, .inl (x1)), (2, .inl (x2)), (3, .inl (x3)), (4, .inl (x4)), (5, .inl (x5)), (6, .inl (x6)), (7, .inl ((ushr (x5) ((nI 3) + ((nI 5) * (x6)))) &&& (nI 15))), (8, .inl (nI 0))] (rpush r [.inr 7]) h' Q))
    (e4 : ¬ ((x5) &&& (nI 7)) ≤ x6 → (h 34 (((ushr (x5) ((nI 3) + ((nI 5) * (x6)))) &&& (nI 15)).toNatClampNeg)) = 0 → x2 = x1 → ((ushr (x5) ((nI 7) + ((nI 5) * (x6)))) &&& (nI 1)) = (nI 1) → MC l E M_MD_logWord [.inr 7, .inl (((x3) + (nI 1)) + (x6)), .inl (nI 1)] h (fun r h' => WP l E M_MD_replay 150 [(0, .inr 7), (1, .inl (x1)), (2, .inl (x2)), (3, .inl (x3)), (4, .inl (x4)), (5, .inl (x5)), (6, .inl (x6)), (7, .inl ((ushr (x5) ((nI 3) + ((nI 5) * (x6)))) &&& (nI 15))), (8, .inl (nI 1))] (rpush r [.inl (nI 77001), .inr 7]) h' Q))
    (o2 : ¬ ((x5) &&& (nI 7)) ≤ x6 → ¬ (h 34 (((ushr (x5) ((nI 3) + ((nI 5) * (x6)))) &&& (nI 15)).toNatClampNeg)) = 0 → vp_in ((ushr (x5) ((nI 3) + ((nI 5) * (x6)))) &&& (nI 15)) 16)
    (e5 : ¬ ((x5) &&& (nI 7)) ≤ x6 → ¬ (h 34 (((ushr (x5) ((nI 3) + ((nI 5) * (x6)))) &&& (nI 15)).toNatClampNeg)) = 0 → x4 < (h 33 (((ushr (x5) ((nI 3) + ((nI 5) * (x6)))) &&& (nI 15)).toNatClampNeg)) → WP l E M_MD_replay 43 [(0, .inr 7), (1, .inl (x1)), (2, .inl (x2)), (3, .inl (x3)), (4, .inl (x4)), (5, .inl (x5)), (6, .inl (x6 + nI 1))] [] h Q)
    (e6 : ¬ ((x5) &&& (nI 7)) ≤ x6 → ¬ (h 34 (((ushr (x5) ((nI 3) + ((nI 5) * (x6)))) &&& (nI 15)).toNatClampNeg)) = 0 → ¬ x4 < (h 33 (((ushr (x5) ((nI 3) + ((nI 5) * (x6)))) &&& (nI 15)).toNatClampNeg)) → x2 ≠ x1 → WP l E M_MD_replay 43 [(0, .inr 7), (1, .inl (x1)), (2, .inl ((x2) + (nI 1))), (3, .inl (x3)), (4, .inl (x4)), (5, .inl (x5)), (6, .inl (x6 + nI 1))] [] h Q)
    (e7 : ¬ ((x5) &&& (nI 7)) ≤ x6 → ¬ (h 34 (((ushr (x5) ((nI 3) + ((nI 5) * (x6)))) &&& (nI 15)).toNatClampNeg)) = 0 → ¬ x4 < (h 33 (((ushr (x5) ((nI 3) + ((nI 5) * (x6)))) &&& (nI 15)).toNatClampNeg)) → x2 = x1 → ((ushr (x5) ((nI 7) + ((nI 5) * (x6)))) &&& (nI 1)) ≠ (nI 1) → MC l E M_MD_logWord [.inr 7, .inl (((x3) + (nI 1)) + (x6)), .inl (nI 0)] h (fun r h' => WP l E M_MD_replay 139 [(0, .inr 7), (1, .inl (x1)), (2, .inl (x2)), (3, .inl (x3)), (4, .inl (x4)), (5, .inl (x5)), (6, .inl (x6)), (7, .inl ((ushr (x5) ((nI 3) + ((nI 5) * (x6)))) &&& (nI 15))), (8, .inl (nI 0))] (rpush r [.inr 7]) h' Q))
    (e8 : ¬ ((x5) &&& (nI 7)) ≤ x6 → ¬ (h 34 (((ushr (x5) ((nI 3) + ((nI 5) * (x6)))) &&& (nI 15)).toNatClampNeg)) = 0 → ¬ x4 < (h 33 (((ushr (x5) ((nI 3) + ((nI 5) * (x6)))) &&& (nI 15)).toNatClampNeg)) → x2 = x1 → ((ushr (x5) ((nI 7) + ((nI 5) * (x6)))) &&& (nI 1)) = (nI 1) → MC l E M_MD_logWord [.inr 7, .inl (((x3) + (nI 1)) + (x6)), .inl (nI 1)] h (fun r h' => WP l E M_MD_replay 150 [(0, .inr 7), (1, .inl (x1)), (2, .inl (x2)), (3, .inl (x3)), (4, .inl (x4)), (5, .inl (x5)), (6, .inl (x6)), (7, .inl ((ushr (x5) ((nI 3) + ((nI 5) * (x6)))) &&& (nI 15))), (8, .inl (nI 1))] (rpush r [.inl (nI 77001), .inr 7]) h' Q)) : WP l E M_MD_replay 43 [(0, .inr 7), (1, .inl (x1)), (2, .inl (x2)), (3, .inl (x3)), (4, .inl (x4)), (5, .inl (x5)), (6, .inl (x6))] [] h Q := by
  refine wp_iload d_MD_replay_43 rfl ?_
  refine wp_iload d_MD_replay_45 rfl ?_
  refine wp_bipush (v := nI 7) d_MD_replay_47 c_bipush_7 ?_
  refine wp_iand d_MD_replay_49 ?_
  refine wp_ic_ge (tgt := 191) d_MD_replay_50 (by decide) (fun c1 => ?_) (fun c1 => ?_)
  · refine wp_iload_n d_MD_replay_191 rfl ?_
    refine wp_iconst (v := nI 1) d_MD_replay_192 c_iconst_1 ?_
    refine wp_iadd d_MD_replay_193 ?_
    refine wp_iload d_MD_replay_194 rfl ?_
    refine wp_bipush (v := nI 7) d_MD_replay_196 c_bipush_7 ?_
    refine wp_iand d_MD_replay_198 ?_
    refine wp_iadd d_MD_replay_199 ?_
    refine wp_istore_n (ls' := [(0, .inr 7), (1, .inl (x1)), (2, .inl (x2)), (3, .inl (((x3) + (nI 1)) + ((x5) &&& (nI 7)))), (4, .inl (x4)), (5, .inl (x5)), (6, .inl (x6))]) d_MD_replay_200 (by decide) rfl ?_
    refine wp_goto (tgt := 14) d_MD_replay_201 (by decide) ?_
    refine wp_sub (ls' := [(0, .inr 7), (1, .inl (x1)), (2, .inl (x2)), (3, .inl (((x3) + (nI 1)) + ((x5) &&& (nI 7)))), (4, .inl (x4))]) [0, 1, 2, 3, 4] rfl ?_
    exact e1 c1
  · refine wp_iload d_MD_replay_53 rfl ?_
    refine wp_iconst (v := nI 3) d_MD_replay_55 c_iconst_3 ?_
    refine wp_iconst (v := nI 5) d_MD_replay_56 c_iconst_5 ?_
    refine wp_iload d_MD_replay_57 rfl ?_
    refine wp_imul d_MD_replay_59 ?_
    refine wp_iadd d_MD_replay_60 ?_
    refine wp_iushr d_MD_replay_61 ?_
    refine wp_bipush (v := nI 15) d_MD_replay_62 c_bipush_15 ?_
    refine wp_iand d_MD_replay_64 ?_
    refine wp_istore (ls' := [(0, .inr 7), (1, .inl (x1)), (2, .inl (x2)), (3, .inl (x3)), (4, .inl (x4)), (5, .inl (x5)), (6, .inl (x6)), (7, .inl ((ushr (x5) ((nI 3) + ((nI 5) * (x6)))) &&& (nI 15)))]) d_MD_replay_65 (by decide) rfl ?_
    refine wp_aload_n d_MD_replay_67 rfl ?_
    refine wp_getR d_MD_replay_68 fl_MD_46 rfl rfl ?_
    refine wp_iload d_MD_replay_71 rfl ?_
    refine wp_baload d_MD_replay_73 rfl (o1 c1) ?_
    refine wp_if_eq (tgt := 89) d_MD_replay_74 (by decide) (fun c2 => ?_) (fun c2 => ?_)
    · refine wp_iload_n d_MD_replay_89 rfl ?_
      refine wp_iload_n d_MD_replay_90 rfl ?_
      refine wp_ic_ne (tgt := 181) d_MD_replay_91 (by decide) (fun c3 => ?_) (fun c3 => ?_)
      · refine wp_iload_n d_MD_replay_181 rfl ?_
        refine wp_iconst (v := nI 1) d_MD_replay_182 c_iconst_1 ?_
        refine wp_iadd d_MD_replay_183 ?_
        refine wp_istore_n (ls' := [(0, .inr 7), (1, .inl (x1)), (2, .inl ((x2) + (nI 1))), (3, .inl (x3)), (4, .inl (x4)), (5, .inl (x5)), (6, .inl (x6)), (7, .inl ((ushr (x5) ((nI 3) + ((nI 5) * (x6)))) &&& (nI 15)))]) d_MD_replay_184 (by decide) rfl ?_
        refine wp_iinc (v := x6 + nI 1) (ls' := [(0, .inr 7), (1, .inl (x1)), (2, .inl ((x2) + (nI 1))), (3, .inl (x3)), (4, .inl (x4)), (5, .inl (x5)), (6, .inl (x6 + nI 1)), (7, .inl ((ushr (x5) ((nI 3) + ((nI 5) * (x6)))) &&& (nI 15)))]) d_MD_replay_185 rfl (c_inc_1 _) (by decide) rfl ?_
        refine wp_goto (tgt := 43) d_MD_replay_188 (by decide) ?_
        refine wp_sub (ls' := [(0, .inr 7), (1, .inl (x1)), (2, .inl ((x2) + (nI 1))), (3, .inl (x3)), (4, .inl (x4)), (5, .inl (x5)), (6, .inl (x6 + nI 1))]) [0, 1, 2, 3, 4, 5, 6] rfl ?_
        exact e2 c1 c2 c3
      · refine wp_iload d_MD_replay_94 rfl ?_
        refine wp_bipush (v := nI 7) d_MD_replay_96 c_bipush_7 ?_
        refine wp_iconst (v := nI 5) d_MD_replay_98 c_iconst_5 ?_
        refine wp_iload d_MD_replay_99 rfl ?_
        refine wp_imul d_MD_replay_101 ?_
        refine wp_iadd d_MD_replay_102 ?_
        refine wp_iushr d_MD_replay_103 ?_
        refine wp_iconst (v := nI 1) d_MD_replay_104 c_iconst_1 ?_
        refine wp_iand d_MD_replay_105 ?_
        refine wp_iconst (v := nI 1) d_MD_replay_106 c_iconst_1 ?_
        refine wp_ic_ne (tgt := 114) d_MD_replay_107 (by decide) (fun c4 => ?_) (fun c4 => ?_)
        · refine wp_iconst (v := nI 0) d_MD_replay_114 c_iconst_0 ?_
          refine wp_istore (ls' := [(0, .inr 7), (1, .inl (x1)), (2, .inl (x2)), (3, .inl (x3)), (4, .inl (x4)), (5, .inl (x5)), (6, .inl (x6)), (7, .inl ((ushr (x5) ((nI 3) + ((nI 5) * (x6)))) &&& (nI 15))), (8, .inl (nI 0))]) d_MD_replay_115 (by decide) rfl ?_
          refine wp_aload_n d_MD_replay_117 rfl ?_
          refine wp_iload d_MD_replay_118 rfl ?_
          refine wp_if_eq (tgt := 128) d_MD_replay_120 (by decide) (fun _ => ?_) (fun z => absurd z (by decide +kernel))
          refine wp_aload_n d_MD_replay_128 rfl ?_
          refine wp_iload_n d_MD_replay_129 rfl ?_
          refine wp_iconst (v := nI 1) d_MD_replay_130 c_iconst_1 ?_
          refine wp_iadd d_MD_replay_131 ?_
          refine wp_iload d_MD_replay_132 rfl ?_
          refine wp_iadd d_MD_replay_134 ?_
          refine wp_iconst (v := nI 0) d_MD_replay_135 c_iconst_0 ?_
          refine wp_callV (as := [.inl (((x3) + (nI 1)) + (x6)), .inl (nI 0)]) (rest := [.inr 7]) (Q' := fun r h' => WP l E M_MD_replay 139 [(0, .inr 7), (1, .inl (x1)), (2, .inl (x2)), (3, .inl (x3)), (4, .inl (x4)), (5, .inl (x5)), (6, .inl (x6)), (7, .inl ((ushr (x5) ((nI 3) + ((nI 5) * (x6)))) &&& (nI 15))), (8, .inl (nI 0))] (rpush r [.inr 7]) h' Q) d_MD_replay_136 vb_MD_replay_137 ⟨gw_3_190, sw_30⟩ rfl rfl rfl rfl (Nat.le_of_ble_eq_true rfl) rfl (Nat.le_of_ble_eq_true rfl) ?_ (fun r h' z => z)
          exact e3 c1 c2 c3 c4
        · refine wp_iconst (v := nI 1) d_MD_replay_110 c_iconst_1 ?_
          refine wp_goto (tgt := 115) d_MD_replay_111 (by decide) ?_
          refine wp_istore (ls' := [(0, .inr 7), (1, .inl (x1)), (2, .inl (x2)), (3, .inl (x3)), (4, .inl (x4)), (5, .inl (x5)), (6, .inl (x6)), (7, .inl ((ushr (x5) ((nI 3) + ((nI 5) * (x6)))) &&& (nI 15))), (8, .inl (nI 1))]) d_MD_replay_115 (by decide) rfl ?_
          refine wp_aload_n d_MD_replay_117 rfl ?_
          refine wp_iload d_MD_replay_118 rfl ?_
          refine wp_if_eq (tgt := 128) d_MD_replay_120 (by decide) (fun z => absurd z (by decide +kernel)) (fun _ => ?_)
          refine wp_ldcN d_MD_replay_123 gw_3_29 c_lit_77001 ?_
          refine wp_goto (tgt := 139) d_MD_replay_125 (by decide) ?_
          refine wp_aload_n d_MD_replay_139 rfl ?_
          refine wp_iload_n d_MD_replay_140 rfl ?_
          refine wp_iconst (v := nI 1) d_MD_replay_141 c_iconst_1 ?_
          refine wp_iadd d_MD_replay_142 ?_
          refine wp_iload d_MD_replay_143 rfl ?_
          refine wp_iadd d_MD_replay_145 ?_
          refine wp_iconst (v := nI 1) d_MD_replay_146 c_iconst_1 ?_
          refine wp_callV (as := [.inl (((x3) + (nI 1)) + (x6)), .inl (nI 1)]) (rest := [.inl (nI 77001), .inr 7]) (Q' := fun r h' => WP l E M_MD_replay 150 [(0, .inr 7), (1, .inl (x1)), (2, .inl (x2)), (3, .inl (x3)), (4, .inl (x4)), (5, .inl (x5)), (6, .inl (x6)), (7, .inl ((ushr (x5) ((nI 3) + ((nI 5) * (x6)))) &&& (nI 15))), (8, .inl (nI 1))] (rpush r [.inl (nI 77001), .inr 7]) h' Q) d_MD_replay_147 vb_MD_replay_137 ⟨gw_3_190, sw_30⟩ rfl rfl rfl rfl (Nat.le_of_ble_eq_true rfl) rfl (Nat.le_of_ble_eq_true rfl) ?_ (fun r h' z => z)
          exact e4 c1 c2 c3 c4
    · refine wp_aload_n d_MD_replay_77 rfl ?_
      refine wp_getR d_MD_replay_78 fl_MD_43 rfl rfl ?_
      refine wp_iload d_MD_replay_81 rfl ?_
      refine wp_iaload d_MD_replay_83 rfl (o2 c1 c2) ?_
      refine wp_iload d_MD_replay_84 rfl ?_
      refine wp_ic_gt (tgt := 185) d_MD_replay_86 (by decide) (fun c5 => ?_) (fun c5 => ?_)
      · refine wp_iinc (v := x6 + nI 1) (ls' := [(0, .inr 7), (1, .inl (x1)), (2, .inl (x2)), (3, .inl (x3)), (4, .inl (x4)), (5, .inl (x5)), (6, .inl (x6 + nI 1)), (7, .inl ((ushr (x5) ((nI 3) + ((nI 5) * (x6)))) &&& (nI 15)))]) d_MD_replay_185 rfl (c_inc_1 _) (by decide) rfl ?_
        refine wp_goto (tgt := 43) d_MD_replay_188 (by decide) ?_
        refine wp_sub (ls' := [(0, .inr 7), (1, .inl (x1)), (2, .inl (x2)), (3, .inl (x3)), (4, .inl (x4)), (5, .inl (x5)), (6, .inl (x6 + nI 1))]) [0, 1, 2, 3, 4, 5, 6] rfl ?_
        exact e5 c1 c2 c5
      · refine wp_iload_n d_MD_replay_89 rfl ?_
        refine wp_iload_n d_MD_replay_90 rfl ?_
        refine wp_ic_ne (tgt := 181) d_MD_replay_91 (by decide) (fun c6 => ?_) (fun c6 => ?_)
        · refine wp_iload_n d_MD_replay_181 rfl ?_
          refine wp_iconst (v := nI 1) d_MD_replay_182 c_iconst_1 ?_
          refine wp_iadd d_MD_replay_183 ?_
          refine wp_istore_n (ls' := [(0, .inr 7), (1, .inl (x1)), (2, .inl ((x2) + (nI 1))), (3, .inl (x3)), (4, .inl (x4)), (5, .inl (x5)), (6, .inl (x6)), (7, .inl ((ushr (x5) ((nI 3) + ((nI 5) * (x6)))) &&& (nI 15)))]) d_MD_replay_184 (by decide) rfl ?_
          refine wp_iinc (v := x6 + nI 1) (ls' := [(0, .inr 7), (1, .inl (x1)), (2, .inl ((x2) + (nI 1))), (3, .inl (x3)), (4, .inl (x4)), (5, .inl (x5)), (6, .inl (x6 + nI 1)), (7, .inl ((ushr (x5) ((nI 3) + ((nI 5) * (x6)))) &&& (nI 15)))]) d_MD_replay_185 rfl (c_inc_1 _) (by decide) rfl ?_
          refine wp_goto (tgt := 43) d_MD_replay_188 (by decide) ?_
          refine wp_sub (ls' := [(0, .inr 7), (1, .inl (x1)), (2, .inl ((x2) + (nI 1))), (3, .inl (x3)), (4, .inl (x4)), (5, .inl (x5)), (6, .inl (x6 + nI 1))]) [0, 1, 2, 3, 4, 5, 6] rfl ?_
          exact e6 c1 c2 c5 c6
        · refine wp_iload d_MD_replay_94 rfl ?_
          refine wp_bipush (v := nI 7) d_MD_replay_96 c_bipush_7 ?_
          refine wp_iconst (v := nI 5) d_MD_replay_98 c_iconst_5 ?_
          refine wp_iload d_MD_replay_99 rfl ?_
          refine wp_imul d_MD_replay_101 ?_
          refine wp_iadd d_MD_replay_102 ?_
          refine wp_iushr d_MD_replay_103 ?_
          refine wp_iconst (v := nI 1) d_MD_replay_104 c_iconst_1 ?_
          refine wp_iand d_MD_replay_105 ?_
          refine wp_iconst (v := nI 1) d_MD_replay_106 c_iconst_1 ?_
          refine wp_ic_ne (tgt := 114) d_MD_replay_107 (by decide) (fun c7 => ?_) (fun c7 => ?_)
          · refine wp_iconst (v := nI 0) d_MD_replay_114 c_iconst_0 ?_
            refine wp_istore (ls' := [(0, .inr 7), (1, .inl (x1)), (2, .inl (x2)), (3, .inl (x3)), (4, .inl (x4)), (5, .inl (x5)), (6, .inl (x6)), (7, .inl ((ushr (x5) ((nI 3) + ((nI 5) * (x6)))) &&& (nI 15))), (8, .inl (nI 0))]) d_MD_replay_115 (by decide) rfl ?_
            refine wp_aload_n d_MD_replay_117 rfl ?_
            refine wp_iload d_MD_replay_118 rfl ?_
            refine wp_if_eq (tgt := 128) d_MD_replay_120 (by decide) (fun _ => ?_) (fun z => absurd z (by decide +kernel))
            refine wp_aload_n d_MD_replay_128 rfl ?_
            refine wp_iload_n d_MD_replay_129 rfl ?_
            refine wp_iconst (v := nI 1) d_MD_replay_130 c_iconst_1 ?_
            refine wp_iadd d_MD_replay_131 ?_
            refine wp_iload d_MD_replay_132 rfl ?_
            refine wp_iadd d_MD_replay_134 ?_
            refine wp_iconst (v := nI 0) d_MD_replay_135 c_iconst_0 ?_
            refine wp_callV (as := [.inl (((x3) + (nI 1)) + (x6)), .inl (nI 0)]) (rest := [.inr 7]) (Q' := fun r h' => WP l E M_MD_replay 139 [(0, .inr 7), (1, .inl (x1)), (2, .inl (x2)), (3, .inl (x3)), (4, .inl (x4)), (5, .inl (x5)), (6, .inl (x6)), (7, .inl ((ushr (x5) ((nI 3) + ((nI 5) * (x6)))) &&& (nI 15))), (8, .inl (nI 0))] (rpush r [.inr 7]) h' Q) d_MD_replay_136 vb_MD_replay_137 ⟨gw_3_190, sw_30⟩ rfl rfl rfl rfl (Nat.le_of_ble_eq_true rfl) rfl (Nat.le_of_ble_eq_true rfl) ?_ (fun r h' z => z)
            exact e7 c1 c2 c5 c6 c7
          · refine wp_iconst (v := nI 1) d_MD_replay_110 c_iconst_1 ?_
            refine wp_goto (tgt := 115) d_MD_replay_111 (by decide) ?_
            refine wp_istore (ls' := [(0, .inr 7), (1, .inl (x1)), (2, .inl (x2)), (3, .inl (x3)), (4, .inl (x4)), (5, .inl (x5)), (6, .inl (x6)), (7, .inl ((ushr (x5) ((nI 3) + ((nI 5) * (x6)))) &&& (nI 15))), (8, .inl (nI 1))]) d_MD_replay_115 (by decide) rfl ?_
            refine wp_aload_n d_MD_replay_117 rfl ?_
            refine wp_iload d_MD_replay_118 rfl ?_
            refine wp_if_eq (tgt := 128) d_MD_replay_120 (by decide) (fun z => absurd z (by decide +kernel)) (fun _ => ?_)
            refine wp_ldcN d_MD_replay_123 gw_3_29 c_lit_77001 ?_
            refine wp_goto (tgt := 139) d_MD_replay_125 (by decide) ?_
            refine wp_aload_n d_MD_replay_139 rfl ?_
            refine wp_iload_n d_MD_replay_140 rfl ?_
            refine wp_iconst (v := nI 1) d_MD_replay_141 c_iconst_1 ?_
            refine wp_iadd d_MD_replay_142 ?_
            refine wp_iload d_MD_replay_143 rfl ?_
            refine wp_iadd d_MD_replay_145 ?_
            refine wp_iconst (v := nI 1) d_MD_replay_146 c_iconst_1 ?_
            refine wp_callV (as := [.inl (((x3) + (nI 1)) + (x6)), .inl (nI 1)]) (rest := [.inl (nI 77001), .inr 7]) (Q' := fun r h' => WP l E M_MD_replay 150 [(0, .inr 7), (1, .inl (x1)), (2, .inl (x2)), (3, .inl (x3)), (4, .inl (x4)), (5, .inl (x5)), (6, .inl (x6)), (7, .inl ((ushr (x5) ((nI 3) + ((nI 5) * (x6)))) &&& (nI 15))), (8, .inl (nI 1))] (rpush r [.inl (nI 77001), .inr 7]) h' Q) d_MD_replay_147 vb_MD_replay_137 ⟨gw_3_190, sw_30⟩ rfl rfl rfl rfl (Nat.le_of_ble_eq_true rfl) rfl (Nat.le_of_ble_eq_true rfl) ?_ (fun r h' z => z)
            exact e8 c1 c2 c5 c6 c7
