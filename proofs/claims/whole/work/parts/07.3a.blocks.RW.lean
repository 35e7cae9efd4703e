set_option maxRecDepth 100000 in
set_option maxHeartbeats 4000000 in
theorem k_RW_build_0 {l : Launch} {E : xE} {x2 x3 : Int32} {h : xh} {Q : Option Int32 → xh → Prop}
    (e1 : WP l E M_RW_build 16 [(0, .inr 4), (1, .inr 2), (2, .inl (x2)), (3, .inl (x3)), (4, .inl (nI 0)), (5, .inl (nI 0))] [] (hw (hw h 4 2 (nI 0)) 4 3 (x3)) Q) : MC l E M_RW_build [.inr 4, .inr 2, .inl (x2), .inl (x3)] h Q := by
  refine wp_aload_n d_RW_build_0 rfl ?_
  refine wp_iconst (v := nI 0) d_RW_build_1 c_iconst_0 ?_
  refine wp_putI d_RW_build_2 fm_RW_18 rfl rfl ?_
  refine wp_aload_n d_RW_build_5 rfl ?_
  refine wp_iload_n d_RW_build_6 rfl ?_
  refine wp_putI d_RW_build_7 fm_RW_22 rfl rfl ?_
  refine wp_iconst (v := nI 0) d_RW_build_10 c_iconst_0 ?_
  refine wp_istore (ls' := [(0, .inr 4), (1, .inr 2), (2, .inl (x2)), (3, .inl (x3)), (4, .inl (nI 0))]) d_RW_build_11 (by decide) rfl ?_
  refine wp_iconst (v := nI 0) d_RW_build_13 c_iconst_0 ?_
  refine wp_istore (ls' := [(0, .inr 4), (1, .inr 2), (2, .inl (x2)), (3, .inl (x3)), (4, .inl (nI 0)), (5, .inl (nI 0))]) d_RW_build_14 (by decide) rfl ?_
  exact e1
set_option maxRecDepth 100000 in
set_option maxHeartbeats 4000000 in
theorem k_RW_build_16 {l : Launch} {E : xE} {x2 x3 x4 x5 : Int32} {h : xh} {Q : Option Int32 → xh → Prop}
    (e1 : (nI 16) ≤ x5 → x4 ≤ 0 → x2 = 0 → MC l E M_RW_add [.inr 4, .inl (nI 77001), .inl (nI 3), .inl (x3), .inl (h 4 3)] h (fun r h' => WP l E M_RW_build 105 [(0, .inr 4), (1, .inr 2), (2, .inl (x2)), (3, .inl (x3)), (4, .inl (x4)), (5, .inl (x5))] (rpush r []) h' Q))
    (e2 : (nI 16) ≤ x5 → x4 ≤ 0 → ¬ x2 = 0 → MC l E M_RW_add [.inr 4, .inl (nI 77001), .inl (nI 2), .inl (x3), .inl (x2)] h (fun r h' => WP l E M_RW_build 93 [(0, .inr 4), (1, .inr 2), (2, .inl (x2)), (3, .inl (x3)), (4, .inl (x4)), (5, .inl (x5))] (rpush r []) h' Q))
    (e3 : (nI 16) ≤ x5 → ¬ x4 ≤ 0 → MC l E M_RW_addGroup [.inr 4, .inr 2, .inl (x4), .inl (x3)] h (fun r h' => WP l E M_RW_build 80 [(0, .inr 4), (1, .inr 2), (2, .inl (x2)), (3, .inl (x3)), (4, .inl (x4)), (5, .inl (x5))] (rpush r []) h' Q))
    (o1 : ¬ (nI 16) ≤ x5 → vp_in (x5) 16)
    (o2 : ¬ (nI 16) ≤ x5 → h 11 ((x5).toNatClampNeg) = 0 ∨ h 11 ((x5).toNatClampNeg) = 1)
    (e4 : ¬ (nI 16) ≤ x5 → (h 11 ((x5).toNatClampNeg)) = 0 → x4 ≠ (nI 4) → WP l E M_RW_build 16 [(0, .inr 4), (1, .inr 2), (2, .inl (x2)), (3, .inl (x3)), (4, .inl (x4)), (5, .inl (x5 + nI 1))] [] h Q)
    (e5 : ¬ (nI 16) ≤ x5 → (h 11 ((x5).toNatClampNeg)) = 0 → x4 = (nI 4) → MC l E M_RW_addGroup [.inr 4, .inr 2, .inl (x4), .inl (x3)] h (fun r h' => WP l E M_RW_build 58 [(0, .inr 4), (1, .inr 2), (2, .inl (x2)), (3, .inl (x3)), (4, .inl (x4)), (5, .inl (x5))] (rpush r []) h' Q))
    (o3 : ¬ (nI 16) ≤ x5 → ¬ (h 11 ((x5).toNatClampNeg)) = 0 → vp_in (x4) 4)
    (e6 : ¬ (nI 16) ≤ x5 → ¬ (h 11 ((x5).toNatClampNeg)) = 0 → (x4 + nI 1) ≠ (nI 4) → WP l E M_RW_build 16 [(0, .inr 4), (1, .inr 2), (2, .inl (x2)), (3, .inl (x3)), (4, .inl (x4 + nI 1)), (5, .inl (x5 + nI 1))] [] (hw h 16 ((x4).toNatClampNeg) (x5)) Q)
    (e7 : ¬ (nI 16) ≤ x5 → ¬ (h 11 ((x5).toNatClampNeg)) = 0 → (x4 + nI 1) = (nI 4) → MC l E M_RW_addGroup [.inr 4, .inr 2, .inl (x4 + nI 1), .inl (x3)] (hw h 16 ((x4).toNatClampNeg) (x5)) (fun r h' => WP l E M_RW_build 58 [(0, .inr 4), (1, .inr 2), (2, .inl (x2)), (3, .inl (x3)), (4, .inl (x4 + nI 1)), (5, .inl (x5))] (rpush r []) h' Q)) : WP l E M_RW_build 16 [(0, .inr 4), (1, .inr 2), (2, .inl (x2)), (3, .inl (x3)), (4, .inl (x4)), (5, .inl (x5))] [] h Q := by
  refine wp_iload d_RW_build_16 rfl ?_
  refine wp_bipush (v := nI 16) d_RW_build_18 c_bipush_16 ?_
  refine wp_ic_ge (tgt := 67) d_RW_build_20 (by decide) (fun c1 => ?_) (fun c1 => ?_)
  · refine wp_iload d_RW_build_67 rfl ?_
    refine wp_if_le (tgt := 80) d_RW_build_69 (by decide) (fun c2 => ?_) (fun c2 => ?_)
    · refine wp_iload_n d_RW_build_80 rfl ?_
      refine wp_if_eq (tgt := 93) d_RW_build_81 (by decide) (fun c3 => ?_) (fun c3 => ?_)
      · refine wp_aload_n d_RW_build_93 rfl ?_
        refine wp_ldcN d_RW_build_94 gw_2_35 c_lit_77001 ?_
        refine wp_iconst (v := nI 3) d_RW_build_96 c_iconst_3 ?_
        refine wp_iload_n d_RW_build_97 rfl ?_
        refine wp_aload_n d_RW_build_98 rfl ?_
        refine wp_getI d_RW_build_99 fl_RW_22 rfl rfl ?_
        refine wp_callV (as := [.inl (nI 77001), .inl (nI 3), .inl (x3), .inl (h 4 3)]) (rest := []) (Q' := fun r h' => WP l E M_RW_build 105 [(0, .inr 4), (1, .inr 2), (2, .inl (x2)), (3, .inl (x3)), (4, .inl (x4)), (5, .inl (x5))] (rpush r []) h' Q) d_RW_build_102 vb_RW_build_36 ⟨gw_2_38, sw_5⟩ rfl rfl rfl rfl (Nat.le_of_ble_eq_true rfl) rfl (Nat.le_of_ble_eq_true rfl) ?_ (fun r h' z => z)
        exact e1 c1 c2 c3
      · refine wp_aload_n d_RW_build_84 rfl ?_
        refine wp_ldcN d_RW_build_85 gw_2_35 c_lit_77001 ?_
        refine wp_iconst (v := nI 2) d_RW_build_87 c_iconst_2 ?_
        refine wp_iload_n d_RW_build_88 rfl ?_
        refine wp_iload_n d_RW_build_89 rfl ?_
        refine wp_callV (as := [.inl (nI 77001), .inl (nI 2), .inl (x3), .inl (x2)]) (rest := []) (Q' := fun r h' => WP l E M_RW_build 93 [(0, .inr 4), (1, .inr 2), (2, .inl (x2)), (3, .inl (x3)), (4, .inl (x4)), (5, .inl (x5))] (rpush r []) h' Q) d_RW_build_90 vb_RW_build_36 ⟨gw_2_38, sw_5⟩ rfl rfl rfl rfl (Nat.le_of_ble_eq_true rfl) rfl (Nat.le_of_ble_eq_true rfl) ?_ (fun r h' z => z)
        exact e2 c1 c2 c3
    · refine wp_aload_n d_RW_build_72 rfl ?_
      refine wp_aload_n d_RW_build_73 rfl ?_
      refine wp_iload d_RW_build_74 rfl ?_
      refine wp_iload_n d_RW_build_76 rfl ?_
      refine wp_callV (as := [.inr 2, .inl (x4), .inl (x3)]) (rest := []) (Q' := fun r h' => WP l E M_RW_build 80 [(0, .inr 4), (1, .inr 2), (2, .inl (x2)), (3, .inl (x3)), (4, .inl (x4)), (5, .inl (x5))] (rpush r []) h' Q) d_RW_build_77 vb_RW_build_31 ⟨gw_2_32, sw_4⟩ rfl rfl rfl rfl (Nat.le_of_ble_eq_true rfl) rfl (Nat.le_of_ble_eq_true rfl) ?_ (fun r h' z => z)
      exact e3 c1 c2
  · refine wp_aload_n d_RW_build_23 rfl ?_
    refine wp_iload d_RW_build_24 rfl ?_
    refine wp_callV (as := [.inl (x5)]) (rest := []) (Q' := fun r h' => WP l E M_RW_build 29 [(0, .inr 4), (1, .inr 2), (2, .inl (x2)), (3, .inl (x3)), (4, .inl (x4)), (5, .inl (x5))] (rpush r []) h' _) d_RW_build_26 vb_RW_build_25 ⟨gw_1_205, gw_1_206⟩ rfl rfl rfl rfl (Nat.le_of_ble_eq_true rfl) rfl (Nat.le_of_ble_eq_true rfl) ?_ (fun r h' z => z)
    show WP l E M_IM_holds 0 [(0, .inr 2), (1, .inl (x5))] [] h _
    refine wp_aload_n d_IM_holds_0 rfl ?_
    refine wp_getR d_IM_holds_1 fl_IM_9 rfl rfl ?_
    refine wp_iload_n d_IM_holds_4 rfl ?_
    refine wp_baload d_IM_holds_5 rfl (o1 c1) ?_
    refine wp_zreturn d_IM_holds_6 rfl (o2 c1) ?_
    show WP l E M_RW_build 29 [(0, .inr 4), (1, .inr 2), (2, .inl (x2)), (3, .inl (x3)), (4, .inl (x4)), (5, .inl (x5))] [.inl (h 11 ((x5).toNatClampNeg))] h _
    refine wp_if_eq (tgt := 44) d_RW_build_29 (by decide) (fun c4 => ?_) (fun c4 => ?_)
    · refine wp_iload d_RW_build_44 rfl ?_
      refine wp_iconst (v := nI 4) d_RW_build_46 c_iconst_4 ?_
      refine wp_ic_ne (tgt := 61) d_RW_build_47 (by decide) (fun c5 => ?_) (fun c5 => ?_)
      · refine wp_iinc (v := x5 + nI 1) (ls' := [(0, .inr 4), (1, .inr 2), (2, .inl (x2)), (3, .inl (x3)), (4, .inl (x4)), (5, .inl (x5 + nI 1))]) d_RW_build_61 rfl (c_inc_1 _) (by decide) rfl ?_
        refine wp_goto (tgt := 16) d_RW_build_64 (by decide) ?_
        exact e4 c1 c4 c5
      · refine wp_aload_n d_RW_build_50 rfl ?_
        refine wp_aload_n d_RW_build_51 rfl ?_
        refine wp_iload d_RW_build_52 rfl ?_
        refine wp_iload_n d_RW_build_54 rfl ?_
        refine wp_callV (as := [.inr 2, .inl (x4), .inl (x3)]) (rest := []) (Q' := fun r h' => WP l E M_RW_build 58 [(0, .inr 4), (1, .inr 2), (2, .inl (x2)), (3, .inl (x3)), (4, .inl (x4)), (5, .inl (x5))] (rpush r []) h' Q) d_RW_build_55 vb_RW_build_31 ⟨gw_2_32, sw_4⟩ rfl rfl rfl rfl (Nat.le_of_ble_eq_true rfl) rfl (Nat.le_of_ble_eq_true rfl) ?_ (fun r h' z => z)
        exact e5 c1 c4 c5
    · refine wp_aload_n d_RW_build_32 rfl ?_
      refine wp_getR d_RW_build_33 fl_RW_15 rfl rfl ?_
      refine wp_iload d_RW_build_36 rfl ?_
      refine wp_iload d_RW_build_38 rfl ?_
      refine wp_iastore d_RW_build_40 rfl (o3 c1 c4) ?_
      refine wp_iinc (v := x4 + nI 1) (ls' := [(0, .inr 4), (1, .inr 2), (2, .inl (x2)), (3, .inl (x3)), (4, .inl (x4 + nI 1)), (5, .inl (x5))]) d_RW_build_41 rfl (c_inc_1 _) (by decide) rfl ?_
      refine wp_iload d_RW_build_44 rfl ?_
      refine wp_iconst (v := nI 4) d_RW_build_46 c_iconst_4 ?_
      refine wp_ic_ne (tgt := 61) d_RW_build_47 (by decide) (fun c6 => ?_) (fun c6 => ?_)
      · refine wp_iinc (v := x5 + nI 1) (ls' := [(0, .inr 4), (1, .inr 2), (2, .inl (x2)), (3, .inl (x3)), (4, .inl (x4 + nI 1)), (5, .inl (x5 + nI 1))]) d_RW_build_61 rfl (c_inc_1 _) (by decide) rfl ?_
        refine wp_goto (tgt := 16) d_RW_build_64 (by decide) ?_
        exact e6 c1 c4 c6
      · refine wp_aload_n d_RW_build_50 rfl ?_
        refine wp_aload_n d_RW_build_51 rfl ?_
        refine wp_iload d_RW_build_52 rfl ?_
        refine wp_iload_n d_RW_build_54 rfl ?_
        refine wp_callV (as := [.inr 2, .inl (x4 + nI 1), .inl (x3)]) (rest := []) (Q' := fun r h' => WP l E M_RW_build 58 [(0, .inr 4), (1, .inr 2), (2, .inl (x2)), (3, .inl (x3)), (4, .inl (x4 + nI 1)), (5, .inl (x5))] (rpush r []) h' Q) d_RW_build_55 vb_RW_build_31 ⟨gw_2_32, sw_4⟩ rfl rfl rfl rfl (Nat.le_of_ble_eq_true rfl) rfl (Nat.le_of_ble_eq_true rfl) ?_ (fun r h' z => z)
        exact e7 c1 c4 c6
set_option maxRecDepth 100000 in
set_option maxHeartbeats 4000000 in
theorem k_RW_build_105 {l : Launch} {E : xE} {x2 x3 x4 x5 : Int32} {h : xh} {Q : Option Int32 → xh → Prop}
    (e1 : Q none h) : WP l E M_RW_build 105 [(0, .inr 4), (1, .inr 2), (2, .inl (x2)), (3, .inl (x3)), (4, .inl (x4)), (5, .inl (x5))] [] h Q := by
  refine wp_return d_RW_build_105 rfl ?_
  exact e1
set_option maxRecDepth 100000 in
set_option maxHeartbeats 4000000 in
theorem k_RW_build_93 {l : Launch} {E : xE} {x2 x3 x4 x5 : Int32} {h : xh} {Q : Option Int32 → xh → Prop}
    (e1 : MC l E M_RW_add [.inr 4, .inl (nI 77001), .inl (nI 3), .inl (x3), .inl (h 4 3)] h (fun r h' => WP l E M_RW_build 105 [(0, .inr 4), (1, .inr 2), (2, .inl (x2)), (3, .inl (x3)), (4, .inl (x4)), (5, .inl (x5))] (rpush r []) h' Q)) : WP l E M_RW_build 93 [(0, .inr 4), (1, .inr 2), (2, .inl (x2)), (3, .inl (x3)), (4, .inl (x4)), (5, .inl (x5))] [] h Q := by
  refine wp_aload_n d_RW_build_93 rfl ?_
  refine wp_ldcN d_RW_build_94 gw_2_35 c_lit_77001 ?_
  refine wp_iconst (v := nI 3) d_RW_build_96 c_iconst_3 ?_
  refine wp_iload_n d_RW_build_97 rfl ?_
  refine wp_aload_n d_RW_build_98 rfl ?_
  refine wp_getI d_RW_build_99 fl_RW_22 rfl rfl ?_
  refine wp_callV (as := [.inl (nI 77001), .inl (nI 3), .inl (x3), .inl (h 4 3)]) (rest := []) (Q' := fun r h' => WP l E M_RW_build 105 [(0, .inr 4), (1, .inr 2), (2, .inl (x2)), (3, .inl (x3)), (4, .inl (x4)), (5, .inl (x5))] (rpush r []) h' Q) d_RW_build_102 vb_RW_build_36 ⟨gw_2_38, sw_5⟩ rfl rfl rfl rfl (Nat.le_of_ble_eq_true rfl) rfl (Nat.le_of_ble_eq_true rfl) ?_ (fun r h' z => z)
  exact e1
set_option maxRecDepth 100000 in
set_option maxHeartbeats 4000000 in
theorem k_RW_build_80 {l : Launch} {E : xE} {x2 x3 x4 x5 : Int32} {h : xh} {Q : Option Int32 → xh → Prop}
    (e1 : x2 = 0 → MC l E M_RW_add [.inr 4, .inl (nI 77001), .inl (nI 3), .inl (x3), .inl (h 4 3)] h (fun r h' => WP l E M_RW_build 105 [(0, .inr 4), (1, .inr 2), (2, .inl (x2)), (3, .inl (x3)), (4, .inl (x4)), (5, .inl (x5))] (rpush r []) h' Q))
    (e2 : ¬ x2 = 0 → MC l E M_RW_add [.inr 4, .inl (nI 77001), .inl (nI 2), .inl (x3), .inl (x2)] h (fun r h' => WP l E M_RW_build 93 [(0, .inr 4), (1, .inr 2), (2, .inl (x2)), (3, .inl (x3)), (4, .inl (x4)), (5, .inl (x5))] (rpush r []) h' Q)) : WP l E M_RW_build 80 [(0, .inr 4), (1, .inr 2), (2, .inl (x2)), (3, .inl (x3)), (4, .inl (x4)), (5, .inl (x5))] [] h Q := by
  refine wp_iload_n d_RW_build_80 rfl ?_
  refine wp_if_eq (tgt := 93) d_RW_build_81 (by decide) (fun c1 => ?_) (fun c1 => ?_)
  · refine wp_aload_n d_RW_build_93 rfl ?_
    refine wp_ldcN d_RW_build_94 gw_2_35 c_lit_77001 ?_
    refine wp_iconst (v := nI 3) d_RW_build_96 c_iconst_3 ?_
    refine wp_iload_n d_RW_build_97 rfl ?_
    refine wp_aload_n d_RW_build_98 rfl ?_
    refine wp_getI d_RW_build_99 fl_RW_22 rfl rfl ?_
    refine wp_callV (as := [.inl (nI 77001), .inl (nI 3), .inl (x3), .inl (h 4 3)]) (rest := []) (Q' := fun r h' => WP l E M_RW_build 105 [(0, .inr 4), (1, .inr 2), (2, .inl (x2)), (3, .inl (x3)), (4, .inl (x4)), (5, .inl (x5))] (rpush r []) h' Q) d_RW_build_102 vb_RW_build_36 ⟨gw_2_38, sw_5⟩ rfl rfl rfl rfl (Nat.le_of_ble_eq_true rfl) rfl (Nat.le_of_ble_eq_true rfl) ?_ (fun r h' z => z)
    exact e1 c1
  · refine wp_aload_n d_RW_build_84 rfl ?_
    refine wp_ldcN d_RW_build_85 gw_2_35 c_lit_77001 ?_
    refine wp_iconst (v := nI 2) d_RW_build_87 c_iconst_2 ?_
    refine wp_iload_n d_RW_build_88 rfl ?_
    refine wp_iload_n d_RW_build_89 rfl ?_
    refine wp_callV (as := [.inl (nI 77001), .inl (nI 2), .inl (x3), .inl (x2)]) (rest := []) (Q' := fun r h' => WP l E M_RW_build 93 [(0, .inr 4), (1, .inr 2), (2, .inl (x2)), (3, .inl (x3)), (4, .inl (x4)), (5, .inl (x5))] (rpush r []) h' Q) d_RW_build_90 vb_RW_build_36 ⟨gw_2_38, sw_5⟩ rfl rfl rfl rfl (Nat.le_of_ble_eq_true rfl) rfl (Nat.le_of_ble_eq_true rfl) ?_ (fun r h' z => z)
    exact e2 c1
set_option maxRecDepth 100000 in
set_option maxHeartbeats 4000000 in
theorem k_RW_build_58 {l : Launch} {E : xE} {x2 x3 x4 x5 : Int32} {h : xh} {Q : Option Int32 → xh → Prop}
    (e1 : WP l E M_RW_build 16 [(0, .inr 4), (1, .inr 2), (2, .inl (x2)), (3, .inl (x3)), (4, .inl (nI 0)), (5, .inl (x5 + nI 1))] [] h Q) : WP l E M_RW_build 58 [(0, .inr 4), (1, .inr 2), (2, .inl (x2)), (3, .inl (x3)), (4, .inl (x4)), (5, .inl (x5))] [] h Q := by
  refine wp_iconst (v := nI 0) d_RW_build_58 c_iconst_0 ?_
  refine wp_istore (ls' := [(0, .inr 4), (1, .inr 2), (2, .inl (x2)), (3, .inl (x3)), (4, .inl (nI 0)), (5, .inl (x5))]) d_RW_build_59 (by decide) rfl ?_
  refine wp_iinc (v := x5 + nI 1) (ls' := [(0, .inr 4), (1, .inr 2), (2, .inl (x2)), (3, .inl (x3)), (4, .inl (nI 0)), (5, .inl (x5 + nI 1))]) d_RW_build_61 rfl (c_inc_1 _) (by decide) rfl ?_
  refine wp_goto (tgt := 16) d_RW_build_64 (by decide) ?_
  exact e1
set_option maxRecDepth 100000 in
set_option maxHeartbeats 4000000 in
theorem k_RW_addGroup_0 {l : Launch} {E : xE} {x2 x3 : Int32} {h : xh} {Q : Option Int32 → xh → Prop}
    (e1 : WP l E M_RW_addGroup 6 [(0, .inr 4), (1, .inr 2), (2, .inl (x2)), (3, .inl (x3)), (4, .inl (x2)), (5, .inl (nI 0))] [] h Q) : MC l E M_RW_addGroup [.inr 4, .inr 2, .inl (x2), .inl (x3)] h Q := by
  refine wp_iload_n d_RW_addGroup_0 rfl ?_
  refine wp_istore (ls' := [(0, .inr 4), (1, .inr 2), (2, .inl (x2)), (3, .inl (x3)), (4, .inl (x2))]) d_RW_addGroup_1 (by decide) rfl ?_
  refine wp_iconst (v := nI 0) d_RW_addGroup_3 c_iconst_0 ?_
  refine wp_istore (ls' := [(0, .inr 4), (1, .inr 2), (2, .inl (x2)), (3, .inl (x3)), (4, .inl (x2)), (5, .inl (nI 0))]) d_RW_addGroup_4 (by decide) rfl ?_
  exact e1
set_option maxRecDepth 100000 in
set_option maxHeartbeats 4000000 in
theorem k_RW_addGroup_6 {l : Launch} {E : xE} {x2 x3 x4 x5 : Int32} {h : xh} {Q : Option Int32 → xh → Prop}
    (e1 : x2 ≤ x5 → MC l E M_RW_add [.inr 4, .inl (nI 77001), .inl (nI 1), .inl (x3), .inl (x4)] h (fun r h' => WP l E M_RW_addGroup 75 [(0, .inr 4), (1, .inr 2), (2, .inl (x2)), (3, .inl (x3)), (4, .inl (x4)), (5, .inl (x5))] (rpush r []) h' Q))
    (o1 : ¬ x2 ≤ x5 → vp_in (x5) 4)
    (o2 : ¬ x2 ≤ x5 → vp_in (((h 16 ((x5).toNatClampNeg)) * (nI 4)) + (nI 0)) 64)
    (o3 : ¬ x2 ≤ x5 → (h 12 ((((h 16 ((x5).toNatClampNeg)) * (nI 4)) + (nI 0)).toNatClampNeg)) ≠ (nI 77001) → vp_in (x5) 4)
    (e2 : ¬ x2 ≤ x5 → (h 12 ((((h 16 ((x5).toNatClampNeg)) * (nI 4)) + (nI 0)).toNatClampNeg)) ≠ (nI 77001) → WP l E M_RW_addGroup 6 [(0, .inr 4), (1, .inr 2), (2, .inl (x2)), (3, .inl (x3)), (4, .inl ((x4) + (((h 16 ((x5).toNatClampNeg)) + (nI 0)) <<< (((nI 3) + ((nI 5) * (x5))) &&& 31)))), (5, .inl (x5 + nI 1))] [] h Q)
    (o4 : ¬ x2 ≤ x5 → (h 12 ((((h 16 ((x5).toNatClampNeg)) * (nI 4)) + (nI 0)).toNatClampNeg)) = (nI 77001) → vp_in (x5) 4)
    (e3 : ¬ x2 ≤ x5 → (h 12 ((((h 16 ((x5).toNatClampNeg)) * (nI 4)) + (nI 0)).toNatClampNeg)) = (nI 77001) → WP l E M_RW_addGroup 6 [(0, .inr 4), (1, .inr 2), (2, .inl (x2)), (3, .inl (x3)), (4, .inl ((x4) + (((h 16 ((x5).toNatClampNeg)) + (nI 16)) <<< (((nI 3) + ((nI 5) * (x5))) &&& 31)))), (5, .inl (x5 + nI 1))] [] h Q) : WP l E M_RW_addGroup 6 [(0, .inr 4), (1, .inr 2), (2, .inl (x2)), (3, .inl (x3)), (4, .inl (x4)), (5, .inl (x5))] [] h Q := by
  refine wp_iload d_RW_addGroup_6 rfl ?_
  refine wp_iload_n d_RW_addGroup_8 rfl ?_
  refine wp_ic_ge (tgt := 65) d_RW_addGroup_9 (by decide) (fun c1 => ?_) (fun c1 => ?_)
  · refine wp_aload_n d_RW_addGroup_65 rfl ?_
    refine wp_ldcN d_RW_addGroup_66 gw_2_35 c_lit_77001 ?_
    refine wp_iconst (v := nI 1) d_RW_addGroup_68 c_iconst_1 ?_
    refine wp_iload_n d_RW_addGroup_69 rfl ?_
    refine wp_iload d_RW_addGroup_70 rfl ?_
    refine wp_callV (as := [.inl (nI 77001), .inl (nI 1), .inl (x3), .inl (x4)]) (rest := []) (Q' := fun r h' => WP l E M_RW_addGroup 75 [(0, .inr 4), (1, .inr 2), (2, .inl (x2)), (3, .inl (x3)), (4, .inl (x4)), (5, .inl (x5))] (rpush r []) h' Q) d_RW_addGroup_72 vb_RW_addGroup_36 ⟨gw_2_38, sw_5⟩ rfl rfl rfl rfl (Nat.le_of_ble_eq_true rfl) rfl (Nat.le_of_ble_eq_true rfl) ?_ (fun r h' z => z)
    exact e1 c1
  · refine wp_aload_n d_RW_addGroup_12 rfl ?_
    refine wp_aload_n d_RW_addGroup_13 rfl ?_
    refine wp_getR d_RW_addGroup_14 fl_RW_15 rfl rfl ?_
    refine wp_iload d_RW_addGroup_17 rfl ?_
    refine wp_iaload d_RW_addGroup_19 rfl (o1 c1) ?_
    refine wp_iconst (v := nI 0) d_RW_addGroup_20 c_iconst_0 ?_
    refine wp_callV (as := [.inl (h 16 ((x5).toNatClampNeg)), .inl (nI 0)]) (rest := []) (Q' := fun r h' => WP l E M_RW_addGroup 24 [(0, .inr 4), (1, .inr 2), (2, .inl (x2)), (3, .inl (x3)), (4, .inl (x4)), (5, .inl (x5))] (rpush r []) h' _) d_RW_addGroup_21 vb_RW_addGroup_40 ⟨gw_1_221, gw_1_222⟩ rfl rfl rfl rfl (Nat.le_of_ble_eq_true rfl) rfl (Nat.le_of_ble_eq_true rfl) ?_ (fun r h' z => z)
    show WP l E M_IM_word 0 [(0, .inr 2), (1, .inl (h 16 ((x5).toNatClampNeg))), (2, .inl (nI 0))] [] h _
    refine wp_aload_n d_IM_word_0 rfl ?_
    refine wp_getR d_IM_word_1 fl_IM_15 rfl rfl ?_
    refine wp_iload_n d_IM_word_4 rfl ?_
    refine wp_iconst (v := nI 4) d_IM_word_5 c_iconst_4 ?_
    refine wp_imul d_IM_word_6 ?_
    refine wp_iload_n d_IM_word_7 rfl ?_
    refine wp_iadd d_IM_word_8 ?_
    refine wp_iaload d_IM_word_9 rfl (o2 c1) ?_
    refine wp_ireturn d_IM_word_10 rfl ?_
    show WP l E M_RW_addGroup 24 [(0, .inr 4), (1, .inr 2), (2, .inl (x2)), (3, .inl (x3)), (4, .inl (x4)), (5, .inl (x5))] [.inl (h 12 ((((h 16 ((x5).toNatClampNeg)) * (nI 4)) + (nI 0)).toNatClampNeg))] h _
    refine wp_ldcN d_RW_addGroup_24 gw_2_35 c_lit_77001 ?_
    refine wp_ic_ne (tgt := 34) d_RW_addGroup_26 (by decide) (fun c2 => ?_) (fun c2 => ?_)
    · refine wp_iconst (v := nI 0) d_RW_addGroup_34 c_iconst_0 ?_
      refine wp_istore (ls' := [(0, .inr 4), (1, .inr 2), (2, .inl (x2)), (3, .inl (x3)), (4, .inl (x4)), (5, .inl (x5)), (6, .inl (nI 0))]) d_RW_addGroup_35 (by decide) rfl ?_
      refine wp_iload d_RW_addGroup_37 rfl ?_
      refine wp_aload_n d_RW_addGroup_39 rfl ?_
      refine wp_getR d_RW_addGroup_40 fl_RW_15 rfl rfl ?_
      refine wp_iload d_RW_addGroup_43 rfl ?_
      refine wp_iaload d_RW_addGroup_45 rfl (o3 c1 c2) ?_
      refine wp_iload d_RW_addGroup_46 rfl ?_
      refine wp_iadd d_RW_addGroup_48 ?_
      refine wp_iconst (v := nI 3) d_RW_addGroup_49 c_iconst_3 ?_
      refine wp_iconst (v := nI 5) d_RW_addGroup_50 c_iconst_5 ?_
      refine wp_iload d_RW_addGroup_51 rfl ?_
      refine wp_imul d_RW_addGroup_53 ?_
      refine wp_iadd d_RW_addGroup_54 ?_
      refine wp_ishl d_RW_addGroup_55 ?_
      refine wp_iadd d_RW_addGroup_56 ?_
      refine wp_istore (ls' := [(0, .inr 4), (1, .inr 2), (2, .inl (x2)), (3, .inl (x3)), (4, .inl ((x4) + (((h 16 ((x5).toNatClampNeg)) + (nI 0)) <<< (((nI 3) + ((nI 5) * (x5))) &&& 31)))), (5, .inl (x5)), (6, .inl (nI 0))]) d_RW_addGroup_57 (by decide) rfl ?_
      refine wp_iinc (v := x5 + nI 1) (ls' := [(0, .inr 4), (1, .inr 2), (2, .inl (x2)), (3, .inl (x3)), (4, .inl ((x4) + (((h 16 ((x5).toNatClampNeg)) + (nI 0)) <<< (((nI 3) + ((nI 5) * (x5))) &&& 31)))), (5, .inl (x5 + nI 1)), (6, .inl (nI 0))]) d_RW_addGroup_59 rfl (c_inc_1 _) (by decide) rfl ?_
      refine wp_goto (tgt := 6) d_RW_addGroup_62 (by decide) ?_
      refine wp_sub (ls' := [(0, .inr 4), (1, .inr 2), (2, .inl (x2)), (3, .inl (x3)), (4, .inl ((x4) + (((h 16 ((x5).toNatClampNeg)) + (nI 0)) <<< (((nI 3) + ((nI 5) * (x5))) &&& 31)))), (5, .inl (x5 + nI 1))]) [0, 1, 2, 3, 4, 5] rfl ?_
      exact e2 c1 c2
    · refine wp_bipush (v := nI 16) d_RW_addGroup_29 c_bipush_16 ?_
      refine wp_goto (tgt := 35) d_RW_addGroup_31 (by decide) ?_
      refine wp_istore (ls' := [(0, .inr 4), (1, .inr 2), (2, .inl (x2)), (3, .inl (x3)), (4, .inl (x4)), (5, .inl (x5)), (6, .inl (nI 16))]) d_RW_addGroup_35 (by decide) rfl ?_
      refine wp_iload d_RW_addGroup_37 rfl ?_
      refine wp_aload_n d_RW_addGroup_39 rfl ?_
      refine wp_getR d_RW_addGroup_40 fl_RW_15 rfl rfl ?_
      refine wp_iload d_RW_addGroup_43 rfl ?_
      refine wp_iaload d_RW_addGroup_45 rfl (o4 c1 c2) ?_
      refine wp_iload d_RW_addGroup_46 rfl ?_
      refine wp_iadd d_RW_addGroup_48 ?_
      refine wp_iconst (v := nI 3) d_RW_addGroup_49 c_iconst_3 ?_
      refine wp_iconst (v := nI 5) d_RW_addGroup_50 c_iconst_5 ?_
      refine wp_iload d_RW_addGroup_51 rfl ?_
      refine wp_imul d_RW_addGroup_53 ?_
      refine wp_iadd d_RW_addGroup_54 ?_
      refine wp_ishl d_RW_addGroup_55 ?_
      refine wp_iadd d_RW_addGroup_56 ?_
      refine wp_istore (ls' := [(0, .inr 4), (1, .inr 2), (2, .inl (x2)), (3, .inl (x3)), (4, .inl ((x4) + (((h 16 ((x5).toNatClampNeg)) + (nI 16)) <<< (((nI 3) + ((nI 5) * (x5))) &&& 31)))), (5, .inl (x5)), (6, .inl (nI 16))]) d_RW_addGroup_57 (by decide) rfl ?_
      refine wp_iinc (v := x5 + nI 1) (ls' := [(0, .inr 4), (1, .inr 2), (2, .inl (x2)), (3, .inl (x3)), (4, .inl ((x4) + (((h 16 ((x5).toNatClampNeg)) + (nI 16)) <<< (((nI 3) + ((nI 5) * (x5))) &&& 31)))), (5, .inl (x5 + nI 1)), (6, .inl (nI 16))]) d_RW_addGroup_59 rfl (c_inc_1 _) (by decide) rfl ?_
      refine wp_goto (tgt := 6) d_RW_addGroup_62 (by decide) ?_
      refine wp_sub (ls' := [(0, .inr 4), (1, .inr 2), (2, .inl (x2)), (3, .inl (x3)), (4, .inl ((x4) + (((h 16 ((x5).toNatClampNeg)) + (nI 16)) <<< (((nI 3) + ((nI 5) * (x5))) &&& 31)))), (5, .inl (x5 + nI 1))]) [0, 1, 2, 3, 4, 5] rfl ?_
      exact e3 c1 c2
set_option maxRecDepth 100000 in
set_option maxHeartbeats 4000000 in
theorem k_RW_addGroup_75 {l : Launch} {E : xE} {x2 x3 x4 x5 : Int32} {h : xh} {Q : Option Int32 → xh → Prop}
    (e1 : WP l E M_RW_addGroup 78 [(0, .inr 4), (1, .inr 2), (2, .inl (x2)), (3, .inl (x3)), (4, .inl (x4)), (5, .inl (nI 0))] [] h Q) : WP l E M_RW_addGroup 75 [(0, .inr 4), (1, .inr 2), (2, .inl (x2)), (3, .inl (x3)), (4, .inl (x4)), (5, .inl (x5))] [] h Q := by
  refine wp_iconst (v := nI 0) d_RW_addGroup_75 c_iconst_0 ?_
  refine wp_istore (ls' := [(0, .inr 4), (1, .inr 2), (2, .inl (x2)), (3, .inl (x3)), (4, .inl (x4)), (5, .inl (nI 0))]) d_RW_addGroup_76 (by decide) rfl ?_
  exact e1
set_option maxRecDepth 100000 in
set_option maxHeartbeats 4000000 in
theorem k_RW_addGroup_78 {l : Launch} {E : xE} {x2 x3 x4 x5 : Int32} {h : xh} {Q : Option Int32 → xh → Prop}
    (e1 : x2 ≤ x5 → Q none h)
    (o1 : ¬ x2 ≤ x5 → vp_in (x5) 4)
    (o2 : ¬ x2 ≤ x5 → vp_in (((h 16 ((x5).toNatClampNeg)) * (nI 4)) + (nI 0)) 64)
    (o3 : ¬ x2 ≤ x5 → (h 12 ((((h 16 ((x5).toNatClampNeg)) * (nI 4)) + (nI 0)).toNatClampNeg)) ≠ (nI 77001) → vp_in (((h 16 ((x5).toNatClampNeg)) * (nI 4)) + (nI 1)) 64)
    (o4 : ¬ x2 ≤ x5 → (h 12 ((((h 16 ((x5).toNatClampNeg)) * (nI 4)) + (nI 0)).toNatClampNeg)) ≠ (nI 77001) → vp_in (((h 16 ((x5).toNatClampNeg)) * (nI 4)) + (nI 2)) 64)
    (o5 : ¬ x2 ≤ x5 → (h 12 ((((h 16 ((x5).toNatClampNeg)) * (nI 4)) + (nI 0)).toNatClampNeg)) ≠ (nI 77001) → vp_in (((h 16 ((x5).toNatClampNeg)) * (nI 4)) + (nI 3)) 64)
    (e2 : ¬ x2 ≤ x5 → (h 12 ((((h 16 ((x5).toNatClampNeg)) * (nI 4)) + (nI 0)).toNatClampNeg)) ≠ (nI 77001) → MC l E M_RW_add [.inr 4, .inl (h 12 ((((h 16 ((x5).toNatClampNeg)) * (nI 4)) + (nI 0)).toNatClampNeg)), .inl (h 12 ((((h 16 ((x5).toNatClampNeg)) * (nI 4)) + (nI 1)).toNatClampNeg)), .inl (h 12 ((((h 16 ((x5).toNatClampNeg)) * (nI 4)) + (nI 2)).toNatClampNeg)), .inl (h 12 ((((h 16 ((x5).toNatClampNeg)) * (nI 4)) + (nI 3)).toNatClampNeg))] h (fun r h' => WP l E M_RW_addGroup 140 [(0, .inr 4), (1, .inr 2), (2, .inl (x2)), (3, .inl (x3)), (4, .inl (x4)), (5, .inl (x5)), (6, .inl (h 16 ((x5).toNatClampNeg))), (7, .inl (h 12 ((((h 16 ((x5).toNatClampNeg)) * (nI 4)) + (nI 0)).toNatClampNeg)))] (rpush r []) h' Q))
    (o6 : ¬ x2 ≤ x5 → (h 12 ((((h 16 ((x5).toNatClampNeg)) * (nI 4)) + (nI 0)).toNatClampNeg)) = (nI 77001) → vp_in (((h 16 ((x5).toNatClampNeg)) * (nI 4)) + (nI 1)) 64)
    (o7 : ¬ x2 ≤ x5 → (h 12 ((((h 16 ((x5).toNatClampNeg)) * (nI 4)) + (nI 0)).toNatClampNeg)) = (nI 77001) → vp_in (((h 16 ((x5).toNatClampNeg)) * (nI 4)) + (nI 2)) 64)
    (o8 : ¬ x2 ≤ x5 → (h 12 ((((h 16 ((x5).toNatClampNeg)) * (nI 4)) + (nI 0)).toNatClampNeg)) = (nI 77001) → vp_in (((h 16 ((x5).toNatClampNeg)) * (nI 4)) + (nI 3)) 64)
    (e3 : ¬ x2 ≤ x5 → (h 12 ((((h 16 ((x5).toNatClampNeg)) * (nI 4)) + (nI 0)).toNatClampNeg)) = (nI 77001) → MC l E M_RW_add [.inr 4, .inl (nI 0), .inl (h 12 ((((h 16 ((x5).toNatClampNeg)) * (nI 4)) + (nI 1)).toNatClampNeg)), .inl (h 12 ((((h 16 ((x5).toNatClampNeg)) * (nI 4)) + (nI 2)).toNatClampNeg)), .inl (h 12 ((((h 16 ((x5).toNatClampNeg)) * (nI 4)) + (nI 3)).toNatClampNeg))] h (fun r h' => WP l E M_RW_addGroup 140 [(0, .inr 4), (1, .inr 2), (2, .inl (x2)), (3, .inl (x3)), (4, .inl (x4)), (5, .inl (x5)), (6, .inl (h 16 ((x5).toNatClampNeg))), (7, .inl (h 12 ((((h 16 ((x5).toNatClampNeg)) * (nI 4)) + (nI 0)).toNatClampNeg)))] (rpush r []) h' Q)) : WP l E M_RW_addGroup 78 [(0, .inr 4), (1, .inr 2), (2, .inl (x2)), (3, .inl (x3)), (4, .inl (x4)), (5, .inl (x5))] [] h Q := by
  refine wp_iload d_RW_addGroup_78 rfl ?_
  refine wp_iload_n d_RW_addGroup_80 rfl ?_
  refine wp_ic_ge (tgt := 146) d_RW_addGroup_81 (by decide) (fun c1 => ?_) (fun c1 => ?_)
  · refine wp_return d_RW_addGroup_146 rfl ?_
    exact e1 c1
  · refine wp_aload_n d_RW_addGroup_84 rfl ?_
    refine wp_getR d_RW_addGroup_85 fl_RW_15 rfl rfl ?_
    refine wp_iload d_RW_addGroup_88 rfl ?_
    refine wp_iaload d_RW_addGroup_90 rfl (o1 c1) ?_
    refine wp_istore (ls' := [(0, .inr 4), (1, .inr 2), (2, .inl (x2)), (3, .inl (x3)), (4, .inl (x4)), (5, .inl (x5)), (6, .inl (h 16 ((x5).toNatClampNeg)))]) d_RW_addGroup_91 (by decide) rfl ?_
    refine wp_aload_n d_RW_addGroup_93 rfl ?_
    refine wp_iload d_RW_addGroup_94 rfl ?_
    refine wp_iconst (v := nI 0) d_RW_addGroup_96 c_iconst_0 ?_
    refine wp_callV (as := [.inl (h 16 ((x5).toNatClampNeg)), .inl (nI 0)]) (rest := []) (Q' := fun r h' => WP l E M_RW_addGroup 100 [(0, .inr 4), (1, .inr 2), (2, .inl (x2)), (3, .inl (x3)), (4, .inl (x4)), (5, .inl (x5)), (6, .inl (h 16 ((x5).toNatClampNeg)))] (rpush r []) h' _) d_RW_addGroup_97 vb_RW_addGroup_40 ⟨gw_1_221, gw_1_222⟩ rfl rfl rfl rfl (Nat.le_of_ble_eq_true rfl) rfl (Nat.le_of_ble_eq_true rfl) ?_ (fun r h' z => z)
    show WP l E M_IM_word 0 [(0, .inr 2), (1, .inl (h 16 ((x5).toNatClampNeg))), (2, .inl (nI 0))] [] h _
    refine wp_aload_n d_IM_word_0 rfl ?_
    refine wp_getR d_IM_word_1 fl_IM_15 rfl rfl ?_
    refine wp_iload_n d_IM_word_4 rfl ?_
    refine wp_iconst (v := nI 4) d_IM_word_5 c_iconst_4 ?_
    refine wp_imul d_IM_word_6 ?_
    refine wp_iload_n d_IM_word_7 rfl ?_
    refine wp_iadd d_IM_word_8 ?_
    refine wp_iaload d_IM_word_9 rfl (o2 c1) ?_
    refine wp_ireturn d_IM_word_10 rfl ?_
    show WP l E M_RW_addGroup 100 [(0, .inr 4), (1, .inr 2), (2, .inl (x2)), (3, .inl (x3)), (4, .inl (x4)), (5, .inl (x5)), (6, .inl (h 16 ((x5).toNatClampNeg)))] [.inl (h 12 ((((h 16 ((x5).toNatClampNeg)) * (nI 4)) + (nI 0)).toNatClampNeg))] h _
    refine wp_istore (ls' := [(0, .inr 4), (1, .inr 2), (2, .inl (x2)), (3, .inl (x3)), (4, .inl (x4)), (5, .inl (x5)), (6, .inl (h 16 ((x5).toNatClampNeg))), (7, .inl (h 12 ((((h 16 ((x5).toNatClampNeg)) * (nI 4)) + (nI 0)).toNatClampNeg)))]) d_RW_addGroup_100 (by decide) rfl ?_
    refine wp_aload_n d_RW_addGroup_102 rfl ?_
    refine wp_iload d_RW_addGroup_103 rfl ?_
    refine wp_ldcN d_RW_addGroup_105 gw_2_35 c_lit_77001 ?_
    refine wp_ic_ne (tgt := 114) d_RW_addGroup_107 (by decide) (fun c2 => ?_) (fun c2 => ?_)
    · refine wp_iload d_RW_addGroup_114 rfl ?_
      refine wp_aload_n d_RW_addGroup_116 rfl ?_
      refine wp_iload d_RW_addGroup_117 rfl ?_
      refine wp_iconst (v := nI 1) d_RW_addGroup_119 c_iconst_1 ?_
      refine wp_callV (as := [.inl (h 16 ((x5).toNatClampNeg)), .inl (nI 1)]) (rest := [.inl (h 12 ((((h 16 ((x5).toNatClampNeg)) * (nI 4)) + (nI 0)).toNatClampNeg)), .inr 4]) (Q' := fun r h' => WP l E M_RW_addGroup 123 [(0, .inr 4), (1, .inr 2), (2, .inl (x2)), (3, .inl (x3)), (4, .inl (x4)), (5, .inl (x5)), (6, .inl (h 16 ((x5).toNatClampNeg))), (7, .inl (h 12 ((((h 16 ((x5).toNatClampNeg)) * (nI 4)) + (nI 0)).toNatClampNeg)))] (rpush r [.inl (h 12 ((((h 16 ((x5).toNatClampNeg)) * (nI 4)) + (nI 0)).toNatClampNeg)), .inr 4]) h' _) d_RW_addGroup_120 vb_RW_addGroup_40 ⟨gw_1_221, gw_1_222⟩ rfl rfl rfl rfl (Nat.le_of_ble_eq_true rfl) rfl (Nat.le_of_ble_eq_true rfl) ?_ (fun r h' z => z)
      show WP l E M_IM_word 0 [(0, .inr 2), (1, .inl (h 16 ((x5).toNatClampNeg))), (2, .inl (nI 1))] [] h _
      refine wp_aload_n d_IM_word_0 rfl ?_
      refine wp_getR d_IM_word_1 fl_IM_15 rfl rfl ?_
      refine wp_iload_n d_IM_word_4 rfl ?_
      refine wp_iconst (v := nI 4) d_IM_word_5 c_iconst_4 ?_
      refine wp_imul d_IM_word_6 ?_
      refine wp_iload_n d_IM_word_7 rfl ?_
      refine wp_iadd d_IM_word_8 ?_
      refine wp_iaload d_IM_word_9 rfl (o3 c1 c2) ?_
      refine wp_ireturn d_IM_word_10 rfl ?_
      show WP l E M_RW_addGroup 123 [(0, .inr 4), (1, .inr 2), (2, .inl (x2)), (3, .inl (x3)), (4, .inl (x4)), (5, .inl (x5)), (6, .inl (h 16 ((x5).toNatClampNeg))), (7, .inl (h 12 ((((h 16 ((x5).toNatClampNeg)) * (nI 4)) + (nI 0)).toNatClampNeg)))] [.inl (h 12 ((((h 16 ((x5).toNatClampNeg)) * (nI 4)) + (nI 1)).toNatClampNeg)), .inl (h 12 ((((h 16 ((x5).toNatClampNeg)) * (nI 4)) + (nI 0)).toNatClampNeg)), .inr 4] h _
      refine wp_aload_n d_RW_addGroup_123 rfl ?_
      refine wp_iload d_RW_addGroup_124 rfl ?_
      refine wp_iconst (v := nI 2) d_RW_addGroup_126 c_iconst_2 ?_
      refine wp_callV (as := [.inl (h 16 ((x5).toNatClampNeg)), .inl (nI 2)]) (rest := [.inl (h 12 ((((h 16 ((x5).toNatClampNeg)) * (nI 4)) + (nI 1)).toNatClampNeg)), .inl (h 12 ((((h 16 ((x5).toNatClampNeg)) * (nI 4)) + (nI 0)).toNatClampNeg)), .inr 4]) (Q' := fun r h' => WP l E M_RW_addGroup 130 [(0, .inr 4), (1, .inr 2), (2, .inl (x2)), (3, .inl (x3)), (4, .inl (x4)), (5, .inl (x5)), (6, .inl (h 16 ((x5).toNatClampNeg))), (7, .inl (h 12 ((((h 16 ((x5).toNatClampNeg)) * (nI 4)) + (nI 0)).toNatClampNeg)))] (rpush r [.inl (h 12 ((((h 16 ((x5).toNatClampNeg)) * (nI 4)) + (nI 1)).toNatClampNeg)), .inl (h 12 ((((h 16 ((x5).toNatClampNeg)) * (nI 4)) + (nI 0)).toNatClampNeg)), .inr 4]) h' _) d_RW_addGroup_127 vb_RW_addGroup_40 ⟨gw_1_221, gw_1_222⟩ rfl rfl rfl rfl (Nat.le_of_ble_eq_true rfl) rfl (Nat.le_of_ble_eq_true rfl) ?_ (fun r h' z => z)
      show WP l E M_IM_word 0 [(0, .inr 2), (1, .inl (h 16 ((x5).toNatClampNeg))), (2, .inl (nI 2))] [] h _
      refine wp_aload_n d_IM_word_0 rfl ?_
      refine wp_getR d_IM_word_1 fl_IM_15 rfl rfl ?_
      refine wp_iload_n d_IM_word_4 rfl ?_
      refine wp_iconst (v := nI 4) d_IM_word_5 c_iconst_4 ?_
      refine wp_imul d_IM_word_6 ?_
      refine wp_iload_n d_IM_word_7 rfl ?_
      refine wp_iadd d_IM_word_8 ?_
      refine wp_iaload d_IM_word_9 rfl (o4 c1 c2) ?_
      refine wp_ireturn d_IM_word_10 rfl ?_
      show WP l E M_RW_addGroup 130 [(0, .inr 4), (1, .inr 2), (2, .inl (x2)), (3, .inl (x3)), (4, .inl (x4)), (5, .inl (x5)), (6, .inl (h 16 ((x5).toNatClampNeg))), (7, .inl (h 12 ((((h 16 ((x5).toNatClampNeg)) * (nI 4)) + (nI 0)).toNatClampNeg)))] [.inl (h 12 ((((h 16 ((x5).toNatClampNeg)) * (nI 4)) + (nI 2)).toNatClampNeg)), .inl (h 12 ((((h 16 ((x5).toNatClampNeg)) * (nI 4)) + (nI 1)).toNatClampNeg)), .inl (h 12 ((((h 16 ((x5).toNatClampNeg)) * (nI 4)) + (nI 0)).toNatClampNeg)), .inr 4] h _
      refine wp_aload_n d_RW_addGroup_130 rfl ?_
      refine wp_iload d_RW_addGroup_131 rfl ?_
      refine wp_iconst (v := nI 3) d_RW_addGroup_133 c_iconst_3 ?_
      refine wp_callV (as := [.inl (h 16 ((x5).toNatClampNeg)), .inl (nI 3)]) (rest := [.inl (h 12 ((((h 16 ((x5).toNatClampNeg)) * (nI 4)) + (nI 2)).toNatClampNeg)), .inl (h 12 ((((h 16 ((x5).toNatClampNeg)) * (nI 4)) + (nI 1)).toNatClampNeg)), .inl (h 12 ((((h 16 ((x5).toNatClampNeg)) * (nI 4)) + (nI 0)).toNatClampNeg)), .inr 4]) (Q' := fun r h' => WP l E M_RW_addGroup 137 [(0, .inr 4), (1, .inr 2), (2, .inl (x2)), (3, .inl (x3)), (4, .inl (x4)), (5, .inl (x5)), (6, .inl (h 16 ((x5).toNatClampNeg))), (7, .inl (h 12 ((((h 16 ((x5).toNatClampNeg)) * (nI 4)) + (nI 0)).toNatClampNeg)))] (rpush r [.inl (h 12 ((((h 16 ((x5).toNatClampNeg)) * (nI 4)) + (nI 2)).toNatClampNeg)), .inl (h 12 ((((h 16 ((x5).toNatClampNeg)) * (nI 4)) + (nI 1)).toNatClampNeg)), .inl (h 12 ((((h 16 ((x5).toNatClampNeg)) * (nI 4)) + (nI 0)).toNatClampNeg)), .inr 4]) h' _) d_RW_addGroup_134 vb_RW_addGroup_40 ⟨gw_1_221, gw_1_222⟩ rfl rfl rfl rfl (Nat.le_of_ble_eq_true rfl) rfl (Nat.le_of_ble_eq_true rfl) ?_ (fun r h' z => z)
      show WP l E M_IM_word 0 [(0, .inr 2), (1, .inl (h 16 ((x5).toNatClampNeg))), (2, .inl (nI 3))] [] h _
      refine wp_aload_n d_IM_word_0 rfl ?_
      refine wp_getR d_IM_word_1 fl_IM_15 rfl rfl ?_
      refine wp_iload_n d_IM_word_4 rfl ?_
      refine wp_iconst (v := nI 4) d_IM_word_5 c_iconst_4 ?_
      refine wp_imul d_IM_word_6 ?_
      refine wp_iload_n d_IM_word_7 rfl ?_
      refine wp_iadd d_IM_word_8 ?_
      refine wp_iaload d_IM_word_9 rfl (o5 c1 c2) ?_
      refine wp_ireturn d_IM_word_10 rfl ?_
      show WP l E M_RW_addGroup 137 [(0, .inr 4), (1, .inr 2), (2, .inl (x2)), (3, .inl (x3)), (4, .inl (x4)), (5, .inl (x5)), (6, .inl (h 16 ((x5).toNatClampNeg))), (7, .inl (h 12 ((((h 16 ((x5).toNatClampNeg)) * (nI 4)) + (nI 0)).toNatClampNeg)))] [.inl (h 12 ((((h 16 ((x5).toNatClampNeg)) * (nI 4)) + (nI 3)).toNatClampNeg)), .inl (h 12 ((((h 16 ((x5).toNatClampNeg)) * (nI 4)) + (nI 2)).toNatClampNeg)), .inl (h 12 ((((h 16 ((x5).toNatClampNeg)) * (nI 4)) + (nI 1)).toNatClampNeg)), .inl (h 12 ((((h 16 ((x5).toNatClampNeg)) * (nI 4)) + (nI 0)).toNatClampNeg)), .inr 4] h _
      refine wp_callV (as := [.inl (h 12 ((((h 16 ((x5).toNatClampNeg)) * (nI 4)) + (nI 0)).toNatClampNeg)), .inl (h 12 ((((h 16 ((x5).toNatClampNeg)) * (nI 4)) + (nI 1)).toNatClampNeg)), .inl (h 12 ((((h 16 ((x5).toNatClampNeg)) * (nI 4)) + (nI 2)).toNatClampNeg)), .inl (h 12 ((((h 16 ((x5).toNatClampNeg)) * (nI 4)) + (nI 3)).toNatClampNeg))]) (rest := []) (Q' := fun r h' => WP l E M_RW_addGroup 140 [(0, .inr 4), (1, .inr 2), (2, .inl (x2)), (3, .inl (x3)), (4, .inl (x4)), (5, .inl (x5)), (6, .inl (h 16 ((x5).toNatClampNeg))), (7, .inl (h 12 ((((h 16 ((x5).toNatClampNeg)) * (nI 4)) + (nI 0)).toNatClampNeg)))] (rpush r []) h' Q) d_RW_addGroup_137 vb_RW_addGroup_36 ⟨gw_2_38, sw_5⟩ rfl rfl rfl rfl (Nat.le_of_ble_eq_true rfl) rfl (Nat.le_of_ble_eq_true rfl) ?_ (fun r h' z => z)
      exact e2 c1 c2
    · refine wp_iconst (v := nI 0) d_RW_addGroup_110 c_iconst_0 ?_
      refine wp_goto (tgt := 116) d_RW_addGroup_111 (by decide) ?_
      refine wp_aload_n d_RW_addGroup_116 rfl ?_
      refine wp_iload d_RW_addGroup_117 rfl ?_
      refine wp_iconst (v := nI 1) d_RW_addGroup_119 c_iconst_1 ?_
      refine wp_callV (as := [.inl (h 16 ((x5).toNatClampNeg)), .inl (nI 1)]) (rest := [.inl (nI 0), .inr 4]) (Q' := fun r h' => WP l E M_RW_addGroup 123 [(0, .inr 4), (1, .inr 2), (2, .inl (x2)), (3, .inl (x3)), (4, .inl (x4)), (5, .inl (x5)), (6, .inl (h 16 ((x5).toNatClampNeg))), (7, .inl (h 12 ((((h 16 ((x5).toNatClampNeg)) * (nI 4)) + (nI 0)).toNatClampNeg)))] (rpush r [.inl (nI 0), .inr 4]) h' _) d_RW_addGroup_120 vb_RW_addGroup_40 ⟨gw_1_221, gw_1_222⟩ rfl rfl rfl rfl (Nat.le_of_ble_eq_true rfl) rfl (Nat.le_of_ble_eq_true rfl) ?_ (fun r h' z => z)
      show WP l E M_IM_word 0 [(0, .inr 2), (1, .inl (h 16 ((x5).toNatClampNeg))), (2, .inl (nI 1))] [] h _
      refine wp_aload_n d_IM_word_0 rfl ?_
      refine wp_getR d_IM_word_1 fl_IM_15 rfl rfl ?_
      refine wp_iload_n d_IM_word_4 rfl ?_
      refine wp_iconst (v := nI 4) d_IM_word_5 c_iconst_4 ?_
      refine wp_imul d_IM_word_6 ?_
      refine wp_iload_n d_IM_word_7 rfl ?_
      refine wp_iadd d_IM_word_8 ?_
      refine wp_iaload d_IM_word_9 rfl (o6 c1 c2) ?_
      refine wp_ireturn d_IM_word_10 rfl ?_
      show WP l E M_RW_addGroup 123 [(0, .inr 4), (1, .inr 2), (2, .inl (x2)), (3, .inl (x3)), (4, .inl (x4)), (5, .inl (x5)), (6, .inl (h 16 ((x5).toNatClampNeg))), (7, .inl (h 12 ((((h 16 ((x5).toNatClampNeg)) * (nI 4)) + (nI 0)).toNatClampNeg)))] [.inl (h 12 ((((h 16 ((x5).toNatClampNeg)) * (nI 4)) + (nI 1)).toNatClampNeg)), .inl (nI 0), .inr 4] h _
      refine wp_aload_n d_RW_addGroup_123 rfl ?_
      refine wp_iload d_RW_addGroup_124 rfl ?_
      refine wp_iconst (v := nI 2) d_RW_addGroup_126 c_iconst_2 ?_
      refine wp_callV (as := [.inl (h 16 ((x5).toNatClampNeg)), .inl (nI 2)]) (rest := [.inl (h 12 ((((h 16 ((x5).toNatClampNeg)) * (nI 4)) + (nI 1)).toNatClampNeg)), .inl (nI 0), .inr 4]) (Q' := fun r h' => WP l E M_RW_addGroup 130 [(0, .inr 4), (1, .inr 2), (2, .inl (x2)), (3, .inl (x3)), (4, .inl (x4)), (5, .inl (x5)), (6, .inl (h 16 ((x5).toNatClampNeg))), (7, .inl (h 12 ((((h 16 ((x5).toNatClampNeg)) * (nI 4)) + (nI 0)).toNatClampNeg)))] (rpush r [.inl (h 12 ((((h 16 ((x5).toNatClampNeg)) * (nI 4)) + (nI 1)).toNatClampNeg)), .inl (nI 0), .inr 4]) h' _) d_RW_addGroup_127 vb_RW_addGroup_40 ⟨gw_1_221, gw_1_222⟩ rfl rfl rfl rfl (Nat.le_of_ble_eq_true rfl) rfl (Nat.le_of_ble_eq_true rfl) ?_ (fun r h' z => z)
      show WP l E M_IM_word 0 [(0, .inr 2), (1, .inl (h 16 ((x5).toNatClampNeg))), (2, .inl (nI 2))] [] h _
      refine wp_aload_n d_IM_word_0 rfl ?_
      refine wp_getR d_IM_word_1 fl_IM_15 rfl rfl ?_
      refine wp_iload_n d_IM_word_4 rfl ?_
      refine wp_iconst (v := nI 4) d_IM_word_5 c_iconst_4 ?_
      refine wp_imul d_IM_word_6 ?_
      refine wp_iload_n d_IM_word_7 rfl ?_
      refine wp_iadd d_IM_word_8 ?_
      refine wp_iaload d_IM_word_9 rfl (o7 c1 c2) ?_
      refine wp_ireturn d_IM_word_10 rfl ?_
      show WP l E M_RW_addGroup 130 [(0, .inr 4), (1, .inr 2), (2, .inl (x2)), (3, .inl (x3)), (4, .inl (x4)), (5, .inl (x5)), (6, .inl (h 16 ((x5).toNatClampNeg))), (7, .inl (h 12 ((((h 16 ((x5).toNatClampNeg)) * (nI 4)) + (nI 0)).toNatClampNeg)))] [.inl (h 12 ((((h 16 ((x5).toNatClampNeg)) * (nI 4)) + (nI 2)).toNatClampNeg)), .inl (h 12 ((((h 16 ((x5).toNatClampNeg)) * (nI 4)) + (nI 1)).toNatClampNeg)), .inl (nI 0), .inr 4] h _
      refine wp_aload_n d_RW_addGroup_130 rfl ?_
      refine wp_iload d_RW_addGroup_131 rfl ?_
      refine wp_iconst (v := nI 3) d_RW_addGroup_133 c_iconst_3 ?_
      refine wp_callV (as := [.inl (h 16 ((x5).toNatClampNeg)), .inl (nI 3)]) (rest := [.inl (h 12 ((((h 16 ((x5).toNatClampNeg)) * (nI 4)) + (nI 2)).toNatClampNeg)), .inl (h 12 ((((h 16 ((x5).toNatClampNeg)) * (nI 4)) + (nI 1)).toNatClampNeg)), .inl (nI 0), .inr 4]) (Q' := fun r h' => WP l E M_RW_addGroup 137 [(0, .inr 4), (1, .inr 2), (2, .inl (x2)), (3, .inl (x3)), (4, .inl (x4)), (5, .inl (x5)), (6, .inl (h 16 ((x5).toNatClampNeg))), (7, .inl (h 12 ((((h 16 ((x5).toNatClampNeg)) * (nI 4)) + (nI 0)).toNatClampNeg)))] (rpush r [.inl (h 12 ((((h 16 ((x5).toNatClampNeg)) * (nI 4)) + (nI 2)).toNatClampNeg)), .inl (h 12 ((((h 16 ((x5).toNatClampNeg)) * (nI 4)) + (nI 1)).toNatClampNeg)), .inl (nI 0), .inr 4]) h' _) d_RW_addGroup_134 vb_RW_addGroup_40 ⟨gw_1_221, gw_1_222⟩ rfl rfl rfl rfl (Nat.le_of_ble_eq_true rfl) rfl (Nat.le_of_ble_eq_true rfl) ?_ (fun r h' z => z)
      show WP l E M_IM_word 0 [(0, .inr 2), (1, .inl (h 16 ((x5).toNatClampNeg))), (2, .inl (nI 3))] [] h _
      refine wp_aload_n d_IM_word_0 rfl ?_
      refine wp_getR d_IM_word_1 fl_IM_15 rfl rfl ?_
      refine wp_iload_n d_IM_word_4 rfl ?_
      refine wp_iconst (v := nI 4) d_IM_word_5 c_iconst_4 ?_
      refine wp_imul d_IM_word_6 ?_
      refine wp_iload_n d_IM_word_7 rfl ?_
      refine wp_iadd d_IM_word_8 ?_
      refine wp_iaload d_IM_word_9 rfl (o8 c1 c2) ?_
      refine wp_ireturn d_IM_word_10 rfl ?_
      show WP l E M_RW_addGroup 137 [(0, .inr 4), (1, .inr 2), (2, .inl (x2)), (3, .inl (x3)), (4, .inl (x4)), (5, .inl (x5)), (6, .inl (h 16 ((x5).toNatClampNeg))), (7, .inl (h 12 ((((h 16 ((x5).toNatClampNeg)) * (nI 4)) + (nI 0)).toNatClampNeg)))] [.inl (h 12 ((((h 16 ((x5).toNatClampNeg)) * (nI 4)) + (nI 3)).toNatClampNeg)), .inl (h 12 ((((h 16 ((x5).toNatClampNeg)) * (nI 4)) + (nI 2)).toNatClampNeg)), .inl (h 12 ((((h 16 ((x5).toNatClampNeg)) * (nI 4)) + (nI 1)).toNatClampNeg)), .inl (nI 0), .inr 4] h _
      refine wp_callV (as := [.inl (nI 0), .inl (h 12 ((((h 16 ((x5).toNatClampNeg)) * (nI 4)) + (nI 1)).toNatClampNeg)), .inl (h 12 ((((h 16 ((x5).toNatClampNeg)) * (nI 4)) + (nI 2)).toNatClampNeg)), .inl (h 12 ((((h 16 ((x5).toNatClampNeg)) * (nI 4)) + (nI 3)).toNatClampNeg))]) (rest := []) (Q' := fun r h' => WP l E M_RW_addGroup 140 [(0, .inr 4), (1, .inr 2), (2, .inl (x2)), (3, .inl (x3)), (4, .inl (x4)), (5, .inl (x5)), (6, .inl (h 16 ((x5).toNatClampNeg))), (7, .inl (h 12 ((((h 16 ((x5).toNatClampNeg)) * (nI 4)) + (nI 0)).toNatClampNeg)))] (rpush r []) h' Q) d_RW_addGroup_137 vb_RW_addGroup_36 ⟨gw_2_38, sw_5⟩ rfl rfl rfl rfl (Nat.le_of_ble_eq_true rfl) rfl (Nat.le_of_ble_eq_true rfl) ?_ (fun r h' z => z)
      exact e3 c1 c2
set_option maxRecDepth 100000 in
set_option maxHeartbeats 4000000 in
theorem k_RW_addGroup_140 {l : Launch} {E : xE} {x2 x3 x4 x5 x6 x7 : Int32} {h : xh} {Q : Option Int32 → xh → Prop}
    (e1 : WP l E M_RW_addGroup 78 [(0, .inr 4), (1, .inr 2), (2, .inl (x2)), (3, .inl (x3)), (4, .inl (x4)), (5, .inl (x5 + nI 1))] [] h Q) : WP l E M_RW_addGroup 140 [(0, .inr 4), (1, .inr 2), (2, .inl (x2)), (3, .inl (x3)), (4, .inl (x4)), (5, .inl (x5)), (6, .inl (x6)), (7, .inl (x7))] [] h Q := by
  refine wp_iinc (v := x5 + nI 1) (ls' := [(0, .inr 4), (1, .inr 2), (2, .inl (x2)), (3, .inl (x3)), (4, .inl (x4)), (5, .inl (x5 + nI 1)), (6, .inl (x6)), (7, .inl (x7))]) d_RW_addGroup_140 rfl (c_inc_1 _) (by decide) rfl ?_
  refine wp_goto (tgt := 78) d_RW_addGroup_143 (by decide) ?_
  refine wp_sub (ls' := [(0, .inr 4), (1, .inr 2), (2, .inl (x2)), (3, .inl (x3)), (4, .inl (x4)), (5, .inl (x5 + nI 1))]) [0, 1, 2, 3, 4, 5] rfl ?_
  exact e1
set_option maxRecDepth 100000 in
set_option maxHeartbeats 4000000 in
theorem k_RW_add_0 {l : Launch} {E : xE} {x1 x2 x3 x4 : Int32} {h : xh} {Q : Option Int32 → xh → Prop}
    (o1 : (h 4 2) < (nI 12) → vp_in ((h 4 2) * (nI 4)) 48)
    (o2 : (h 4 2) < (nI 12) → vp_in (((h 4 2) * (nI 4)) + (nI 1)) 48)
    (o3 : (h 4 2) < (nI 12) → vp_in (((h 4 2) * (nI 4)) + (nI 2)) 48)
    (o4 : (h 4 2) < (nI 12) → vp_in (((h 4 2) * (nI 4)) + (nI 3)) 48)
    (e1 : (h 4 2) < (nI 12) → Q none (hw (hw (hw (hw (hw (hw h 15 (((h 4 2) * (nI 4)).toNatClampNeg) (x1)) 15 ((((h 4 2) * (nI 4)) + (nI 1)).toNatClampNeg) (x2)) 15 ((((h 4 2) * (nI 4)) + (nI 2)).toNatClampNeg) (x3)) 15 ((((h 4 2) * (nI 4)) + (nI 3)).toNatClampNeg) (x4)) 4 3 (((((((((((((((((h 4 3) ^^^ (x1)) * (nI 40503)) + (nI 7)) ^^^ (ushr ((((h 4 3) ^^^ (x1)) * (nI 40503)) + (nI 7)) (nI 15))) ^^^ (x2)) * (nI 40503)) + (nI 7)) ^^^ (ushr ((((((((h 4 3) ^^^ (x1)) * (nI 40503)) + (nI 7)) ^^^ (ushr ((((h 4 3) ^^^ (x1)) * (nI 40503)) + (nI 7)) (nI 15))) ^^^ (x2)) * (nI 40503)) + (nI 7)) (nI 15))) ^^^ (x3)) * (nI 40503)) + (nI 7)) ^^^ (ushr ((((((((((((h 4 3) ^^^ (x1)) * (nI 40503)) + (nI 7)) ^^^ (ushr ((((h 4 3) ^^^ (x1)) * (nI 40503)) + (nI 7)) (nI 15))) ^^^ (x2)) * (nI 40503)) + (nI 7)) ^^^ (ushr ((((((((h 4 3) ^^^ (x1)) * (nI 40503)) + (nI 7)) ^^^ (ushr ((((h 4 3) ^^^ (x1)) * (nI 40503)) + (nI 7)) (nI 15))) ^^^ (x2)) * (nI 40503)) + (nI 7)) (nI 15))) ^^^ (x3)) * (nI 40503)) + (nI 7)) (nI 15))) ^^^ (x4)) * (nI 40503)) + (nI 7)) ^^^ (ushr ((((((((((((((((h 4 3) ^^^ (x1)) * (nI 40503)) + (nI 7)) ^^^ (ushr ((((h 4 3) ^^^ (x1)) * (nI 40503)) + (nI 7)) (nI 15))) ^^^ (x2)) * (nI 40503)) + (nI 7)) ^^^ (ushr ((((((((h 4 3) ^^^ (x1)) * (nI 40503)) + (nI 7)) ^^^ (ushr ((((h 4 3) ^^^ (x1)) * (nI 40503)) + (nI 7)) (nI 15))) ^^^ (x2)) * (nI 40503)) + (nI 7)) (nI 15))) ^^^ (x3)) * (nI 40503)) + (nI 7)) ^^^ (ushr ((((((((((((h 4 3) ^^^ (x1)) * (nI 40503)) + (nI 7)) ^^^ (ushr ((((h 4 3) ^^^ (x1)) * (nI 40503)) + (nI 7)) (nI 15))) ^^^ (x2)) * (nI 40503)) + (nI 7)) ^^^ (ushr ((((((((h 4 3) ^^^ (x1)) * (nI 40503)) + (nI 7)) ^^^ (ushr ((((h 4 3) ^^^ (x1)) * (nI 40503)) + (nI 7)) (nI 15))) ^^^ (x2)) * (nI 40503)) + (nI 7)) (nI 15))) ^^^ (x3)) * (nI 40503)) + (nI 7)) (nI 15))) ^^^ (x4)) * (nI 40503)) + (nI 7)) (nI 15)))) 4 2 ((h 4 2) + (nI 1))))
    (e2 : ¬ (h 4 2) < (nI 12) → Q none h) : MC l E M_RW_add [.inr 4, .inl (x1), .inl (x2), .inl (x3), .inl (x4)] h Q := by
  refine wp_aload_n d_RW_add_0 rfl ?_
  refine wp_getI d_RW_add_1 fl_RW_18 rfl rfl ?_
  refine wp_bipush (v := nI 12) d_RW_add_4 c_bipush_12 ?_
  refine wp_ic_lt (tgt := 10) d_RW_add_6 (by decide) (fun c1 => ?_) (fun c1 => ?_)
  · refine wp_aload_n d_RW_add_10 rfl ?_
    refine wp_getI d_RW_add_11 fl_RW_18 rfl rfl ?_
    refine wp_iconst (v := nI 4) d_RW_add_14 c_iconst_4 ?_
    refine wp_imul d_RW_add_15 ?_
    refine wp_istore (ls' := [(0, .inr 4), (1, .inl (x1)), (2, .inl (x2)), (3, .inl (x3)), (4, .inl (x4)), (5, .inl ((h 4 2) * (nI 4)))]) d_RW_add_16 (by decide) rfl ?_
    refine wp_aload_n d_RW_add_18 rfl ?_
    refine wp_getR d_RW_add_19 fl_RW_11 rfl rfl ?_
    refine wp_iload d_RW_add_22 rfl ?_
    refine wp_iload_n d_RW_add_24 rfl ?_
    refine wp_iastore d_RW_add_25 rfl (o1 c1) ?_
    refine wp_aload_n d_RW_add_26 rfl ?_
    refine wp_getR d_RW_add_27 fl_RW_11 rfl rfl ?_
    refine wp_iload d_RW_add_30 rfl ?_
    refine wp_iconst (v := nI 1) d_RW_add_32 c_iconst_1 ?_
    refine wp_iadd d_RW_add_33 ?_
    refine wp_iload_n d_RW_add_34 rfl ?_
    refine wp_iastore d_RW_add_35 rfl (o2 c1) ?_
    refine wp_aload_n d_RW_add_36 rfl ?_
    refine wp_getR d_RW_add_37 fl_RW_11 rfl rfl ?_
    refine wp_iload d_RW_add_40 rfl ?_
    refine wp_iconst (v := nI 2) d_RW_add_42 c_iconst_2 ?_
    refine wp_iadd d_RW_add_43 ?_
    refine wp_iload_n d_RW_add_44 rfl ?_
    refine wp_iastore d_RW_add_45 rfl (o3 c1) ?_
    refine wp_aload_n d_RW_add_46 rfl ?_
    refine wp_getR d_RW_add_47 fl_RW_11 rfl rfl ?_
    refine wp_iload d_RW_add_50 rfl ?_
    refine wp_iconst (v := nI 3) d_RW_add_52 c_iconst_3 ?_
    refine wp_iadd d_RW_add_53 ?_
    refine wp_iload d_RW_add_54 rfl ?_
    refine wp_iastore d_RW_add_56 rfl (o4 c1) ?_
    refine wp_aload_n d_RW_add_57 rfl ?_
    refine wp_aload_n d_RW_add_58 rfl ?_
    refine wp_getI d_RW_add_59 fl_RW_22 rfl rfl ?_
    show WP l E M_RW_add 62 [(0, .inr 4), (1, .inl (x1)), (2, .inl (x2)), (3, .inl (x3)), (4, .inl (x4)), (5, .inl ((h 4 2) * (nI 4)))] [.inl (h 4 3), .inr 4] (hw (hw (hw (hw h 15 (((h 4 2) * (nI 4)).toNatClampNeg) (x1)) 15 ((((h 4 2) * (nI 4)) + (nI 1)).toNatClampNeg) (x2)) 15 ((((h 4 2) * (nI 4)) + (nI 2)).toNatClampNeg) (x3)) 15 ((((h 4 2) * (nI 4)) + (nI 3)).toNatClampNeg) (x4)) _
    refine wp_iload_n d_RW_add_62 rfl ?_
    refine wp_callS (as := [.inl (h 4 3), .inl (x1)]) (rest := [.inr 4]) (Q' := fun r h' => WP l E M_RW_add 66 [(0, .inr 4), (1, .inl (x1)), (2, .inl (x2)), (3, .inl (x3)), (4, .inl (x4)), (5, .inl ((h 4 2) * (nI 4)))] (rpush r [.inr 4]) h' _) d_RW_add_63 vb_RW_add_44 gw_2_41 rfl (Nat.le_of_ble_eq_true rfl) rfl (Nat.le_of_ble_eq_true rfl) ?_ (fun r h' z => z)
    show WP l E M_RS_mix 0 [(0, .inl (h 4 3)), (1, .inl (x1))] [] (hw (hw (hw (hw h 15 (((h 4 2) * (nI 4)).toNatClampNeg) (x1)) 15 ((((h 4 2) * (nI 4)) + (nI 1)).toNatClampNeg) (x2)) 15 ((((h 4 2) * (nI 4)) + (nI 2)).toNatClampNeg) (x3)) 15 ((((h 4 2) * (nI 4)) + (nI 3)).toNatClampNeg) (x4)) _
    refine wp_iload_n d_RS_mix_0 rfl ?_
    refine wp_iload_n d_RS_mix_1 rfl ?_
    refine wp_ixor d_RS_mix_2 ?_
    refine wp_ldcN d_RS_mix_3 gw_2_43 c_lit_40503 ?_
    refine wp_imul d_RS_mix_5 ?_
    refine wp_bipush (v := nI 7) d_RS_mix_6 c_bipush_7 ?_
    refine wp_iadd d_RS_mix_8 ?_
    refine wp_istore_n (ls' := [(0, .inl (h 4 3)), (1, .inl (x1)), (2, .inl ((((h 4 3) ^^^ (x1)) * (nI 40503)) + (nI 7)))]) d_RS_mix_9 (by decide) rfl ?_
    refine wp_iload_n d_RS_mix_10 rfl ?_
    refine wp_iload_n d_RS_mix_11 rfl ?_
    refine wp_bipush (v := nI 15) d_RS_mix_12 c_bipush_15 ?_
    refine wp_iushr d_RS_mix_14 ?_
    refine wp_ixor d_RS_mix_15 ?_
    refine wp_ireturn d_RS_mix_16 rfl ?_
    show WP l E M_RW_add 66 [(0, .inr 4), (1, .inl (x1)), (2, .inl (x2)), (3, .inl (x3)), (4, .inl (x4)), (5, .inl ((h 4 2) * (nI 4)))] [.inl (((((h 4 3) ^^^ (x1)) * (nI 40503)) + (nI 7)) ^^^ (ushr ((((h 4 3) ^^^ (x1)) * (nI 40503)) + (nI 7)) (nI 15))), .inr 4] (hw (hw (hw (hw h 15 (((h 4 2) * (nI 4)).toNatClampNeg) (x1)) 15 ((((h 4 2) * (nI 4)) + (nI 1)).toNatClampNeg) (x2)) 15 ((((h 4 2) * (nI 4)) + (nI 2)).toNatClampNeg) (x3)) 15 ((((h 4 2) * (nI 4)) + (nI 3)).toNatClampNeg) (x4)) _
    refine wp_iload_n d_RW_add_66 rfl ?_
    refine wp_callS (as := [.inl (((((h 4 3) ^^^ (x1)) * (nI 40503)) + (nI 7)) ^^^ (ushr ((((h 4 3) ^^^ (x1)) * (nI 40503)) + (nI 7)) (nI 15))), .inl (x2)]) (rest := [.inr 4]) (Q' := fun r h' => WP l E M_RW_add 70 [(0, .inr 4), (1, .inl (x1)), (2, .inl (x2)), (3, .inl (x3)), (4, .inl (x4)), (5, .inl ((h 4 2) * (nI 4)))] (rpush r [.inr 4]) h' _) d_RW_add_67 vb_RW_add_44 gw_2_41 rfl (Nat.le_of_ble_eq_true rfl) rfl (Nat.le_of_ble_eq_true rfl) ?_ (fun r h' z => z)
    show WP l E M_RS_mix 0 [(0, .inl (((((h 4 3) ^^^ (x1)) * (nI 40503)) + (nI 7)) ^^^ (ushr ((((h 4 3) ^^^ (x1)) * (nI 40503)) + (nI 7)) (nI 15)))), (1, .inl (x2))] [] (hw (hw (hw (hw h 15 (((h 4 2) * (nI 4)).toNatClampNeg) (x1)) 15 ((((h 4 2) * (nI 4)) + (nI 1)).toNatClampNeg) (x2)) 15 ((((h 4 2) * (nI 4)) + (nI 2)).toNatClampNeg) (x3)) 15 ((((h 4 2) * (nI 4)) + (nI 3)).toNatClampNeg) (x4)) _
    refine wp_iload_n d_RS_mix_0 rfl ?_
    refine wp_iload_n d_RS_mix_1 rfl ?_
    refine wp_ixor d_RS_mix_2 ?_
    refine wp_ldcN d_RS_mix_3 gw_2_43 c_lit_40503 ?_
    refine wp_imul d_RS_mix_5 ?_
    refine wp_bipush (v := nI 7) d_RS_mix_6 c_bipush_7 ?_
    refine wp_iadd d_RS_mix_8 ?_
    refine wp_istore_n (ls' := [(0, .inl (((((h 4 3) ^^^ (x1)) * (nI 40503)) + (nI 7)) ^^^ (ushr ((((h 4 3) ^^^ (x1)) * (nI 40503)) + (nI 7)) (nI 15)))), (1, .inl (x2)), (2, .inl ((((((((h 4 3) ^^^ (x1)) * (nI 40503)) + (nI 7)) ^^^ (ushr ((((h 4 3) ^^^ (x1)) * (nI 40503)) + (nI 7)) (nI 15))) ^^^ (x2)) * (nI 40503)) + (nI 7)))]) d_RS_mix_9 (by decide) rfl ?_
    refine wp_iload_n d_RS_mix_10 rfl ?_
    refine wp_iload_n d_RS_mix_11 rfl ?_
    refine wp_bipush (v := nI 15) d_RS_mix_12 c_bipush_15 ?_
    refine wp_iushr d_RS_mix_14 ?_
    refine wp_ixor d_RS_mix_15 ?_
    refine wp_ireturn d_RS_mix_16 rfl ?_
    show WP l E M_RW_add 70 [(0, .inr 4), (1, .inl (x1)), (2, .inl (x2)), (3, .inl (x3)), (4, .inl (x4)), (5, .inl ((h 4 2) * (nI 4)))] [.inl (((((((((h 4 3) ^^^ (x1)) * (nI 40503)) + (nI 7)) ^^^ (ushr ((((h 4 3) ^^^ (x1)) * (nI 40503)) + (nI 7)) (nI 15))) ^^^ (x2)) * (nI 40503)) + (nI 7)) ^^^ (ushr ((((((((h 4 3) ^^^ (x1)) * (nI 40503)) + (nI 7)) ^^^ (ushr ((((h 4 3) ^^^ (x1)) * (nI 40503)) + (nI 7)) (nI 15))) ^^^ (x2)) * (nI 40503)) + (nI 7)) (nI 15))), .inr 4] (hw (hw (hw (hw h 15 (((h 4 2) * (nI 4)).toNatClampNeg) (x1)) 15 ((((h 4 2) * (nI 4)) + (nI 1)).toNatClampNeg) (x2)) 15 ((((h 4 2) * (nI 4)) + (nI 2)).toNatClampNeg) (x3)) 15 ((((h 4 2) * (nI 4)) + (nI 3)).toNatClampNeg) (x4)) _
    refine wp_iload_n d_RW_add_70 rfl ?_
    refine wp_callS (as := [.inl (((((((((h 4 3) ^^^ (x1)) * (nI 40503)) + (nI 7)) ^^^ (ushr ((((h 4 3) ^^^ (x1)) * (nI 40503)) + (nI 7)) (nI 15))) ^^^ (x2)) * (nI 40503)) + (nI 7)) ^^^ (ushr ((((((((h 4 3) ^^^ (x1)) * (nI 40503)) + (nI 7)) ^^^ (ushr ((((h 4 3) ^^^ (x1)) * (nI 40503)) + (nI 7)) (nI 15))) ^^^ (x2)) * (nI 40503)) + (nI 7)) (nI 15))), .inl (x3)]) (rest := [.inr 4]) (Q' := fun r h' => WP l E M_RW_add 74 [(0, .inr 4), (1, .inl (x1)), (2, .inl (x2)), (3, .inl (x3)), (4, .inl (x4)), (5, .inl ((h 4 2) * (nI 4)))] (rpush r [.inr 4]) h' _) d_RW_add_71 vb_RW_add_44 gw_2_41 rfl (Nat.le_of_ble_eq_true rfl) rfl (Nat.le_of_ble_eq_true rfl) ?_ (fun r h' z => z)
    show WP l E M_RS_mix 0 [(0, .inl (((((((((h 4 3) ^^^ (x1)) * (nI 40503)) + (nI 7)) ^^^ (ushr ((((h 4 3) ^^^ (x1)) * (nI 40503)) + (nI 7)) (nI 15))) ^^^ (x2)) * (nI 40503)) + (nI 7)) ^^^ (ushr ((((((((h 4 3) ^^^ (x1)) * (nI 40503)) + (nI 7)) ^^^ (ushr ((((h 4 3) ^^^ (x1)) * (nI 40503)) + (nI 7)) (nI 15))) ^^^ (x2)) * (nI 40503)) + (nI 7)) (nI 15)))), (1, .inl (x3))] [] (hw (hw (hw (hw h 15 (((h 4 2) * (nI 4)).toNatClampNeg) (x1)) 15 ((((h 4 2) * (nI 4)) + (nI 1)).toNatClampNeg) (x2)) 15 ((((h 4 2) * (nI 4)) + (nI 2)).toNatClampNeg) (x3)) 15 ((((h 4 2) * (nI 4)) + (nI 3)).toNatClampNeg) (x4)) _
    refine wp_iload_n d_RS_mix_0 rfl ?_
    refine wp_iload_n d_RS_mix_1 rfl ?_
    refine wp_ixor d_RS_mix_2 ?_
    refine wp_ldcN d_RS_mix_3 gw_2_43 c_lit_40503 ?_
    refine wp_imul d_RS_mix_5 ?_
    refine wp_bipush (v := nI 7) d_RS_mix_6 c_bipush_7 ?_
    refine wp_iadd d_RS_mix_8 ?_
    refine wp_istore_n (ls' := [(0, .inl (((((((((h 4 3) ^^^ (x1)) * (nI 40503)) + (nI 7)) ^^^ (ushr ((((h 4 3) ^^^ (x1)) * (nI 40503)) + (nI 7)) (nI 15))) ^^^ (x2)) * (nI 40503)) + (nI 7)) ^^^ (ushr ((((((((h 4 3) ^^^ (x1)) * (nI 40503)) + (nI 7)) ^^^ (ushr ((((h 4 3) ^^^ (x1)) * (nI 40503)) + (nI 7)) (nI 15))) ^^^ (x2)) * (nI 40503)) + (nI 7)) (nI 15)))), (1, .inl (x3)), (2, .inl ((((((((((((h 4 3) ^^^ (x1)) * (nI 40503)) + (nI 7)) ^^^ (ushr ((((h 4 3) ^^^ (x1)) * (nI 40503)) + (nI 7)) (nI 15))) ^^^ (x2)) * (nI 40503)) + (nI 7)) ^^^ (ushr ((((((((h 4 3) ^^^ (x1)) * (nI 40503)) + (nI 7)) ^^^ (ushr ((((h 4 3) ^^^ (x1)) * (nI 40503)) + (nI 7)) (nI 15))) ^^^ (x2)) * (nI 40503)) + (nI 7)) (nI 15))) ^^^ (x3)) * (nI 40503)) + (nI 7)))]) d_RS_mix_9 (by decide) rfl ?_
    refine wp_iload_n d_RS_mix_10 rfl ?_
    refine wp_iload_n d_RS_mix_11 rfl ?_
    refine wp_bipush (v := nI 15) d_RS_mix_12 c_bipush_15 ?_
    refine wp_iushr d_RS_mix_14 ?_
    refine wp_ixor d_RS_mix_15 ?_
    refine wp_ireturn d_RS_mix_16 rfl ?_
    show WP l E M_RW_add 74 [(0, .inr 4), (1, .inl (x1)), (2, .inl (x2)), (3, .inl (x3)), (4, .inl (x4)), (5, .inl ((h 4 2) * (nI 4)))] [.inl (((((((((((((h 4 3) ^^^ (x1)) * (nI 40503)) + (nI 7)) ^^^ (ushr ((((h 4 3) ^^^ (x1)) * (nI 40503)) + (nI 7)) (nI 15))) ^^^ (x2)) * (nI 40503)) + (nI 7)) ^^^ (ushr ((((((((h 4 3) ^^^ (x1)) * (nI 40503)) + (nI 7)) ^^^ (ushr ((((h 4 3) ^^^ (x1)) * (nI 40503)) + (nI 7)) (nI 15))) ^^^ (x2)) * (nI 40503)) + (nI 7)) (nI 15))) ^^^ (x3)) * (nI 40503)) + (nI 7)) ^^^ (ushr ((((((((((((h 4 3) ^^^ (x1)) * (nI 40503)) + (nI 7)) ^^^ (ushr ((((h 4 3) ^^^ (x1)) * (nI 40503)) + (nI 7)) (nI 15))) ^^^ (x2)) * (nI 40503)) + (nI 7)) ^^^ (ushr ((((((((h 4 3) ^^^ (x1)) * (nI 40503)) + (nI 7)) ^^^ (ushr ((((h 4 3) ^^^ (x1)) * (nI 40503)) + (nI 7)) (nI 15))) ^^^ (x2)) * (nI 40503)) + (nI 7)) (nI 15))) ^^^ (x3)) * (nI 40503)) + (nI 7)) (nI 15))), .inr 4] (hw (hw (hw (hw h 15 (((h 4 2) * (nI 4)).toNatClampNeg) (x1)) 15 ((((h 4 2) * (nI 4)) + (nI 1)).toNatClampNeg) (x2)) 15 ((((h 4 2) * (nI 4)) + (nI 2)).toNatClampNeg) (x3)) 15 ((((h 4 2) * (nI 4)) + (nI 3)).toNatClampNeg) (x4)) _
    refine wp_iload d_RW_add_74 rfl ?_
    refine wp_callS (as := [.inl (((((((((((((h 4 3) ^^^ (x1)) * (nI 40503)) + (nI 7)) ^^^ (ushr ((((h 4 3) ^^^ (x1)) * (nI 40503)) + (nI 7)) (nI 15))) ^^^ (x2)) * (nI 40503)) + (nI 7)) ^^^ (ushr ((((((((h 4 3) ^^^ (x1)) * (nI 40503)) + (nI 7)) ^^^ (ushr ((((h 4 3) ^^^ (x1)) * (nI 40503)) + (nI 7)) (nI 15))) ^^^ (x2)) * (nI 40503)) + (nI 7)) (nI 15))) ^^^ (x3)) * (nI 40503)) + (nI 7)) ^^^ (ushr ((((((((((((h 4 3) ^^^ (x1)) * (nI 40503)) + (nI 7)) ^^^ (ushr ((((h 4 3) ^^^ (x1)) * (nI 40503)) + (nI 7)) (nI 15))) ^^^ (x2)) * (nI 40503)) + (nI 7)) ^^^ (ushr ((((((((h 4 3) ^^^ (x1)) * (nI 40503)) + (nI 7)) ^^^ (ushr ((((h 4 3) ^^^ (x1)) * (nI 40503)) + (nI 7)) (nI 15))) ^^^ (x2)) * (nI 40503)) + (nI 7)) (nI 15))) ^^^ (x3)) * (nI 40503)) + (nI 7)) (nI 15))), .inl (x4)]) (rest := [.inr 4]) (Q' := fun r h' => WP l E M_RW_add 79 [(0, .inr 4), (1, .inl (x1)), (2, .inl (x2)), (3, .inl (x3)), (4, .inl (x4)), (5, .inl ((h 4 2) * (nI 4)))] (rpush r [.inr 4]) h' _) d_RW_add_76 vb_RW_add_44 gw_2_41 rfl (Nat.le_of_ble_eq_true rfl) rfl (Nat.le_of_ble_eq_true rfl) ?_ (fun r h' z => z)
    show WP l E M_RS_mix 0 [(0, .inl (((((((((((((h 4 3) ^^^ (x1)) * (nI 40503)) + (nI 7)) ^^^ (ushr ((((h 4 3) ^^^ (x1)) * (nI 40503)) + (nI 7)) (nI 15))) ^^^ (x2)) * (nI 40503)) + (nI 7)) ^^^ (ushr ((((((((h 4 3) ^^^ (x1)) * (nI 40503)) + (nI 7)) ^^^ (ushr ((((h 4 3) ^^^ (x1)) * (nI 40503)) + (nI 7)) (nI 15))) ^^^ (x2)) * (nI 40503)) + (nI 7)) (nI 15))) ^^^ (x3)) * (nI 40503)) + (nI 7)) ^^^ (ushr ((((((((((((h 4 3) ^^^ (x1)) * (nI 40503)) + (nI 7)) ^^^ (ushr ((((h 4 3) ^^^ (x1)) * (nI 40503)) + (nI 7)) (nI 15))) ^^^ (x2)) * (nI 40503)) + (nI 7)) ^^^ (ushr ((((((((h 4 3) ^^^ (x1)) * (nI 40503)) + (nI 7)) ^^^ (ushr ((((h 4 3) ^^^ (x1)) * (nI 40503)) + (nI 7)) (nI 15))) ^^^ (x2)) * (nI 40503)) + (nI 7)) (nI 15))) ^^^ (x3)) * (nI 40503)) + (nI 7)) (nI 15)))), (1, .inl (x4))] [] (hw (hw (hw (hw h 15 (((h 4 2) * (nI 4)).toNatClampNeg) (x1)) 15 ((((h 4 2) * (nI 4)) + (nI 1)).toNatClampNeg) (x2)) 15 ((((h 4 2) * (nI 4)) + (nI 2)).toNatClampNeg) (x3)) 15 ((((h 4 2) * (nI 4)) + (nI 3)).toNatClampNeg) (x4)) _
    refine wp_iload_n d_RS_mix_0 rfl ?_
    refine wp_iload_n d_RS_mix_1 rfl ?_
    refine wp_ixor d_RS_mix_2 ?_
    refine wp_ldcN d_RS_mix_3 gw_2_43 c_lit_40503 ?_
    refine wp_imul d_RS_mix_5 ?_
    refine wp_bipush (v := nI 7) d_RS_mix_6 c_bipush_7 ?_
    refine wp_iadd d_RS_mix_8 ?_
    refine wp_istore_n (ls' := [(0, .inl (((((((((((((h 4 3) ^^^ (x1)) * (nI 40503)) + (nI 7)) ^^^ (ushr ((((h 4 3) ^^^ (x1)) * (nI 40503)) + (nI 7)) (nI 15))) ^^^ (x2)) * (nI 40503)) + (nI 7)) ^^^ (ushr ((((((((h 4 3) ^^^ (x1)) * (nI 40503)) + (nI 7)) ^^^ (ushr ((((h 4 3) ^^^ (x1)) * (nI 40503)) + (nI 7)) (nI 15))) ^^^ (x2)) * (nI 40503)) + (nI 7)) (nI 15))) ^^^ (x3)) * (nI 40503)) + (nI 7)) ^^^ (ushr ((((((((((((h 4 3) ^^^ (x1)) * (nI 40503)) + (nI 7)) ^^^ (ushr ((((h 4 3) ^^^ (x1)) * (nI 40503)) + (nI 7)) (nI 15))) ^^^ (x2)) * (nI 40503)) + (nI 7)) ^^^ (ushr ((((((((h 4 3) ^^^ (x1)) * (nI 40503)) + (nI 7)) ^^^ (ushr ((((h 4 3) ^^^ (x1)) * (nI 40503)) + (nI 7)) (nI 15))) ^^^ (x2)) * (nI 40503)) + (nI 7)) (nI 15))) ^^^ (x3)) * (nI 40503)) + (nI 7)) (nI 15)))), (1, .inl (x4)), (2, .inl ((((((((((((((((h 4 3) ^^^ (x1)) * (nI 40503)) + (nI 7)) ^^^ (ushr ((((h 4 3) ^^^ (x1)) * (nI 40503)) + (nI 7)) (nI 15))) ^^^ (x2)) * (nI 40503)) + (nI 7)) ^^^ (ushr ((((((((h 4 3) ^^^ (x1)) * (nI 40503)) + (nI 7)) ^^^ (ushr ((((h 4 3) ^^^ (x1)) * (nI 40503)) + (nI 7)) (nI 15))) ^^^ (x2)) * (nI 40503)) + (nI 7)) (nI 15))) ^^^ (x3)) * (nI 40503)) + (nI 7)) ^^^ (ushr ((((((((((((h 4 3) ^^^ (x1)) * (nI 40503)) + (nI 7)) ^^^ (ushr ((((h 4 3) ^^^ (x1)) * (nI 40503)) + (nI 7)) (nI 15))) ^^^ (x2)) * (nI 40503)) + (nI 7)) ^^^ (ushr ((((((((h 4 3) ^^^ (x1)) * (nI 40503)) + (nI 7)) ^^^ (ushr ((((h 4 3) ^^^ (x1)) * (nI 40503)) + (nI 7)) (nI 15))) ^^^ (x2)) * (nI 40503)) + (nI 7)) (nI 15))) ^^^ (x3)) * (nI 40503)) + (nI 7)) (nI 15))) ^^^ (x4)) * (nI 40503)) + (nI 7)))]) d_RS_mix_9 (by decide) rfl ?_
    refine wp_iload_n d_RS_mix_10 rfl ?_
    refine wp_iload_n d_RS_mix_11 rfl ?_
    refine wp_bipush (v := nI 15) d_RS_mix_12 c_bipush_15 ?_
    refine wp_iushr d_RS_mix_14 ?_
    refine wp_ixor d_RS_mix_15 ?_
    refine wp_ireturn d_RS_mix_16 rfl ?_
    show WP l E M_RW_add 79 [(0, .inr 4), (1, .inl (x1)), (2, .inl (x2)), (3, .inl (x3)), (4, .inl (x4)), (5, .inl ((h 4 2) * (nI 4)))] [.inl (((((((((((((((((h 4 3) ^^^ (x1)) * (nI 40503)) + (nI 7)) ^^^ (ushr ((((h 4 3) ^^^ (x1)) * (nI 40503)) + (nI 7)) (nI 15))) ^^^ (x2)) * (nI 40503)) + (nI 7)) ^^^ (ushr ((((((((h 4 3) ^^^ (x1)) * (nI 40503)) + (nI 7)) ^^^ (ushr ((((h 4 3) ^^^ (x1)) * (nI 40503)) + (nI 7)) (nI 15))) ^^^ (x2)) * (nI 40503)) + (nI 7)) (nI 15))) ^^^ (x3)) * (nI 40503)) + (nI 7)) ^^^ (ushr ((((((((((((h 4 3) ^^^ (x1)) * (nI 40503)) + (nI 7)) ^^^ (ushr ((((h 4 3) ^^^ (x1)) * (nI 40503)) + (nI 7)) (nI 15))) ^^^ (x2)) * (nI 40503)) + (nI 7)) ^^^ (ushr ((((((((h 4 3) ^^^ (x1)) * (nI 40503)) + (nI 7)) ^^^ (ushr ((((h 4 3) ^^^ (x1)) * (nI 40503)) + (nI 7)) (nI 15))) ^^^ (x2)) * (nI 40503)) + (nI 7)) (nI 15))) ^^^ (x3)) * (nI 40503)) + (nI 7)) (nI 15))) ^^^ (x4)) * (nI 40503)) + (nI 7)) ^^^ (ushr ((((((((((((((((h 4 3) ^^^ (x1)) * (nI 40503)) + (nI 7)) ^^^ (ushr ((((h 4 3) ^^^ (x1)) * (nI 40503)) + (nI 7)) (nI 15))) ^^^ (x2)) * (nI 40503)) + (nI 7)) ^^^ (ushr ((((((((h 4 3) ^^^ (x1)) * (nI 40503)) + (nI 7)) ^^^ (ushr ((((h 4 3) ^^^ (x1)) * (nI 40503)) + (nI 7)) (nI 15))) ^^^ (x2)) * (nI 40503)) + (nI 7)) (nI 15))) ^^^ (x3)) * (nI 40503)) + (nI 7)) ^^^ (ushr ((((((((((((h 4 3) ^^^ (x1)) * (nI 40503)) + (nI 7)) ^^^ (ushr ((((h 4 3) ^^^ (x1)) * (nI 40503)) + (nI 7)) (nI 15))) ^^^ (x2)) * (nI 40503)) + (nI 7)) ^^^ (ushr ((((((((h 4 3) ^^^ (x1)) * (nI 40503)) + (nI 7)) ^^^ (ushr ((((h 4 3) ^^^ (x1)) * (nI 40503)) + (nI 7)) (nI 15))) ^^^ (x2)) * (nI 40503)) + (nI 7)) (nI 15))) ^^^ (x3)) * (nI 40503)) + (nI 7)) (nI 15))) ^^^ (x4)) * (nI 40503)) + (nI 7)) (nI 15))), .inr 4] (hw (hw (hw (hw h 15 (((h 4 2) * (nI 4)).toNatClampNeg) (x1)) 15 ((((h 4 2) * (nI 4)) + (nI 1)).toNatClampNeg) (x2)) 15 ((((h 4 2) * (nI 4)) + (nI 2)).toNatClampNeg) (x3)) 15 ((((h 4 2) * (nI 4)) + (nI 3)).toNatClampNeg) (x4)) _
    refine wp_putI d_RW_add_79 fm_RW_22 rfl rfl ?_
    refine wp_aload_n d_RW_add_82 rfl ?_
    refine wp_dup d_RW_add_83 ?_
    refine wp_getI d_RW_add_84 fl_RW_18 rfl rfl ?_
    show WP l E M_RW_add 87 [(0, .inr 4), (1, .inl (x1)), (2, .inl (x2)), (3, .inl (x3)), (4, .inl (x4)), (5, .inl ((h 4 2) * (nI 4)))] [.inl (h 4 2), .inr 4] (hw (hw (hw (hw (hw h 15 (((h 4 2) * (nI 4)).toNatClampNeg) (x1)) 15 ((((h 4 2) * (nI 4)) + (nI 1)).toNatClampNeg) (x2)) 15 ((((h 4 2) * (nI 4)) + (nI 2)).toNatClampNeg) (x3)) 15 ((((h 4 2) * (nI 4)) + (nI 3)).toNatClampNeg) (x4)) 4 3 (((((((((((((((((h 4 3) ^^^ (x1)) * (nI 40503)) + (nI 7)) ^^^ (ushr ((((h 4 3) ^^^ (x1)) * (nI 40503)) + (nI 7)) (nI 15))) ^^^ (x2)) * (nI 40503)) + (nI 7)) ^^^ (ushr ((((((((h 4 3) ^^^ (x1)) * (nI 40503)) + (nI 7)) ^^^ (ushr ((((h 4 3) ^^^ (x1)) * (nI 40503)) + (nI 7)) (nI 15))) ^^^ (x2)) * (nI 40503)) + (nI 7)) (nI 15))) ^^^ (x3)) * (nI 40503)) + (nI 7)) ^^^ (ushr ((((((((((((h 4 3) ^^^ (x1)) * (nI 40503)) + (nI 7)) ^^^ (ushr ((((h 4 3) ^^^ (x1)) * (nI 40503)) + (nI 7)) (nI 15))) ^^^ (x2)) * (nI 40503)) + (nI 7)) ^^^ (ushr ((((((((h 4 3) ^^^ (x1)) * (nI 40503)) + (nI 7)) ^^^ (ushr ((((h 4 3) ^^^ (x1)) * (nI 40503)) + (nI 7)) (nI 15))) ^^^ (x2)) * (nI 40503)) + (nI 7)) (nI 15))) ^^^ (x3)) * (nI 40503)) + (nI 7)) (nI 15))) ^^^ (x4)) * (nI 40503)) + (nI 7)) ^^^ (ushr ((((((((((((((((h 4 3) ^^^ (x1)) * (nI 40503)) + (nI 7)) ^^^ (ushr ((((h 4 3) ^^^ (x1)) * (nI 40503)) + (nI 7)) (nI 15))) ^^^ (x2)) * (nI 40503)) + (nI 7)) ^^^ (ushr ((((((((h 4 3) ^^^ (x1)) * (nI 40503)) + (nI 7)) ^^^ (ushr ((((h 4 3) ^^^ (x1)) * (nI 40503)) + (nI 7)) (nI 15))) ^^^ (x2)) * (nI 40503)) + (nI 7)) (nI 15))) ^^^ (x3)) * (nI 40503)) + (nI 7)) ^^^ (ushr ((((((((((((h 4 3) ^^^ (x1)) * (nI 40503)) + (nI 7)) ^^^ (ushr ((((h 4 3) ^^^ (x1)) * (nI 40503)) + (nI 7)) (nI 15))) ^^^ (x2)) * (nI 40503)) + (nI 7)) ^^^ (ushr ((((((((h 4 3) ^^^ (x1)) * (nI 40503)) + (nI 7)) ^^^ (ushr ((((h 4 3) ^^^ (x1)) * (nI 40503)) + (nI 7)) (nI 15))) ^^^ (x2)) * (nI 40503)) + (nI 7)) (nI 15))) ^^^ (x3)) * (nI 40503)) + (nI 7)) (nI 15))) ^^^ (x4)) * (nI 40503)) + (nI 7)) (nI 15)))) _
    refine wp_iconst (v := nI 1) d_RW_add_87 c_iconst_1 ?_
    refine wp_iadd d_RW_add_88 ?_
    refine wp_putI d_RW_add_89 fm_RW_18 rfl rfl ?_
    refine wp_return d_RW_add_92 rfl ?_
    exact e1 c1
  · refine wp_return d_RW_add_9 rfl ?_
    exact e2 c1
