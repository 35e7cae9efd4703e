set_option maxRecDepth 100000 in
set_option maxHeartbeats 4000000 in
theorem k_RS_put_0 {l : Launch} {E : xE} {x1 x2 x3 : Int32} {h : xh} {Q : Option Int32 → xh → Prop}
    (e1 : (h 0 6) = 0 → Q (some (nI 0)) h)
    (e2 : ¬ (h 0 6) = 0 → (h 6 2) = 0 → x1 < 0 → Q (some (nI 0)) h)
    (e3 : ¬ (h 0 6) = 0 → (h 6 2) = 0 → ¬ x1 < 0 → (nI 16) ≤ x1 → Q (some (nI 0)) h)
    (e4 : ¬ (h 0 6) = 0 → (h 6 2) = 0 → ¬ x1 < 0 → ¬ (nI 16) ≤ x1 → x2 < 0 → Q (some (nI 0)) h)
    (e5 : ¬ (h 0 6) = 0 → (h 6 2) = 0 → ¬ x1 < 0 → ¬ (nI 16) ≤ x1 → ¬ x2 < 0 → (nI 4) ≤ x2 → Q (some (nI 0)) h)
    (o1 : ¬ (h 0 6) = 0 → (h 6 2) = 0 → ¬ x1 < 0 → ¬ (nI 16) ≤ x1 → ¬ x2 < 0 → ¬ (nI 4) ≤ x2 → vp_in (x1) 16)
    (o2 : ¬ (h 0 6) = 0 → (h 6 2) = 0 → ¬ x1 < 0 → ¬ (nI 16) ≤ x1 → ¬ x2 < 0 → ¬ (nI 4) ≤ x2 → h 11 ((x1).toNatClampNeg) = 0 ∨ h 11 ((x1).toNatClampNeg) = 1)
    (o3 : ¬ (h 0 6) = 0 → (h 6 2) = 0 → ¬ x1 < 0 → ¬ (nI 16) ≤ x1 → ¬ x2 < 0 → ¬ (nI 4) ≤ x2 → (h 11 ((x1).toNatClampNeg)) ≠ 0 → vp_in (((x1) * (nI 4)) + (x2)) 64)
    (e6 : ¬ (h 0 6) = 0 → (h 6 2) = 0 → ¬ x1 < 0 → ¬ (nI 16) ≤ x1 → ¬ x2 < 0 → ¬ (nI 4) ≤ x2 → (h 11 ((x1).toNatClampNeg)) ≠ 0 → Q (some (nI 1)) (hw h 12 ((((x1) * (nI 4)) + (x2)).toNatClampNeg) (x3)))
    (e7 : ¬ (h 0 6) = 0 → (h 6 2) = 0 → ¬ x1 < 0 → ¬ (nI 16) ≤ x1 → ¬ x2 < 0 → ¬ (nI 4) ≤ x2 → (h 11 ((x1).toNatClampNeg)) = 0 → (h 2 2) < (nI 8) → MC l E M_RS_beginImage [.inr 0, .inl (x1)] h (fun r h' => WP l E M_RS_put 47 [(0, .inr 0), (1, .inl (x1)), (2, .inl (x2)), (3, .inl (x3))] (rpush r []) h' Q))
    (e8 : ¬ (h 0 6) = 0 → (h 6 2) = 0 → ¬ x1 < 0 → ¬ (nI 16) ≤ x1 → ¬ x2 < 0 → ¬ (nI 4) ≤ x2 → (h 11 ((x1).toNatClampNeg)) = 0 → ¬ (h 2 2) < (nI 8) → Q (some (nI 0)) h)
    (e9 : ¬ (h 0 6) = 0 → ¬ (h 6 2) = 0 → Q (some (nI 0)) h) : MC l E M_RS_put [.inr 0, .inl (x1), .inl (x2), .inl (x3)] h Q := by
  refine wp_aload_n d_RS_put_0 rfl ?_
  refine wp_callV (as := []) (rest := []) (Q' := fun r h' => WP l E M_RS_put 4 [(0, .inr 0), (1, .inl (x1)), (2, .inl (x2)), (3, .inl (x3))] (rpush r []) h' _) d_RS_put_1 vb_RS_put_51 ⟨gw_1_192, sw_1⟩ rfl rfl rfl rfl (Nat.le_of_ble_eq_true rfl) rfl (Nat.le_of_ble_eq_true rfl) ?_ (fun r h' z => z)
  show WP l E M_RS_isIdle 0 [(0, .inr 0)] [] h _
  refine wp_aload_n d_RS_isIdle_0 rfl ?_
  refine wp_getI d_RS_isIdle_1 fl_RS_127 rfl rfl ?_
  refine wp_if_eq (tgt := 21) d_RS_isIdle_4 (by decide) (fun c1 => ?_) (fun c1 => ?_)
  · refine wp_iconst (v := nI 0) d_RS_isIdle_21 c_iconst_0 ?_
    refine wp_zreturn d_RS_isIdle_22 rfl (by decide) ?_
    show WP l E M_RS_put 4 [(0, .inr 0), (1, .inl (x1)), (2, .inl (x2)), (3, .inl (x3))] [.inl (nI 0)] h _
    refine wp_if_eq (tgt := 15) d_RS_put_4 (by decide) (fun _ => ?_) (fun z => absurd z (by decide +kernel))
    refine wp_iconst (v := nI 0) d_RS_put_15 c_iconst_0 ?_
    refine wp_zreturn d_RS_put_16 rfl (by decide) ?_
    exact e1 c1
  · refine wp_aload_n d_RS_isIdle_7 rfl ?_
    refine wp_getR d_RS_isIdle_8 fl_RS_43 rfl rfl ?_
    refine wp_callV (as := []) (rest := []) (Q' := fun r h' => WP l E M_RS_isIdle 14 [(0, .inr 0)] (rpush r []) h' _) d_RS_isIdle_11 vb_RS_isIdle_131 ⟨gw_1_195, gw_1_196⟩ rfl rfl rfl rfl (Nat.le_of_ble_eq_true rfl) rfl (Nat.le_of_ble_eq_true rfl) ?_ (fun r h' z => z)
    show WP l E M_JB_isRunning 0 [(0, .inr 6)] [] h _
    refine wp_aload_n d_JB_isRunning_0 rfl ?_
    refine wp_getI d_JB_isRunning_1 fl_JB_18 rfl rfl ?_
    refine wp_if_eq (tgt := 11) d_JB_isRunning_4 (by decide) (fun c2 => ?_) (fun c2 => ?_)
    · refine wp_iconst (v := nI 0) d_JB_isRunning_11 c_iconst_0 ?_
      refine wp_zreturn d_JB_isRunning_12 rfl (by decide) ?_
      show WP l E M_RS_isIdle 14 [(0, .inr 0)] [.inl (nI 0)] h _
      refine wp_if_ne (tgt := 21) d_RS_isIdle_14 (by decide) (fun z => absurd z (by decide +kernel)) (fun _ => ?_)
      refine wp_iconst (v := nI 1) d_RS_isIdle_17 c_iconst_1 ?_
      refine wp_goto (tgt := 22) d_RS_isIdle_18 (by decide) ?_
      refine wp_zreturn d_RS_isIdle_22 rfl (by decide) ?_
      show WP l E M_RS_put 4 [(0, .inr 0), (1, .inl (x1)), (2, .inl (x2)), (3, .inl (x3))] [.inl (nI 1)] h _
      refine wp_if_eq (tgt := 15) d_RS_put_4 (by decide) (fun z => absurd z (by decide +kernel)) (fun _ => ?_)
      refine wp_iload_n d_RS_put_7 rfl ?_
      refine wp_iload_n d_RS_put_8 rfl ?_
      refine wp_callS (as := [.inl (x1), .inl (x2)]) (rest := []) (Q' := fun r h' => WP l E M_RS_put 12 [(0, .inr 0), (1, .inl (x1)), (2, .inl (x2)), (3, .inl (x3))] (rpush r []) h' _) d_RS_put_9 vb_RS_put_55 gw_1_199 rfl (Nat.le_of_ble_eq_true rfl) rfl (Nat.le_of_ble_eq_true rfl) ?_ (fun r h' z => z)
      show WP l E M_RS_isBlockWord 0 [(0, .inl (x1)), (1, .inl (x2))] [] h _
      refine wp_iload_n d_RS_isBlockWord_0 rfl ?_
      refine wp_callS (as := [.inl (x1)]) (rest := []) (Q' := fun r h' => WP l E M_RS_isBlockWord 4 [(0, .inl (x1)), (1, .inl (x2))] (rpush r []) h' _) d_RS_isBlockWord_1 vb_RS_isBlockWord_75 gw_1_202 rfl (Nat.le_of_ble_eq_true rfl) rfl (Nat.le_of_ble_eq_true rfl) ?_ (fun r h' z => z)
      show WP l E M_RS_isBlock 0 [(0, .inl (x1))] [] h _
      refine wp_iload_n d_RS_isBlock_0 rfl ?_
      refine wp_if_lt (tgt := 14) d_RS_isBlock_1 (by decide) (fun c3 => ?_) (fun c3 => ?_)
      · refine wp_iconst (v := nI 0) d_RS_isBlock_14 c_iconst_0 ?_
        refine wp_zreturn d_RS_isBlock_15 rfl (by decide) ?_
        show WP l E M_RS_isBlockWord 4 [(0, .inl (x1)), (1, .inl (x2))] [.inl (nI 0)] h _
        refine wp_if_eq (tgt := 20) d_RS_isBlockWord_4 (by decide) (fun _ => ?_) (fun z => absurd z (by decide +kernel))
        refine wp_iconst (v := nI 0) d_RS_isBlockWord_20 c_iconst_0 ?_
        refine wp_zreturn d_RS_isBlockWord_21 rfl (by decide) ?_
        show WP l E M_RS_put 12 [(0, .inr 0), (1, .inl (x1)), (2, .inl (x2)), (3, .inl (x3))] [.inl (nI 0)] h _
        refine wp_if_ne (tgt := 17) d_RS_put_12 (by decide) (fun z => absurd z (by decide +kernel)) (fun _ => ?_)
        refine wp_iconst (v := nI 0) d_RS_put_15 c_iconst_0 ?_
        refine wp_zreturn d_RS_put_16 rfl (by decide) ?_
        exact e2 c1 c2 c3
      · refine wp_iload_n d_RS_isBlock_4 rfl ?_
        refine wp_bipush (v := nI 16) d_RS_isBlock_5 c_bipush_16 ?_
        refine wp_ic_ge (tgt := 14) d_RS_isBlock_7 (by decide) (fun c4 => ?_) (fun c4 => ?_)
        · refine wp_iconst (v := nI 0) d_RS_isBlock_14 c_iconst_0 ?_
          refine wp_zreturn d_RS_isBlock_15 rfl (by decide) ?_
          show WP l E M_RS_isBlockWord 4 [(0, .inl (x1)), (1, .inl (x2))] [.inl (nI 0)] h _
          refine wp_if_eq (tgt := 20) d_RS_isBlockWord_4 (by decide) (fun _ => ?_) (fun z => absurd z (by decide +kernel))
          refine wp_iconst (v := nI 0) d_RS_isBlockWord_20 c_iconst_0 ?_
          refine wp_zreturn d_RS_isBlockWord_21 rfl (by decide) ?_
          show WP l E M_RS_put 12 [(0, .inr 0), (1, .inl (x1)), (2, .inl (x2)), (3, .inl (x3))] [.inl (nI 0)] h _
          refine wp_if_ne (tgt := 17) d_RS_put_12 (by decide) (fun z => absurd z (by decide +kernel)) (fun _ => ?_)
          refine wp_iconst (v := nI 0) d_RS_put_15 c_iconst_0 ?_
          refine wp_zreturn d_RS_put_16 rfl (by decide) ?_
          exact e3 c1 c2 c3 c4
        · refine wp_iconst (v := nI 1) d_RS_isBlock_10 c_iconst_1 ?_
          refine wp_goto (tgt := 15) d_RS_isBlock_11 (by decide) ?_
          refine wp_zreturn d_RS_isBlock_15 rfl (by decide) ?_
          show WP l E M_RS_isBlockWord 4 [(0, .inl (x1)), (1, .inl (x2))] [.inl (nI 1)] h _
          refine wp_if_eq (tgt := 20) d_RS_isBlockWord_4 (by decide) (fun z => absurd z (by decide +kernel)) (fun _ => ?_)
          refine wp_iload_n d_RS_isBlockWord_7 rfl ?_
          refine wp_if_lt (tgt := 20) d_RS_isBlockWord_8 (by decide) (fun c5 => ?_) (fun c5 => ?_)
          · refine wp_iconst (v := nI 0) d_RS_isBlockWord_20 c_iconst_0 ?_
            refine wp_zreturn d_RS_isBlockWord_21 rfl (by decide) ?_
            show WP l E M_RS_put 12 [(0, .inr 0), (1, .inl (x1)), (2, .inl (x2)), (3, .inl (x3))] [.inl (nI 0)] h _
            refine wp_if_ne (tgt := 17) d_RS_put_12 (by decide) (fun z => absurd z (by decide +kernel)) (fun _ => ?_)
            refine wp_iconst (v := nI 0) d_RS_put_15 c_iconst_0 ?_
            refine wp_zreturn d_RS_put_16 rfl (by decide) ?_
            exact e4 c1 c2 c3 c4 c5
          · refine wp_iload_n d_RS_isBlockWord_11 rfl ?_
            refine wp_iconst (v := nI 4) d_RS_isBlockWord_12 c_iconst_4 ?_
            refine wp_ic_ge (tgt := 20) d_RS_isBlockWord_13 (by decide) (fun c6 => ?_) (fun c6 => ?_)
            · refine wp_iconst (v := nI 0) d_RS_isBlockWord_20 c_iconst_0 ?_
              refine wp_zreturn d_RS_isBlockWord_21 rfl (by decide) ?_
              show WP l E M_RS_put 12 [(0, .inr 0), (1, .inl (x1)), (2, .inl (x2)), (3, .inl (x3))] [.inl (nI 0)] h _
              refine wp_if_ne (tgt := 17) d_RS_put_12 (by decide) (fun z => absurd z (by decide +kernel)) (fun _ => ?_)
              refine wp_iconst (v := nI 0) d_RS_put_15 c_iconst_0 ?_
              refine wp_zreturn d_RS_put_16 rfl (by decide) ?_
              exact e5 c1 c2 c3 c4 c5 c6
            · refine wp_iconst (v := nI 1) d_RS_isBlockWord_16 c_iconst_1 ?_
              refine wp_goto (tgt := 21) d_RS_isBlockWord_17 (by decide) ?_
              refine wp_zreturn d_RS_isBlockWord_21 rfl (by decide) ?_
              show WP l E M_RS_put 12 [(0, .inr 0), (1, .inl (x1)), (2, .inl (x2)), (3, .inl (x3))] [.inl (nI 1)] h _
              refine wp_if_ne (tgt := 17) d_RS_put_12 (by decide) (fun _ => ?_) (fun z => absurd z (by decide +kernel))
              refine wp_aload_n d_RS_put_17 rfl ?_
              refine wp_getR d_RS_put_18 fl_RS_19 rfl rfl ?_
              refine wp_iload_n d_RS_put_21 rfl ?_
              refine wp_callV (as := [.inl (x1)]) (rest := []) (Q' := fun r h' => WP l E M_RS_put 25 [(0, .inr 0), (1, .inl (x1)), (2, .inl (x2)), (3, .inl (x3))] (rpush r []) h' _) d_RS_put_22 vb_RS_put_59 ⟨gw_1_205, gw_1_206⟩ rfl rfl rfl rfl (Nat.le_of_ble_eq_true rfl) rfl (Nat.le_of_ble_eq_true rfl) ?_ (fun r h' z => z)
              show WP l E M_IM_holds 0 [(0, .inr 2), (1, .inl (x1))] [] h _
              refine wp_aload_n d_IM_holds_0 rfl ?_
              refine wp_getR d_IM_holds_1 fl_IM_9 rfl rfl ?_
              refine wp_iload_n d_IM_holds_4 rfl ?_
              refine wp_baload d_IM_holds_5 rfl (o1 c1 c2 c3 c4 c5 c6) ?_
              refine wp_zreturn d_IM_holds_6 rfl (o2 c1 c2 c3 c4 c5 c6) ?_
              show WP l E M_RS_put 25 [(0, .inr 0), (1, .inl (x1)), (2, .inl (x2)), (3, .inl (x3))] [.inl (h 11 ((x1).toNatClampNeg))] h _
              refine wp_if_ne (tgt := 47) d_RS_put_25 (by decide) (fun c7 => ?_) (fun c7 => ?_)
              · refine wp_aload_n d_RS_put_47 rfl ?_
                refine wp_getR d_RS_put_48 fl_RS_19 rfl rfl ?_
                refine wp_iload_n d_RS_put_51 rfl ?_
                refine wp_iload_n d_RS_put_52 rfl ?_
                refine wp_iload_n d_RS_put_53 rfl ?_
                refine wp_callV (as := [.inl (x1), .inl (x2), .inl (x3)]) (rest := []) (Q' := fun r h' => WP l E M_RS_put 57 [(0, .inr 0), (1, .inl (x1)), (2, .inl (x2)), (3, .inl (x3))] (rpush r []) h' _) d_RS_put_54 vb_RS_put_71 ⟨gw_1_233, gw_1_234⟩ rfl rfl rfl rfl (Nat.le_of_ble_eq_true rfl) rfl (Nat.le_of_ble_eq_true rfl) ?_ (fun r h' z => z)
                show WP l E M_IM_setWord 0 [(0, .inr 2), (1, .inl (x1)), (2, .inl (x2)), (3, .inl (x3))] [] h _
                refine wp_aload_n d_IM_setWord_0 rfl ?_
                refine wp_getR d_IM_setWord_1 fl_IM_15 rfl rfl ?_
                refine wp_iload_n d_IM_setWord_4 rfl ?_
                refine wp_iconst (v := nI 4) d_IM_setWord_5 c_iconst_4 ?_
                refine wp_imul d_IM_setWord_6 ?_
                refine wp_iload_n d_IM_setWord_7 rfl ?_
                refine wp_iadd d_IM_setWord_8 ?_
                refine wp_iload_n d_IM_setWord_9 rfl ?_
                refine wp_iastore d_IM_setWord_10 rfl (o3 c1 c2 c3 c4 c5 c6 c7) ?_
                refine wp_return d_IM_setWord_11 rfl ?_
                show WP l E M_RS_put 57 [(0, .inr 0), (1, .inl (x1)), (2, .inl (x2)), (3, .inl (x3))] [] (hw h 12 ((((x1) * (nI 4)) + (x2)).toNatClampNeg) (x3)) _
                refine wp_iconst (v := nI 1) d_RS_put_57 c_iconst_1 ?_
                refine wp_zreturn d_RS_put_58 rfl (by decide) ?_
                exact e6 c1 c2 c3 c4 c5 c6 c7
              · refine wp_aload_n d_RS_put_28 rfl ?_
                refine wp_getR d_RS_put_29 fl_RS_19 rfl rfl ?_
                refine wp_callV (as := []) (rest := []) (Q' := fun r h' => WP l E M_RS_put 35 [(0, .inr 0), (1, .inl (x1)), (2, .inl (x2)), (3, .inl (x3))] (rpush r []) h' _) d_RS_put_32 vb_RS_put_63 ⟨gw_1_209, gw_1_210⟩ rfl rfl rfl rfl (Nat.le_of_ble_eq_true rfl) rfl (Nat.le_of_ble_eq_true rfl) ?_ (fun r h' z => z)
                show WP l E M_IM_size 0 [(0, .inr 2)] [] h _
                refine wp_aload_n d_IM_size_0 rfl ?_
                refine wp_getI d_IM_size_1 fl_IM_19 rfl rfl ?_
                refine wp_ireturn d_IM_size_4 rfl ?_
                show WP l E M_RS_put 35 [(0, .inr 0), (1, .inl (x1)), (2, .inl (x2)), (3, .inl (x3))] [.inl (h 2 2)] h _
                refine wp_bipush (v := nI 8) d_RS_put_35 c_bipush_8 ?_
                refine wp_ic_lt (tgt := 42) d_RS_put_37 (by decide) (fun c8 => ?_) (fun c8 => ?_)
                · refine wp_aload_n d_RS_put_42 rfl ?_
                  refine wp_iload_n d_RS_put_43 rfl ?_
                  refine wp_callV (as := [.inl (x1)]) (rest := []) (Q' := fun r h' => WP l E M_RS_put 47 [(0, .inr 0), (1, .inl (x1)), (2, .inl (x2)), (3, .inl (x3))] (rpush r []) h' Q) d_RS_put_44 vb_RS_put_67 ⟨gw_1_214, sw_2⟩ rfl rfl rfl rfl (Nat.le_of_ble_eq_true rfl) rfl (Nat.le_of_ble_eq_true rfl) ?_ (fun r h' z => z)
                  exact e7 c1 c2 c3 c4 c5 c6 c7 c8
                · refine wp_iconst (v := nI 0) d_RS_put_40 c_iconst_0 ?_
                  refine wp_zreturn d_RS_put_41 rfl (by decide) ?_
                  exact e8 c1 c2 c3 c4 c5 c6 c7 c8
    · refine wp_iconst (v := nI 1) d_JB_isRunning_7 c_iconst_1 ?_
      refine wp_goto (tgt := 12) d_JB_isRunning_8 (by decide) ?_
      refine wp_zreturn d_JB_isRunning_12 rfl (by decide) ?_
      show WP l E M_RS_isIdle 14 [(0, .inr 0)] [.inl (nI 1)] h _
      refine wp_if_ne (tgt := 21) d_RS_isIdle_14 (by decide) (fun _ => ?_) (fun z => absurd z (by decide +kernel))
      refine wp_iconst (v := nI 0) d_RS_isIdle_21 c_iconst_0 ?_
      refine wp_zreturn d_RS_isIdle_22 rfl (by decide) ?_
      show WP l E M_RS_put 4 [(0, .inr 0), (1, .inl (x1)), (2, .inl (x2)), (3, .inl (x3))] [.inl (nI 0)] h _
      refine wp_if_eq (tgt := 15) d_RS_put_4 (by decide) (fun _ => ?_) (fun z => absurd z (by decide +kernel))
      refine wp_iconst (v := nI 0) d_RS_put_15 c_iconst_0 ?_
      refine wp_zreturn d_RS_put_16 rfl (by decide) ?_
      exact e9 c1 c2
set_option maxRecDepth 100000 in
set_option maxHeartbeats 4000000 in
theorem k_RS_put_47 {l : Launch} {E : xE} {x1 x2 x3 : Int32} {h : xh} {Q : Option Int32 → xh → Prop}
    (o1 : vp_in (((x1) * (nI 4)) + (x2)) 64)
    (e1 : Q (some (nI 1)) (hw h 12 ((((x1) * (nI 4)) + (x2)).toNatClampNeg) (x3))) : WP l E M_RS_put 47 [(0, .inr 0), (1, .inl (x1)), (2, .inl (x2)), (3, .inl (x3))] [] h Q := by
  refine wp_aload_n d_RS_put_47 rfl ?_
  refine wp_getR d_RS_put_48 fl_RS_19 rfl rfl ?_
  refine wp_iload_n d_RS_put_51 rfl ?_
  refine wp_iload_n d_RS_put_52 rfl ?_
  refine wp_iload_n d_RS_put_53 rfl ?_
  refine wp_callV (as := [.inl (x1), .inl (x2), .inl (x3)]) (rest := []) (Q' := fun r h' => WP l E M_RS_put 57 [(0, .inr 0), (1, .inl (x1)), (2, .inl (x2)), (3, .inl (x3))] (rpush r []) h' _) d_RS_put_54 vb_RS_put_71 ⟨gw_1_233, gw_1_234⟩ rfl rfl rfl rfl (Nat.le_of_ble_eq_true rfl) rfl (Nat.le_of_ble_eq_true rfl) ?_ (fun r h' z => z)
  show WP l E M_IM_setWord 0 [(0, .inr 2), (1, .inl (x1)), (2, .inl (x2)), (3, .inl (x3))] [] h _
  refine wp_aload_n d_IM_setWord_0 rfl ?_
  refine wp_getR d_IM_setWord_1 fl_IM_15 rfl rfl ?_
  refine wp_iload_n d_IM_setWord_4 rfl ?_
  refine wp_iconst (v := nI 4) d_IM_setWord_5 c_iconst_4 ?_
  refine wp_imul d_IM_setWord_6 ?_
  refine wp_iload_n d_IM_setWord_7 rfl ?_
  refine wp_iadd d_IM_setWord_8 ?_
  refine wp_iload_n d_IM_setWord_9 rfl ?_
  refine wp_iastore d_IM_setWord_10 rfl o1 ?_
  refine wp_return d_IM_setWord_11 rfl ?_
  show WP l E M_RS_put 57 [(0, .inr 0), (1, .inl (x1)), (2, .inl (x2)), (3, .inl (x3))] [] (hw h 12 ((((x1) * (nI 4)) + (x2)).toNatClampNeg) (x3)) _
  refine wp_iconst (v := nI 1) d_RS_put_57 c_iconst_1 ?_
  refine wp_zreturn d_RS_put_58 rfl (by decide) ?_
  exact e1
set_option maxRecDepth 100000 in
set_option maxHeartbeats 4000000 in
theorem k_RS_revoke_0 {l : Launch} {E : xE} {x1 : Int32} {h : xh} {Q : Option Int32 → xh → Prop}
    (e1 : (h 0 6) = 0 → Q (some (nI 0)) h)
    (e2 : ¬ (h 0 6) = 0 → (h 6 2) = 0 → x1 < 0 → Q (some (nI 0)) h)
    (e3 : ¬ (h 0 6) = 0 → (h 6 2) = 0 → ¬ x1 < 0 → (nI 16) ≤ x1 → Q (some (nI 0)) h)
    (e4 : ¬ (h 0 6) = 0 → (h 6 2) = 0 → ¬ x1 < 0 → ¬ (nI 16) ≤ x1 → MC l E M_IM_drop [.inr 2, .inl (x1)] h (fun r h' => WP l E M_RS_revoke 24 [(0, .inr 0), (1, .inl (x1))] (rpush r []) h' Q))
    (e5 : ¬ (h 0 6) = 0 → ¬ (h 6 2) = 0 → Q (some (nI 0)) h) : MC l E M_RS_revoke [.inr 0, .inl (x1)] h Q := by
  refine wp_aload_n d_RS_revoke_0 rfl ?_
  refine wp_callV (as := []) (rest := []) (Q' := fun r h' => WP l E M_RS_revoke 4 [(0, .inr 0), (1, .inl (x1))] (rpush r []) h' _) d_RS_revoke_1 vb_RS_revoke_51 ⟨gw_1_192, sw_1⟩ rfl rfl rfl rfl (Nat.le_of_ble_eq_true rfl) rfl (Nat.le_of_ble_eq_true rfl) ?_ (fun r h' z => z)
  show WP l E M_RS_isIdle 0 [(0, .inr 0)] [] h _
  refine wp_aload_n d_RS_isIdle_0 rfl ?_
  refine wp_getI d_RS_isIdle_1 fl_RS_127 rfl rfl ?_
  refine wp_if_eq (tgt := 21) d_RS_isIdle_4 (by decide) (fun c1 => ?_) (fun c1 => ?_)
  · refine wp_iconst (v := nI 0) d_RS_isIdle_21 c_iconst_0 ?_
    refine wp_zreturn d_RS_isIdle_22 rfl (by decide) ?_
    show WP l E M_RS_revoke 4 [(0, .inr 0), (1, .inl (x1))] [.inl (nI 0)] h _
    refine wp_if_eq (tgt := 14) d_RS_revoke_4 (by decide) (fun _ => ?_) (fun z => absurd z (by decide +kernel))
    refine wp_iconst (v := nI 0) d_RS_revoke_14 c_iconst_0 ?_
    refine wp_zreturn d_RS_revoke_15 rfl (by decide) ?_
    exact e1 c1
  · refine wp_aload_n d_RS_isIdle_7 rfl ?_
    refine wp_getR d_RS_isIdle_8 fl_RS_43 rfl rfl ?_
    refine wp_callV (as := []) (rest := []) (Q' := fun r h' => WP l E M_RS_isIdle 14 [(0, .inr 0)] (rpush r []) h' _) d_RS_isIdle_11 vb_RS_isIdle_131 ⟨gw_1_195, gw_1_196⟩ rfl rfl rfl rfl (Nat.le_of_ble_eq_true rfl) rfl (Nat.le_of_ble_eq_true rfl) ?_ (fun r h' z => z)
    show WP l E M_JB_isRunning 0 [(0, .inr 6)] [] h _
    refine wp_aload_n d_JB_isRunning_0 rfl ?_
    refine wp_getI d_JB_isRunning_1 fl_JB_18 rfl rfl ?_
    refine wp_if_eq (tgt := 11) d_JB_isRunning_4 (by decide) (fun c2 => ?_) (fun c2 => ?_)
    · refine wp_iconst (v := nI 0) d_JB_isRunning_11 c_iconst_0 ?_
      refine wp_zreturn d_JB_isRunning_12 rfl (by decide) ?_
      show WP l E M_RS_isIdle 14 [(0, .inr 0)] [.inl (nI 0)] h _
      refine wp_if_ne (tgt := 21) d_RS_isIdle_14 (by decide) (fun z => absurd z (by decide +kernel)) (fun _ => ?_)
      refine wp_iconst (v := nI 1) d_RS_isIdle_17 c_iconst_1 ?_
      refine wp_goto (tgt := 22) d_RS_isIdle_18 (by decide) ?_
      refine wp_zreturn d_RS_isIdle_22 rfl (by decide) ?_
      show WP l E M_RS_revoke 4 [(0, .inr 0), (1, .inl (x1))] [.inl (nI 1)] h _
      refine wp_if_eq (tgt := 14) d_RS_revoke_4 (by decide) (fun z => absurd z (by decide +kernel)) (fun _ => ?_)
      refine wp_iload_n d_RS_revoke_7 rfl ?_
      refine wp_callS (as := [.inl (x1)]) (rest := []) (Q' := fun r h' => WP l E M_RS_revoke 11 [(0, .inr 0), (1, .inl (x1))] (rpush r []) h' _) d_RS_revoke_8 vb_RS_revoke_75 gw_1_202 rfl (Nat.le_of_ble_eq_true rfl) rfl (Nat.le_of_ble_eq_true rfl) ?_ (fun r h' z => z)
      show WP l E M_RS_isBlock 0 [(0, .inl (x1))] [] h _
      refine wp_iload_n d_RS_isBlock_0 rfl ?_
      refine wp_if_lt (tgt := 14) d_RS_isBlock_1 (by decide) (fun c3 => ?_) (fun c3 => ?_)
      · refine wp_iconst (v := nI 0) d_RS_isBlock_14 c_iconst_0 ?_
        refine wp_zreturn d_RS_isBlock_15 rfl (by decide) ?_
        show WP l E M_RS_revoke 11 [(0, .inr 0), (1, .inl (x1))] [.inl (nI 0)] h _
        refine wp_if_ne (tgt := 16) d_RS_revoke_11 (by decide) (fun z => absurd z (by decide +kernel)) (fun _ => ?_)
        refine wp_iconst (v := nI 0) d_RS_revoke_14 c_iconst_0 ?_
        refine wp_zreturn d_RS_revoke_15 rfl (by decide) ?_
        exact e2 c1 c2 c3
      · refine wp_iload_n d_RS_isBlock_4 rfl ?_
        refine wp_bipush (v := nI 16) d_RS_isBlock_5 c_bipush_16 ?_
        refine wp_ic_ge (tgt := 14) d_RS_isBlock_7 (by decide) (fun c4 => ?_) (fun c4 => ?_)
        · refine wp_iconst (v := nI 0) d_RS_isBlock_14 c_iconst_0 ?_
          refine wp_zreturn d_RS_isBlock_15 rfl (by decide) ?_
          show WP l E M_RS_revoke 11 [(0, .inr 0), (1, .inl (x1))] [.inl (nI 0)] h _
          refine wp_if_ne (tgt := 16) d_RS_revoke_11 (by decide) (fun z => absurd z (by decide +kernel)) (fun _ => ?_)
          refine wp_iconst (v := nI 0) d_RS_revoke_14 c_iconst_0 ?_
          refine wp_zreturn d_RS_revoke_15 rfl (by decide) ?_
          exact e3 c1 c2 c3 c4
        · refine wp_iconst (v := nI 1) d_RS_isBlock_10 c_iconst_1 ?_
          refine wp_goto (tgt := 15) d_RS_isBlock_11 (by decide) ?_
          refine wp_zreturn d_RS_isBlock_15 rfl (by decide) ?_
          show WP l E M_RS_revoke 11 [(0, .inr 0), (1, .inl (x1))] [.inl (nI 1)] h _
          refine wp_if_ne (tgt := 16) d_RS_revoke_11 (by decide) (fun _ => ?_) (fun z => absurd z (by decide +kernel))
          refine wp_aload_n d_RS_revoke_16 rfl ?_
          refine wp_getR d_RS_revoke_17 fl_RS_19 rfl rfl ?_
          refine wp_iload_n d_RS_revoke_20 rfl ?_
          refine wp_callV (as := [.inl (x1)]) (rest := []) (Q' := fun r h' => WP l E M_RS_revoke 24 [(0, .inr 0), (1, .inl (x1))] (rpush r []) h' Q) d_RS_revoke_21 vb_RS_revoke_78 ⟨gw_2_5, gw_2_6⟩ rfl rfl rfl rfl (Nat.le_of_ble_eq_true rfl) rfl (Nat.le_of_ble_eq_true rfl) ?_ (fun r h' z => z)
          exact e4 c1 c2 c3 c4
    · refine wp_iconst (v := nI 1) d_JB_isRunning_7 c_iconst_1 ?_
      refine wp_goto (tgt := 12) d_JB_isRunning_8 (by decide) ?_
      refine wp_zreturn d_JB_isRunning_12 rfl (by decide) ?_
      show WP l E M_RS_isIdle 14 [(0, .inr 0)] [.inl (nI 1)] h _
      refine wp_if_ne (tgt := 21) d_RS_isIdle_14 (by decide) (fun _ => ?_) (fun z => absurd z (by decide +kernel))
      refine wp_iconst (v := nI 0) d_RS_isIdle_21 c_iconst_0 ?_
      refine wp_zreturn d_RS_isIdle_22 rfl (by decide) ?_
      show WP l E M_RS_revoke 4 [(0, .inr 0), (1, .inl (x1))] [.inl (nI 0)] h _
      refine wp_if_eq (tgt := 14) d_RS_revoke_4 (by decide) (fun _ => ?_) (fun z => absurd z (by decide +kernel))
      refine wp_iconst (v := nI 0) d_RS_revoke_14 c_iconst_0 ?_
      refine wp_zreturn d_RS_revoke_15 rfl (by decide) ?_
      exact e5 c1 c2
set_option maxRecDepth 100000 in
set_option maxHeartbeats 4000000 in
theorem k_RS_revoke_24 {l : Launch} {E : xE} {x1 : Int32} {h : xh} {Q : Option Int32 → xh → Prop}
    (e1 : Q (some (nI 1)) (hw h 0 7 ((h 0 7) ||| ((nI 1) <<< ((x1) &&& 31))))) : WP l E M_RS_revoke 24 [(0, .inr 0), (1, .inl (x1))] [] h Q := by
  refine wp_aload_n d_RS_revoke_24 rfl ?_
  refine wp_dup d_RS_revoke_25 ?_
  refine wp_getI d_RS_revoke_26 fl_RS_81 rfl rfl ?_
  refine wp_iconst (v := nI 1) d_RS_revoke_29 c_iconst_1 ?_
  refine wp_iload_n d_RS_revoke_30 rfl ?_
  refine wp_ishl d_RS_revoke_31 ?_
  refine wp_ior d_RS_revoke_32 ?_
  refine wp_putI d_RS_revoke_33 fm_RS_81 rfl rfl ?_
  refine wp_iconst (v := nI 1) d_RS_revoke_36 c_iconst_1 ?_
  refine wp_zreturn d_RS_revoke_37 rfl (by decide) ?_
  exact e1
set_option maxRecDepth 100000 in
set_option maxHeartbeats 4000000 in
theorem k_RS_direct_0 {l : Launch} {E : xE} {x1 x2 x3 : Int32} {h : xh} {Q : Option Int32 → xh → Prop}
    (e1 : (h 0 6) = 0 → Q (some (nI 0)) h)
    (e2 : ¬ (h 0 6) = 0 → (h 6 2) = 0 → x1 < 0 → Q (some (nI 0)) h)
    (e3 : ¬ (h 0 6) = 0 → (h 6 2) = 0 → ¬ x1 < 0 → (nI 16) ≤ x1 → Q (some (nI 0)) h)
    (e4 : ¬ (h 0 6) = 0 → (h 6 2) = 0 → ¬ x1 < 0 → ¬ (nI 16) ≤ x1 → x2 < 0 → Q (some (nI 0)) h)
    (e5 : ¬ (h 0 6) = 0 → (h 6 2) = 0 → ¬ x1 < 0 → ¬ (nI 16) ≤ x1 → ¬ x2 < 0 → (nI 4) ≤ x2 → Q (some (nI 0)) h)
    (o1 : ¬ (h 0 6) = 0 → (h 6 2) = 0 → ¬ x1 < 0 → ¬ (nI 16) ≤ x1 → ¬ x2 < 0 → ¬ (nI 4) ≤ x2 → vp_in (x1) 16)
    (o2 : ¬ (h 0 6) = 0 → (h 6 2) = 0 → ¬ x1 < 0 → ¬ (nI 16) ≤ x1 → ¬ x2 < 0 → ¬ (nI 4) ≤ x2 → h 11 ((x1).toNatClampNeg) = 0 ∨ h 11 ((x1).toNatClampNeg) = 1)
    (e6 : ¬ (h 0 6) = 0 → (h 6 2) = 0 → ¬ x1 < 0 → ¬ (nI 16) ≤ x1 → ¬ x2 < 0 → ¬ (nI 4) ≤ x2 → (h 11 ((x1).toNatClampNeg)) ≠ 0 → Q (some (nI 0)) h)
    (o3 : ¬ (h 0 6) = 0 → (h 6 2) = 0 → ¬ x1 < 0 → ¬ (nI 16) ≤ x1 → ¬ x2 < 0 → ¬ (nI 4) ≤ x2 → (h 11 ((x1).toNatClampNeg)) = 0 → vp_in (x1) 16)
    (o4 : ¬ (h 0 6) = 0 → (h 6 2) = 0 → ¬ x1 < 0 → ¬ (nI 16) ≤ x1 → ¬ x2 < 0 → ¬ (nI 4) ≤ x2 → (h 11 ((x1).toNatClampNeg)) = 0 → h 13 ((x1).toNatClampNeg) = 0 ∨ h 13 ((x1).toNatClampNeg) = 1)
    (e7 : ¬ (h 0 6) = 0 → (h 6 2) = 0 → ¬ x1 < 0 → ¬ (nI 16) ≤ x1 → ¬ x2 < 0 → ¬ (nI 4) ≤ x2 → (h 11 ((x1).toNatClampNeg)) = 0 → (h 13 ((x1).toNatClampNeg)) ≠ 0 → Q (some (nI 0)) h)
    (e8 : ¬ (h 0 6) = 0 → (h 6 2) = 0 → ¬ x1 < 0 → ¬ (nI 16) ≤ x1 → ¬ x2 < 0 → ¬ (nI 4) ≤ x2 → (h 11 ((x1).toNatClampNeg)) = 0 → (h 13 ((x1).toNatClampNeg)) = 0 → (h 1 3) < (nI 12) → MC l E M_DV_writeChanged [.inr 1, .inl (x1), .inl (x2), .inl (x3)] h (fun r h' => WP l E M_RS_direct 61 [(0, .inr 0), (1, .inl (x1)), (2, .inl (x2)), (3, .inl (x3))] (rpush r []) h' Q))
    (e9 : ¬ (h 0 6) = 0 → (h 6 2) = 0 → ¬ x1 < 0 → ¬ (nI 16) ≤ x1 → ¬ x2 < 0 → ¬ (nI 4) ≤ x2 → (h 11 ((x1).toNatClampNeg)) = 0 → (h 13 ((x1).toNatClampNeg)) = 0 → ¬ (h 1 3) < (nI 12) → Q (some (nI 0)) h)
    (e10 : ¬ (h 0 6) = 0 → ¬ (h 6 2) = 0 → Q (some (nI 0)) h) : MC l E M_RS_direct [.inr 0, .inl (x1), .inl (x2), .inl (x3)] h Q := by
  refine wp_aload_n d_RS_direct_0 rfl ?_
  refine wp_callV (as := []) (rest := []) (Q' := fun r h' => WP l E M_RS_direct 4 [(0, .inr 0), (1, .inl (x1)), (2, .inl (x2)), (3, .inl (x3))] (rpush r []) h' _) d_RS_direct_1 vb_RS_direct_51 ⟨gw_1_192, sw_1⟩ rfl rfl rfl rfl (Nat.le_of_ble_eq_true rfl) rfl (Nat.le_of_ble_eq_true rfl) ?_ (fun r h' z => z)
  show WP l E M_RS_isIdle 0 [(0, .inr 0)] [] h _
  refine wp_aload_n d_RS_isIdle_0 rfl ?_
  refine wp_getI d_RS_isIdle_1 fl_RS_127 rfl rfl ?_
  refine wp_if_eq (tgt := 21) d_RS_isIdle_4 (by decide) (fun c1 => ?_) (fun c1 => ?_)
  · refine wp_iconst (v := nI 0) d_RS_isIdle_21 c_iconst_0 ?_
    refine wp_zreturn d_RS_isIdle_22 rfl (by decide) ?_
    show WP l E M_RS_direct 4 [(0, .inr 0), (1, .inl (x1)), (2, .inl (x2)), (3, .inl (x3))] [.inl (nI 0)] h _
    refine wp_if_eq (tgt := 49) d_RS_direct_4 (by decide) (fun _ => ?_) (fun z => absurd z (by decide +kernel))
    refine wp_iconst (v := nI 0) d_RS_direct_49 c_iconst_0 ?_
    refine wp_zreturn d_RS_direct_50 rfl (by decide) ?_
    exact e1 c1
  · refine wp_aload_n d_RS_isIdle_7 rfl ?_
    refine wp_getR d_RS_isIdle_8 fl_RS_43 rfl rfl ?_
    refine wp_callV (as := []) (rest := []) (Q' := fun r h' => WP l E M_RS_isIdle 14 [(0, .inr 0)] (rpush r []) h' _) d_RS_isIdle_11 vb_RS_isIdle_131 ⟨gw_1_195, gw_1_196⟩ rfl rfl rfl rfl (Nat.le_of_ble_eq_true rfl) rfl (Nat.le_of_ble_eq_true rfl) ?_ (fun r h' z => z)
    show WP l E M_JB_isRunning 0 [(0, .inr 6)] [] h _
    refine wp_aload_n d_JB_isRunning_0 rfl ?_
    refine wp_getI d_JB_isRunning_1 fl_JB_18 rfl rfl ?_
    refine wp_if_eq (tgt := 11) d_JB_isRunning_4 (by decide) (fun c2 => ?_) (fun c2 => ?_)
    · refine wp_iconst (v := nI 0) d_JB_isRunning_11 c_iconst_0 ?_
      refine wp_zreturn d_JB_isRunning_12 rfl (by decide) ?_
      show WP l E M_RS_isIdle 14 [(0, .inr 0)] [.inl (nI 0)] h _
      refine wp_if_ne (tgt := 21) d_RS_isIdle_14 (by decide) (fun z => absurd z (by decide +kernel)) (fun _ => ?_)
      refine wp_iconst (v := nI 1) d_RS_isIdle_17 c_iconst_1 ?_
      refine wp_goto (tgt := 22) d_RS_isIdle_18 (by decide) ?_
      refine wp_zreturn d_RS_isIdle_22 rfl (by decide) ?_
      show WP l E M_RS_direct 4 [(0, .inr 0), (1, .inl (x1)), (2, .inl (x2)), (3, .inl (x3))] [.inl (nI 1)] h _
      refine wp_if_eq (tgt := 49) d_RS_direct_4 (by decide) (fun z => absurd z (by decide +kernel)) (fun _ => ?_)
      refine wp_iload_n d_RS_direct_7 rfl ?_
      refine wp_iload_n d_RS_direct_8 rfl ?_
      refine wp_callS (as := [.inl (x1), .inl (x2)]) (rest := []) (Q' := fun r h' => WP l E M_RS_direct 12 [(0, .inr 0), (1, .inl (x1)), (2, .inl (x2)), (3, .inl (x3))] (rpush r []) h' _) d_RS_direct_9 vb_RS_direct_55 gw_1_199 rfl (Nat.le_of_ble_eq_true rfl) rfl (Nat.le_of_ble_eq_true rfl) ?_ (fun r h' z => z)
      show WP l E M_RS_isBlockWord 0 [(0, .inl (x1)), (1, .inl (x2))] [] h _
      refine wp_iload_n d_RS_isBlockWord_0 rfl ?_
      refine wp_callS (as := [.inl (x1)]) (rest := []) (Q' := fun r h' => WP l E M_RS_isBlockWord 4 [(0, .inl (x1)), (1, .inl (x2))] (rpush r []) h' _) d_RS_isBlockWord_1 vb_RS_isBlockWord_75 gw_1_202 rfl (Nat.le_of_ble_eq_true rfl) rfl (Nat.le_of_ble_eq_true rfl) ?_ (fun r h' z => z)
      show WP l E M_RS_isBlock 0 [(0, .inl (x1))] [] h _
      refine wp_iload_n d_RS_isBlock_0 rfl ?_
      refine wp_if_lt (tgt := 14) d_RS_isBlock_1 (by decide) (fun c3 => ?_) (fun c3 => ?_)
      · refine wp_iconst (v := nI 0) d_RS_isBlock_14 c_iconst_0 ?_
        refine wp_zreturn d_RS_isBlock_15 rfl (by decide) ?_
        show WP l E M_RS_isBlockWord 4 [(0, .inl (x1)), (1, .inl (x2))] [.inl (nI 0)] h _
        refine wp_if_eq (tgt := 20) d_RS_isBlockWord_4 (by decide) (fun _ => ?_) (fun z => absurd z (by decide +kernel))
        refine wp_iconst (v := nI 0) d_RS_isBlockWord_20 c_iconst_0 ?_
        refine wp_zreturn d_RS_isBlockWord_21 rfl (by decide) ?_
        show WP l E M_RS_direct 12 [(0, .inr 0), (1, .inl (x1)), (2, .inl (x2)), (3, .inl (x3))] [.inl (nI 0)] h _
        refine wp_if_eq (tgt := 49) d_RS_direct_12 (by decide) (fun _ => ?_) (fun z => absurd z (by decide +kernel))
        refine wp_iconst (v := nI 0) d_RS_direct_49 c_iconst_0 ?_
        refine wp_zreturn d_RS_direct_50 rfl (by decide) ?_
        exact e2 c1 c2 c3
      · refine wp_iload_n d_RS_isBlock_4 rfl ?_
        refine wp_bipush (v := nI 16) d_RS_isBlock_5 c_bipush_16 ?_
        refine wp_ic_ge (tgt := 14) d_RS_isBlock_7 (by decide) (fun c4 => ?_) (fun c4 => ?_)
        · refine wp_iconst (v := nI 0) d_RS_isBlock_14 c_iconst_0 ?_
          refine wp_zreturn d_RS_isBlock_15 rfl (by decide) ?_
          show WP l E M_RS_isBlockWord 4 [(0, .inl (x1)), (1, .inl (x2))] [.inl (nI 0)] h _
          refine wp_if_eq (tgt := 20) d_RS_isBlockWord_4 (by decide) (fun _ => ?_) (fun z => absurd z (by decide +kernel))
          refine wp_iconst (v := nI 0) d_RS_isBlockWord_20 c_iconst_0 ?_
          refine wp_zreturn d_RS_isBlockWord_21 rfl (by decide) ?_
          show WP l E M_RS_direct 12 [(0, .inr 0), (1, .inl (x1)), (2, .inl (x2)), (3, .inl (x3))] [.inl (nI 0)] h _
          refine wp_if_eq (tgt := 49) d_RS_direct_12 (by decide) (fun _ => ?_) (fun z => absurd z (by decide +kernel))
          refine wp_iconst (v := nI 0) d_RS_direct_49 c_iconst_0 ?_
          refine wp_zreturn d_RS_direct_50 rfl (by decide) ?_
          exact e3 c1 c2 c3 c4
        · refine wp_iconst (v := nI 1) d_RS_isBlock_10 c_iconst_1 ?_
          refine wp_goto (tgt := 15) d_RS_isBlock_11 (by decide) ?_
          refine wp_zreturn d_RS_isBlock_15 rfl (by decide) ?_
          show WP l E M_RS_isBlockWord 4 [(0, .inl (x1)), (1, .inl (x2))] [.inl (nI 1)] h _
          refine wp_if_eq (tgt := 20) d_RS_isBlockWord_4 (by decide) (fun z => absurd z (by decide +kernel)) (fun _ => ?_)
          refine wp_iload_n d_RS_isBlockWord_7 rfl ?_
          refine wp_if_lt (tgt := 20) d_RS_isBlockWord_8 (by decide) (fun c5 => ?_) (fun c5 => ?_)
          · refine wp_iconst (v := nI 0) d_RS_isBlockWord_20 c_iconst_0 ?_
            refine wp_zreturn d_RS_isBlockWord_21 rfl (by decide) ?_
            show WP l E M_RS_direct 12 [(0, .inr 0), (1, .inl (x1)), (2, .inl (x2)), (3, .inl (x3))] [.inl (nI 0)] h _
            refine wp_if_eq (tgt := 49) d_RS_direct_12 (by decide) (fun _ => ?_) (fun z => absurd z (by decide +kernel))
            refine wp_iconst (v := nI 0) d_RS_direct_49 c_iconst_0 ?_
            refine wp_zreturn d_RS_direct_50 rfl (by decide) ?_
            exact e4 c1 c2 c3 c4 c5
          · refine wp_iload_n d_RS_isBlockWord_11 rfl ?_
            refine wp_iconst (v := nI 4) d_RS_isBlockWord_12 c_iconst_4 ?_
            refine wp_ic_ge (tgt := 20) d_RS_isBlockWord_13 (by decide) (fun c6 => ?_) (fun c6 => ?_)
            · refine wp_iconst (v := nI 0) d_RS_isBlockWord_20 c_iconst_0 ?_
              refine wp_zreturn d_RS_isBlockWord_21 rfl (by decide) ?_
              show WP l E M_RS_direct 12 [(0, .inr 0), (1, .inl (x1)), (2, .inl (x2)), (3, .inl (x3))] [.inl (nI 0)] h _
              refine wp_if_eq (tgt := 49) d_RS_direct_12 (by decide) (fun _ => ?_) (fun z => absurd z (by decide +kernel))
              refine wp_iconst (v := nI 0) d_RS_direct_49 c_iconst_0 ?_
              refine wp_zreturn d_RS_direct_50 rfl (by decide) ?_
              exact e5 c1 c2 c3 c4 c5 c6
            · refine wp_iconst (v := nI 1) d_RS_isBlockWord_16 c_iconst_1 ?_
              refine wp_goto (tgt := 21) d_RS_isBlockWord_17 (by decide) ?_
              refine wp_zreturn d_RS_isBlockWord_21 rfl (by decide) ?_
              show WP l E M_RS_direct 12 [(0, .inr 0), (1, .inl (x1)), (2, .inl (x2)), (3, .inl (x3))] [.inl (nI 1)] h _
              refine wp_if_eq (tgt := 49) d_RS_direct_12 (by decide) (fun z => absurd z (by decide +kernel)) (fun _ => ?_)
              refine wp_aload_n d_RS_direct_15 rfl ?_
              refine wp_getR d_RS_direct_16 fl_RS_19 rfl rfl ?_
              refine wp_iload_n d_RS_direct_19 rfl ?_
              refine wp_callV (as := [.inl (x1)]) (rest := []) (Q' := fun r h' => WP l E M_RS_direct 23 [(0, .inr 0), (1, .inl (x1)), (2, .inl (x2)), (3, .inl (x3))] (rpush r []) h' _) d_RS_direct_20 vb_RS_direct_59 ⟨gw_1_205, gw_1_206⟩ rfl rfl rfl rfl (Nat.le_of_ble_eq_true rfl) rfl (Nat.le_of_ble_eq_true rfl) ?_ (fun r h' z => z)
              show WP l E M_IM_holds 0 [(0, .inr 2), (1, .inl (x1))] [] h _
              refine wp_aload_n d_IM_holds_0 rfl ?_
              refine wp_getR d_IM_holds_1 fl_IM_9 rfl rfl ?_
              refine wp_iload_n d_IM_holds_4 rfl ?_
              refine wp_baload d_IM_holds_5 rfl (o1 c1 c2 c3 c4 c5 c6) ?_
              refine wp_zreturn d_IM_holds_6 rfl (o2 c1 c2 c3 c4 c5 c6) ?_
              show WP l E M_RS_direct 23 [(0, .inr 0), (1, .inl (x1)), (2, .inl (x2)), (3, .inl (x3))] [.inl (h 11 ((x1).toNatClampNeg))] h _
              refine wp_if_ne (tgt := 49) d_RS_direct_23 (by decide) (fun c7 => ?_) (fun c7 => ?_)
              · refine wp_iconst (v := nI 0) d_RS_direct_49 c_iconst_0 ?_
                refine wp_zreturn d_RS_direct_50 rfl (by decide) ?_
                exact e6 c1 c2 c3 c4 c5 c6 c7
              · refine wp_aload_n d_RS_direct_26 rfl ?_
                refine wp_getR d_RS_direct_27 fl_RS_23 rfl rfl ?_
                refine wp_iload_n d_RS_direct_30 rfl ?_
                refine wp_callV (as := [.inl (x1)]) (rest := []) (Q' := fun r h' => WP l E M_RS_direct 34 [(0, .inr 0), (1, .inl (x1)), (2, .inl (x2)), (3, .inl (x3))] (rpush r []) h' _) d_RS_direct_31 vb_RS_direct_59 ⟨gw_1_205, gw_1_206⟩ rfl rfl rfl rfl (Nat.le_of_ble_eq_true rfl) rfl (Nat.le_of_ble_eq_true rfl) ?_ (fun r h' z => z)
                show WP l E M_IM_holds 0 [(0, .inr 3), (1, .inl (x1))] [] h _
                refine wp_aload_n d_IM_holds_0 rfl ?_
                refine wp_getR d_IM_holds_1 fl_IM_9 rfl rfl ?_
                refine wp_iload_n d_IM_holds_4 rfl ?_
                refine wp_baload d_IM_holds_5 rfl (o3 c1 c2 c3 c4 c5 c6 c7) ?_
                refine wp_zreturn d_IM_holds_6 rfl (o4 c1 c2 c3 c4 c5 c6 c7) ?_
                show WP l E M_RS_direct 34 [(0, .inr 0), (1, .inl (x1)), (2, .inl (x2)), (3, .inl (x3))] [.inl (h 13 ((x1).toNatClampNeg))] h _
                refine wp_if_ne (tgt := 49) d_RS_direct_34 (by decide) (fun c8 => ?_) (fun c8 => ?_)
                · refine wp_iconst (v := nI 0) d_RS_direct_49 c_iconst_0 ?_
                  refine wp_zreturn d_RS_direct_50 rfl (by decide) ?_
                  exact e7 c1 c2 c3 c4 c5 c6 c7 c8
                · refine wp_aload_n d_RS_direct_37 rfl ?_
                  refine wp_getR d_RS_direct_38 fl_RS_12 rfl rfl ?_
                  refine wp_callV (as := []) (rest := []) (Q' := fun r h' => WP l E M_RS_direct 44 [(0, .inr 0), (1, .inl (x1)), (2, .inl (x2)), (3, .inl (x3))] (rpush r []) h' _) d_RS_direct_41 vb_RS_direct_85 ⟨gw_2_13, gw_2_14⟩ rfl rfl rfl rfl (Nat.le_of_ble_eq_true rfl) rfl (Nat.le_of_ble_eq_true rfl) ?_ (fun r h' z => z)
                  show WP l E M_DV_waiting 0 [(0, .inr 1)] [] h _
                  refine wp_aload_n d_DV_waiting_0 rfl ?_
                  refine wp_getI d_DV_waiting_1 fl_DV_21 rfl rfl ?_
                  refine wp_ireturn d_DV_waiting_4 rfl ?_
                  show WP l E M_RS_direct 44 [(0, .inr 0), (1, .inl (x1)), (2, .inl (x2)), (3, .inl (x3))] [.inl (h 1 3)] h _
                  refine wp_bipush (v := nI 12) d_RS_direct_44 c_bipush_12 ?_
                  refine wp_ic_lt (tgt := 51) d_RS_direct_46 (by decide) (fun c9 => ?_) (fun c9 => ?_)
                  · refine wp_aload_n d_RS_direct_51 rfl ?_
                    refine wp_getR d_RS_direct_52 fl_RS_12 rfl rfl ?_
                    refine wp_iload_n d_RS_direct_55 rfl ?_
                    refine wp_iload_n d_RS_direct_56 rfl ?_
                    refine wp_iload_n d_RS_direct_57 rfl ?_
                    refine wp_callV (as := [.inl (x1), .inl (x2), .inl (x3)]) (rest := []) (Q' := fun r h' => WP l E M_RS_direct 61 [(0, .inr 0), (1, .inl (x1)), (2, .inl (x2)), (3, .inl (x3))] (rpush r []) h' Q) d_RS_direct_58 vb_RS_direct_88 ⟨gw_2_17, gw_2_18⟩ rfl rfl rfl rfl (Nat.le_of_ble_eq_true rfl) rfl (Nat.le_of_ble_eq_true rfl) ?_ (fun r h' z => z)
                    exact e8 c1 c2 c3 c4 c5 c6 c7 c8 c9
                  · refine wp_iconst (v := nI 0) d_RS_direct_49 c_iconst_0 ?_
                    refine wp_zreturn d_RS_direct_50 rfl (by decide) ?_
                    exact e9 c1 c2 c3 c4 c5 c6 c7 c8 c9
    · refine wp_iconst (v := nI 1) d_JB_isRunning_7 c_iconst_1 ?_
      refine wp_goto (tgt := 12) d_JB_isRunning_8 (by decide) ?_
      refine wp_zreturn d_JB_isRunning_12 rfl (by decide) ?_
      show WP l E M_RS_isIdle 14 [(0, .inr 0)] [.inl (nI 1)] h _
      refine wp_if_ne (tgt := 21) d_RS_isIdle_14 (by decide) (fun _ => ?_) (fun z => absurd z (by decide +kernel))
      refine wp_iconst (v := nI 0) d_RS_isIdle_21 c_iconst_0 ?_
      refine wp_zreturn d_RS_isIdle_22 rfl (by decide) ?_
      show WP l E M_RS_direct 4 [(0, .inr 0), (1, .inl (x1)), (2, .inl (x2)), (3, .inl (x3))] [.inl (nI 0)] h _
      refine wp_if_eq (tgt := 49) d_RS_direct_4 (by decide) (fun _ => ?_) (fun z => absurd z (by decide +kernel))
      refine wp_iconst (v := nI 0) d_RS_direct_49 c_iconst_0 ?_
      refine wp_zreturn d_RS_direct_50 rfl (by decide) ?_
      exact e10 c1 c2
set_option maxRecDepth 100000 in
set_option maxHeartbeats 4000000 in
theorem k_RS_direct_61 {l : Launch} {E : xE} {x1 x2 x3 : Int32} {h : xh} {Q : Option Int32 → xh → Prop}
    (e1 : Q (some (nI 1)) h) : WP l E M_RS_direct 61 [(0, .inr 0), (1, .inl (x1)), (2, .inl (x2)), (3, .inl (x3))] [] h Q := by
  refine wp_iconst (v := nI 1) d_RS_direct_61 c_iconst_1 ?_
  refine wp_zreturn d_RS_direct_62 rfl (by decide) ?_
  exact e1
set_option maxRecDepth 100000 in
set_option maxHeartbeats 4000000 in
theorem k_RS_commit_0 {l : Launch} {E : xE} {h : xh} {Q : Option Int32 → xh → Prop}
    (e1 : (h 0 6) = 0 → Q (some ((-1))) h)
    (e2 : ¬ (h 0 6) = 0 → (h 6 2) = 0 → (h 2 2) ≠ 0 → MC l E M_RW_build [.inr 4, .inr 2, .inl (h 0 7), .inl (h 0 8)] h (fun r h' => WP l E M_RS_commit 45 [(0, .inr 0)] (rpush r []) h' Q))
    (e3 : ¬ (h 0 6) = 0 → (h 6 2) = 0 → (h 2 2) = 0 → (h 0 7) ≠ 0 → MC l E M_RW_build [.inr 4, .inr 2, .inl (h 0 7), .inl (h 0 8)] h (fun r h' => WP l E M_RS_commit 45 [(0, .inr 0)] (rpush r []) h' Q))
    (e4 : ¬ (h 0 6) = 0 → (h 6 2) = 0 → (h 2 2) = 0 → (h 0 7) = 0 → Q (some ((-1))) h)
    (e5 : ¬ (h 0 6) = 0 → ¬ (h 6 2) = 0 → Q (some ((-1))) h) : MC l E M_RS_commit [.inr 0] h Q := by
  refine wp_aload_n d_RS_commit_0 rfl ?_
  refine wp_callV (as := []) (rest := []) (Q' := fun r h' => WP l E M_RS_commit 4 [(0, .inr 0)] (rpush r []) h' _) d_RS_commit_1 vb_RS_commit_51 ⟨gw_1_192, sw_1⟩ rfl rfl rfl rfl (Nat.le_of_ble_eq_true rfl) rfl (Nat.le_of_ble_eq_true rfl) ?_ (fun r h' z => z)
  show WP l E M_RS_isIdle 0 [(0, .inr 0)] [] h _
  refine wp_aload_n d_RS_isIdle_0 rfl ?_
  refine wp_getI d_RS_isIdle_1 fl_RS_127 rfl rfl ?_
  refine wp_if_eq (tgt := 21) d_RS_isIdle_4 (by decide) (fun c1 => ?_) (fun c1 => ?_)
  · refine wp_iconst (v := nI 0) d_RS_isIdle_21 c_iconst_0 ?_
    refine wp_zreturn d_RS_isIdle_22 rfl (by decide) ?_
    show WP l E M_RS_commit 4 [(0, .inr 0)] [.inl (nI 0)] h _
    refine wp_if_eq (tgt := 24) d_RS_commit_4 (by decide) (fun _ => ?_) (fun z => absurd z (by decide +kernel))
    refine wp_iconst (v := (-1)) d_RS_commit_24 c_iconst_m1 ?_
    refine wp_ireturn d_RS_commit_25 rfl ?_
    exact e1 c1
  · refine wp_aload_n d_RS_isIdle_7 rfl ?_
    refine wp_getR d_RS_isIdle_8 fl_RS_43 rfl rfl ?_
    refine wp_callV (as := []) (rest := []) (Q' := fun r h' => WP l E M_RS_isIdle 14 [(0, .inr 0)] (rpush r []) h' _) d_RS_isIdle_11 vb_RS_isIdle_131 ⟨gw_1_195, gw_1_196⟩ rfl rfl rfl rfl (Nat.le_of_ble_eq_true rfl) rfl (Nat.le_of_ble_eq_true rfl) ?_ (fun r h' z => z)
    show WP l E M_JB_isRunning 0 [(0, .inr 6)] [] h _
    refine wp_aload_n d_JB_isRunning_0 rfl ?_
    refine wp_getI d_JB_isRunning_1 fl_JB_18 rfl rfl ?_
    refine wp_if_eq (tgt := 11) d_JB_isRunning_4 (by decide) (fun c2 => ?_) (fun c2 => ?_)
    · refine wp_iconst (v := nI 0) d_JB_isRunning_11 c_iconst_0 ?_
      refine wp_zreturn d_JB_isRunning_12 rfl (by decide) ?_
      show WP l E M_RS_isIdle 14 [(0, .inr 0)] [.inl (nI 0)] h _
      refine wp_if_ne (tgt := 21) d_RS_isIdle_14 (by decide) (fun z => absurd z (by decide +kernel)) (fun _ => ?_)
      refine wp_iconst (v := nI 1) d_RS_isIdle_17 c_iconst_1 ?_
      refine wp_goto (tgt := 22) d_RS_isIdle_18 (by decide) ?_
      refine wp_zreturn d_RS_isIdle_22 rfl (by decide) ?_
      show WP l E M_RS_commit 4 [(0, .inr 0)] [.inl (nI 1)] h _
      refine wp_if_eq (tgt := 24) d_RS_commit_4 (by decide) (fun z => absurd z (by decide +kernel)) (fun _ => ?_)
      refine wp_aload_n d_RS_commit_7 rfl ?_
      refine wp_getR d_RS_commit_8 fl_RS_19 rfl rfl ?_
      refine wp_callV (as := []) (rest := []) (Q' := fun r h' => WP l E M_RS_commit 14 [(0, .inr 0)] (rpush r []) h' _) d_RS_commit_11 vb_RS_commit_63 ⟨gw_1_209, gw_1_210⟩ rfl rfl rfl rfl (Nat.le_of_ble_eq_true rfl) rfl (Nat.le_of_ble_eq_true rfl) ?_ (fun r h' z => z)
      show WP l E M_IM_size 0 [(0, .inr 2)] [] h _
      refine wp_aload_n d_IM_size_0 rfl ?_
      refine wp_getI d_IM_size_1 fl_IM_19 rfl rfl ?_
      refine wp_ireturn d_IM_size_4 rfl ?_
      show WP l E M_RS_commit 14 [(0, .inr 0)] [.inl (h 2 2)] h _
      refine wp_if_ne (tgt := 26) d_RS_commit_14 (by decide) (fun c3 => ?_) (fun c3 => ?_)
      · refine wp_aload_n d_RS_commit_26 rfl ?_
        refine wp_getR d_RS_commit_27 fl_RS_29 rfl rfl ?_
        refine wp_aload_n d_RS_commit_30 rfl ?_
        refine wp_getR d_RS_commit_31 fl_RS_19 rfl rfl ?_
        refine wp_aload_n d_RS_commit_34 rfl ?_
        refine wp_getI d_RS_commit_35 fl_RS_81 rfl rfl ?_
        refine wp_aload_n d_RS_commit_38 rfl ?_
        refine wp_getI d_RS_commit_39 fl_RS_91 rfl rfl ?_
        refine wp_callV (as := [.inr 2, .inl (h 0 7), .inl (h 0 8)]) (rest := []) (Q' := fun r h' => WP l E M_RS_commit 45 [(0, .inr 0)] (rpush r []) h' Q) d_RS_commit_42 vb_RS_commit_94 ⟨gw_2_26, gw_2_27⟩ rfl rfl rfl rfl (Nat.le_of_ble_eq_true rfl) rfl (Nat.le_of_ble_eq_true rfl) ?_ (fun r h' z => z)
        exact e2 c1 c2 c3
      · refine wp_aload_n d_RS_commit_17 rfl ?_
        refine wp_getI d_RS_commit_18 fl_RS_81 rfl rfl ?_
        refine wp_if_ne (tgt := 26) d_RS_commit_21 (by decide) (fun c4 => ?_) (fun c4 => ?_)
        · refine wp_aload_n d_RS_commit_26 rfl ?_
          refine wp_getR d_RS_commit_27 fl_RS_29 rfl rfl ?_
          refine wp_aload_n d_RS_commit_30 rfl ?_
          refine wp_getR d_RS_commit_31 fl_RS_19 rfl rfl ?_
          refine wp_aload_n d_RS_commit_34 rfl ?_
          refine wp_getI d_RS_commit_35 fl_RS_81 rfl rfl ?_
          refine wp_aload_n d_RS_commit_38 rfl ?_
          refine wp_getI d_RS_commit_39 fl_RS_91 rfl rfl ?_
          refine wp_callV (as := [.inr 2, .inl (h 0 7), .inl (h 0 8)]) (rest := []) (Q' := fun r h' => WP l E M_RS_commit 45 [(0, .inr 0)] (rpush r []) h' Q) d_RS_commit_42 vb_RS_commit_94 ⟨gw_2_26, gw_2_27⟩ rfl rfl rfl rfl (Nat.le_of_ble_eq_true rfl) rfl (Nat.le_of_ble_eq_true rfl) ?_ (fun r h' z => z)
          exact e3 c1 c2 c3 c4
        · refine wp_iconst (v := (-1)) d_RS_commit_24 c_iconst_m1 ?_
          refine wp_ireturn d_RS_commit_25 rfl ?_
          exact e4 c1 c2 c3 c4
    · refine wp_iconst (v := nI 1) d_JB_isRunning_7 c_iconst_1 ?_
      refine wp_goto (tgt := 12) d_JB_isRunning_8 (by decide) ?_
      refine wp_zreturn d_JB_isRunning_12 rfl (by decide) ?_
      show WP l E M_RS_isIdle 14 [(0, .inr 0)] [.inl (nI 1)] h _
      refine wp_if_ne (tgt := 21) d_RS_isIdle_14 (by decide) (fun _ => ?_) (fun z => absurd z (by decide +kernel))
      refine wp_iconst (v := nI 0) d_RS_isIdle_21 c_iconst_0 ?_
      refine wp_zreturn d_RS_isIdle_22 rfl (by decide) ?_
      show WP l E M_RS_commit 4 [(0, .inr 0)] [.inl (nI 0)] h _
      refine wp_if_eq (tgt := 24) d_RS_commit_4 (by decide) (fun _ => ?_) (fun z => absurd z (by decide +kernel))
      refine wp_iconst (v := (-1)) d_RS_commit_24 c_iconst_m1 ?_
      refine wp_ireturn d_RS_commit_25 rfl ?_
      exact e5 c1 c2
set_option maxRecDepth 100000 in
set_option maxHeartbeats 4000000 in
theorem k_RS_commit_45 {l : Launch} {E : xE} {h : xh} {Q : Option Int32 → xh → Prop}
    (e1 : ((h 0 10) + (h 4 2)) ≤ (nI 23) → WP l E M_RS_commit 85 [(0, .inr 0), (1, .inl ((h 4 2) - (nI 1))), (2, .inl (nI 0))] [] (hw (hw (hw h 6 2 (nI 2)) 6 3 (nI 0)) 6 4 (nI 0)) Q)
    (e2 : ¬ ((h 0 10) + (h 4 2)) ≤ (nI 23) → Q (some ((-2))) h) : WP l E M_RS_commit 45 [(0, .inr 0)] [] h Q := by
  refine wp_aload_n d_RS_commit_45 rfl ?_
  refine wp_getI d_RS_commit_46 fl_RS_98 rfl rfl ?_
  refine wp_aload_n d_RS_commit_49 rfl ?_
  refine wp_getR d_RS_commit_50 fl_RS_29 rfl rfl ?_
  refine wp_callV (as := []) (rest := [.inl (h 0 10)]) (Q' := fun r h' => WP l E M_RS_commit 56 [(0, .inr 0)] (rpush r [.inl (h 0 10)]) h' _) d_RS_commit_53 vb_RS_commit_101 ⟨gw_2_45, gw_2_46⟩ rfl rfl rfl rfl (Nat.le_of_ble_eq_true rfl) rfl (Nat.le_of_ble_eq_true rfl) ?_ (fun r h' z => z)
  show WP l E M_RW_length 0 [(0, .inr 4)] [] h _
  refine wp_aload_n d_RW_length_0 rfl ?_
  refine wp_getI d_RW_length_1 fl_RW_18 rfl rfl ?_
  refine wp_ireturn d_RW_length_4 rfl ?_
  show WP l E M_RS_commit 56 [(0, .inr 0)] [.inl (h 4 2), .inl (h 0 10)] h _
  refine wp_iadd d_RS_commit_56 ?_
  refine wp_bipush (v := nI 23) d_RS_commit_57 c_bipush_23 ?_
  refine wp_ic_le (tgt := 65) d_RS_commit_59 (by decide) (fun c1 => ?_) (fun c1 => ?_)
  · refine wp_aload_n d_RS_commit_65 rfl ?_
    refine wp_getR d_RS_commit_66 fl_RS_43 rfl rfl ?_
    refine wp_iconst (v := nI 2) d_RS_commit_69 c_iconst_2 ?_
    refine wp_callV (as := [.inl (nI 2)]) (rest := []) (Q' := fun r h' => WP l E M_RS_commit 73 [(0, .inr 0)] (rpush r []) h' _) d_RS_commit_70 vb_RS_commit_104 ⟨gw_2_49, gw_2_50⟩ rfl rfl rfl rfl (Nat.le_of_ble_eq_true rfl) rfl (Nat.le_of_ble_eq_true rfl) ?_ (fun r h' z => z)
    show WP l E M_JB_begin 0 [(0, .inr 6), (1, .inl (nI 2))] [] h _
    refine wp_aload_n d_JB_begin_0 rfl ?_
    refine wp_iload_n d_JB_begin_1 rfl ?_
    refine wp_putI d_JB_begin_2 fm_JB_18 rfl rfl ?_
    refine wp_aload_n d_JB_begin_5 rfl ?_
    refine wp_iconst (v := nI 0) d_JB_begin_6 c_iconst_0 ?_
    refine wp_putI d_JB_begin_7 fm_JB_22 rfl rfl ?_
    refine wp_aload_n d_JB_begin_10 rfl ?_
    refine wp_iconst (v := nI 0) d_JB_begin_11 c_iconst_0 ?_
    refine wp_putI d_JB_begin_12 fm_JB_25 rfl rfl ?_
    refine wp_return d_JB_begin_15 rfl ?_
    show WP l E M_RS_commit 73 [(0, .inr 0)] [] (hw (hw (hw h 6 2 (nI 2)) 6 3 (nI 0)) 6 4 (nI 0)) _
    refine wp_aload_n d_RS_commit_73 rfl ?_
    refine wp_getR d_RS_commit_74 fl_RS_29 rfl rfl ?_
    refine wp_callV (as := []) (rest := []) (Q' := fun r h' => WP l E M_RS_commit 80 [(0, .inr 0)] (rpush r []) h' _) d_RS_commit_77 vb_RS_commit_101 ⟨gw_2_45, gw_2_46⟩ rfl rfl rfl rfl (Nat.le_of_ble_eq_true rfl) rfl (Nat.le_of_ble_eq_true rfl) ?_ (fun r h' z => z)
    show WP l E M_RW_length 0 [(0, .inr 4)] [] (hw (hw (hw h 6 2 (nI 2)) 6 3 (nI 0)) 6 4 (nI 0)) _
    refine wp_aload_n d_RW_length_0 rfl ?_
    refine wp_getI d_RW_length_1 fl_RW_18 rfl rfl ?_
    show WP l E M_RW_length 4 [(0, .inr 4)] [.inl (h 4 2)] (hw (hw (hw h 6 2 (nI 2)) 6 3 (nI 0)) 6 4 (nI 0)) _
    refine wp_ireturn d_RW_length_4 rfl ?_
    show WP l E M_RS_commit 80 [(0, .inr 0)] [.inl (h 4 2)] (hw (hw (hw h 6 2 (nI 2)) 6 3 (nI 0)) 6 4 (nI 0)) _
    refine wp_iconst (v := nI 1) d_RS_commit_80 c_iconst_1 ?_
    refine wp_isub d_RS_commit_81 ?_
    refine wp_istore_n (ls' := [(0, .inr 0), (1, .inl ((h 4 2) - (nI 1)))]) d_RS_commit_82 (by decide) rfl ?_
    refine wp_iconst (v := nI 0) d_RS_commit_83 c_iconst_0 ?_
    refine wp_istore_n (ls' := [(0, .inr 0), (1, .inl ((h 4 2) - (nI 1))), (2, .inl (nI 0))]) d_RS_commit_84 (by decide) rfl ?_
    exact e1 c1
  · refine wp_bipush (v := (-2)) d_RS_commit_62 c_bipush_m2 ?_
    refine wp_ireturn d_RS_commit_64 rfl ?_
    exact e2 c1
set_option maxRecDepth 100000 in
set_option maxHeartbeats 4000000 in
theorem k_RS_commit_85 {l : Launch} {E : xE} {x1 x2 : Int32} {h : xh} {Q : Option Int32 → xh → Prop}
    (e1 : x1 ≤ x2 → MC l E M_JB_addFlush [.inr 6] h (fun r h' => WP l E M_RS_commit 108 [(0, .inr 0), (1, .inl (x1)), (2, .inl (x2))] (rpush r []) h' Q))
    (e2 : ¬ x1 ≤ x2 → MC l E M_RS_planRowSector [.inr 0, .inl (x2)] h (fun r h' => WP l E M_RS_commit 95 [(0, .inr 0), (1, .inl (x1)), (2, .inl (x2))] (rpush r []) h' Q)) : WP l E M_RS_commit 85 [(0, .inr 0), (1, .inl (x1)), (2, .inl (x2))] [] h Q := by
  refine wp_iload_n d_RS_commit_85 rfl ?_
  refine wp_iload_n d_RS_commit_86 rfl ?_
  refine wp_ic_ge (tgt := 101) d_RS_commit_87 (by decide) (fun c1 => ?_) (fun c1 => ?_)
  · refine wp_aload_n d_RS_commit_101 rfl ?_
    refine wp_getR d_RS_commit_102 fl_RS_43 rfl rfl ?_
    refine wp_callV (as := []) (rest := []) (Q' := fun r h' => WP l E M_RS_commit 108 [(0, .inr 0), (1, .inl (x1)), (2, .inl (x2))] (rpush r []) h' Q) d_RS_commit_105 vb_RS_commit_110 ⟨gw_2_68, gw_2_69⟩ rfl rfl rfl rfl (Nat.le_of_ble_eq_true rfl) rfl (Nat.le_of_ble_eq_true rfl) ?_ (fun r h' z => z)
    exact e1 c1
  · refine wp_aload_n d_RS_commit_90 rfl ?_
    refine wp_iload_n d_RS_commit_91 rfl ?_
    refine wp_callV (as := [.inl (x2)]) (rest := []) (Q' := fun r h' => WP l E M_RS_commit 95 [(0, .inr 0), (1, .inl (x1)), (2, .inl (x2))] (rpush r []) h' Q) d_RS_commit_92 vb_RS_commit_107 ⟨gw_2_54, sw_6⟩ rfl rfl rfl rfl (Nat.le_of_ble_eq_true rfl) rfl (Nat.le_of_ble_eq_true rfl) ?_ (fun r h' z => z)
    exact e2 c1
set_option maxRecDepth 100000 in
set_option maxHeartbeats 4000000 in
theorem k_RS_commit_108 {l : Launch} {E : xE} {x1 x2 : Int32} {h : xh} {Q : Option Int32 → xh → Prop}
    (e1 : MC l E M_RS_planRowSector [.inr 0, .inl (x1)] h (fun r h' => WP l E M_RS_commit 113 [(0, .inr 0), (1, .inl (x1)), (2, .inl (x2))] (rpush r []) h' Q)) : WP l E M_RS_commit 108 [(0, .inr 0), (1, .inl (x1)), (2, .inl (x2))] [] h Q := by
  refine wp_aload_n d_RS_commit_108 rfl ?_
  refine wp_iload_n d_RS_commit_109 rfl ?_
  refine wp_callV (as := [.inl (x1)]) (rest := []) (Q' := fun r h' => WP l E M_RS_commit 113 [(0, .inr 0), (1, .inl (x1)), (2, .inl (x2))] (rpush r []) h' Q) d_RS_commit_110 vb_RS_commit_107 ⟨gw_2_54, sw_6⟩ rfl rfl rfl rfl (Nat.le_of_ble_eq_true rfl) rfl (Nat.le_of_ble_eq_true rfl) ?_ (fun r h' z => z)
  exact e1
set_option maxRecDepth 100000 in
set_option maxHeartbeats 4000000 in
theorem k_RS_commit_95 {l : Launch} {E : xE} {x1 x2 : Int32} {h : xh} {Q : Option Int32 → xh → Prop}
    (e1 : WP l E M_RS_commit 85 [(0, .inr 0), (1, .inl (x1)), (2, .inl (x2 + nI 1))] [] h Q) : WP l E M_RS_commit 95 [(0, .inr 0), (1, .inl (x1)), (2, .inl (x2))] [] h Q := by
  refine wp_iinc (v := x2 + nI 1) (ls' := [(0, .inr 0), (1, .inl (x1)), (2, .inl (x2 + nI 1))]) d_RS_commit_95 rfl (c_inc_1 _) (by decide) rfl ?_
  refine wp_goto (tgt := 85) d_RS_commit_98 (by decide) ?_
  exact e1
set_option maxRecDepth 100000 in
set_option maxHeartbeats 4000000 in
theorem k_RS_commit_113 {l : Launch} {E : xE} {x1 x2 : Int32} {h : xh} {Q : Option Int32 → xh → Prop}
    (e1 : MC l E M_JB_addFlush [.inr 6] h (fun r h' => WP l E M_RS_commit 120 [(0, .inr 0), (1, .inl (x1)), (2, .inl (x2))] (rpush r []) h' Q)) : WP l E M_RS_commit 113 [(0, .inr 0), (1, .inl (x1)), (2, .inl (x2))] [] h Q := by
  refine wp_aload_n d_RS_commit_113 rfl ?_
  refine wp_getR d_RS_commit_114 fl_RS_43 rfl rfl ?_
  refine wp_callV (as := []) (rest := []) (Q' := fun r h' => WP l E M_RS_commit 120 [(0, .inr 0), (1, .inl (x1)), (2, .inl (x2))] (rpush r []) h' Q) d_RS_commit_117 vb_RS_commit_110 ⟨gw_2_68, gw_2_69⟩ rfl rfl rfl rfl (Nat.le_of_ble_eq_true rfl) rfl (Nat.le_of_ble_eq_true rfl) ?_ (fun r h' z => z)
  exact e1
set_option maxRecDepth 100000 in
set_option maxHeartbeats 4000000 in
theorem k_RS_commit_120 {l : Launch} {E : xE} {x1 x2 : Int32} {h : xh} {Q : Option Int32 → xh → Prop}
    (e1 : Q (some (h 4 2)) h) : WP l E M_RS_commit 120 [(0, .inr 0), (1, .inl (x1)), (2, .inl (x2))] [] h Q := by
  refine wp_aload_n d_RS_commit_120 rfl ?_
  refine wp_getR d_RS_commit_121 fl_RS_29 rfl rfl ?_
  refine wp_callV (as := []) (rest := []) (Q' := fun r h' => WP l E M_RS_commit 127 [(0, .inr 0), (1, .inl (x1)), (2, .inl (x2))] (rpush r []) h' _) d_RS_commit_124 vb_RS_commit_101 ⟨gw_2_45, gw_2_46⟩ rfl rfl rfl rfl (Nat.le_of_ble_eq_true rfl) rfl (Nat.le_of_ble_eq_true rfl) ?_ (fun r h' z => z)
  show WP l E M_RW_length 0 [(0, .inr 4)] [] h _
  refine wp_aload_n d_RW_length_0 rfl ?_
  refine wp_getI d_RW_length_1 fl_RW_18 rfl rfl ?_
  refine wp_ireturn d_RW_length_4 rfl ?_
  show WP l E M_RS_commit 127 [(0, .inr 0), (1, .inl (x1)), (2, .inl (x2))] [.inl (h 4 2)] h _
  refine wp_ireturn d_RS_commit_127 rfl ?_
  exact e1
set_option maxRecDepth 100000 in
set_option maxHeartbeats 4000000 in
theorem k_RS_checkpoint_0 {l : Launch} {E : xE} {h : xh} {Q : Option Int32 → xh → Prop}
    (e1 : (h 0 6) = 0 → Q (some ((-1))) h)
    (e2 : ¬ (h 0 6) = 0 → (h 6 2) = 0 → WP l E M_RS_checkpoint 19 [(0, .inr 0), (1, .inl (nI 0))] [] (hw (hw (hw h 6 2 (nI 3)) 6 3 (nI 0)) 6 4 (nI 0)) Q)
    (e3 : ¬ (h 0 6) = 0 → ¬ (h 6 2) = 0 → Q (some ((-1))) h) : MC l E M_RS_checkpoint [.inr 0] h Q := by
  refine wp_aload_n d_RS_checkpoint_0 rfl ?_
  refine wp_callV (as := []) (rest := []) (Q' := fun r h' => WP l E M_RS_checkpoint 4 [(0, .inr 0)] (rpush r []) h' _) d_RS_checkpoint_1 vb_RS_checkpoint_51 ⟨gw_1_192, sw_1⟩ rfl rfl rfl rfl (Nat.le_of_ble_eq_true rfl) rfl (Nat.le_of_ble_eq_true rfl) ?_ (fun r h' z => z)
  show WP l E M_RS_isIdle 0 [(0, .inr 0)] [] h _
  refine wp_aload_n d_RS_isIdle_0 rfl ?_
  refine wp_getI d_RS_isIdle_1 fl_RS_127 rfl rfl ?_
  refine wp_if_eq (tgt := 21) d_RS_isIdle_4 (by decide) (fun c1 => ?_) (fun c1 => ?_)
  · refine wp_iconst (v := nI 0) d_RS_isIdle_21 c_iconst_0 ?_
    refine wp_zreturn d_RS_isIdle_22 rfl (by decide) ?_
    show WP l E M_RS_checkpoint 4 [(0, .inr 0)] [.inl (nI 0)] h _
    refine wp_if_ne (tgt := 9) d_RS_checkpoint_4 (by decide) (fun z => absurd z (by decide +kernel)) (fun _ => ?_)
    refine wp_iconst (v := (-1)) d_RS_checkpoint_7 c_iconst_m1 ?_
    refine wp_ireturn d_RS_checkpoint_8 rfl ?_
    exact e1 c1
  · refine wp_aload_n d_RS_isIdle_7 rfl ?_
    refine wp_getR d_RS_isIdle_8 fl_RS_43 rfl rfl ?_
    refine wp_callV (as := []) (rest := []) (Q' := fun r h' => WP l E M_RS_isIdle 14 [(0, .inr 0)] (rpush r []) h' _) d_RS_isIdle_11 vb_RS_isIdle_131 ⟨gw_1_195, gw_1_196⟩ rfl rfl rfl rfl (Nat.le_of_ble_eq_true rfl) rfl (Nat.le_of_ble_eq_true rfl) ?_ (fun r h' z => z)
    show WP l E M_JB_isRunning 0 [(0, .inr 6)] [] h _
    refine wp_aload_n d_JB_isRunning_0 rfl ?_
    refine wp_getI d_JB_isRunning_1 fl_JB_18 rfl rfl ?_
    refine wp_if_eq (tgt := 11) d_JB_isRunning_4 (by decide) (fun c2 => ?_) (fun c2 => ?_)
    · refine wp_iconst (v := nI 0) d_JB_isRunning_11 c_iconst_0 ?_
      refine wp_zreturn d_JB_isRunning_12 rfl (by decide) ?_
      show WP l E M_RS_isIdle 14 [(0, .inr 0)] [.inl (nI 0)] h _
      refine wp_if_ne (tgt := 21) d_RS_isIdle_14 (by decide) (fun z => absurd z (by decide +kernel)) (fun _ => ?_)
      refine wp_iconst (v := nI 1) d_RS_isIdle_17 c_iconst_1 ?_
      refine wp_goto (tgt := 22) d_RS_isIdle_18 (by decide) ?_
      refine wp_zreturn d_RS_isIdle_22 rfl (by decide) ?_
      show WP l E M_RS_checkpoint 4 [(0, .inr 0)] [.inl (nI 1)] h _
      refine wp_if_ne (tgt := 9) d_RS_checkpoint_4 (by decide) (fun _ => ?_) (fun z => absurd z (by decide +kernel))
      refine wp_aload_n d_RS_checkpoint_9 rfl ?_
      refine wp_getR d_RS_checkpoint_10 fl_RS_43 rfl rfl ?_
      refine wp_iconst (v := nI 3) d_RS_checkpoint_13 c_iconst_3 ?_
      refine wp_callV (as := [.inl (nI 3)]) (rest := []) (Q' := fun r h' => WP l E M_RS_checkpoint 17 [(0, .inr 0)] (rpush r []) h' _) d_RS_checkpoint_14 vb_RS_checkpoint_104 ⟨gw_2_49, gw_2_50⟩ rfl rfl rfl rfl (Nat.le_of_ble_eq_true rfl) rfl (Nat.le_of_ble_eq_true rfl) ?_ (fun r h' z => z)
      show WP l E M_JB_begin 0 [(0, .inr 6), (1, .inl (nI 3))] [] h _
      refine wp_aload_n d_JB_begin_0 rfl ?_
      refine wp_iload_n d_JB_begin_1 rfl ?_
      refine wp_putI d_JB_begin_2 fm_JB_18 rfl rfl ?_
      refine wp_aload_n d_JB_begin_5 rfl ?_
      refine wp_iconst (v := nI 0) d_JB_begin_6 c_iconst_0 ?_
      refine wp_putI d_JB_begin_7 fm_JB_22 rfl rfl ?_
      refine wp_aload_n d_JB_begin_10 rfl ?_
      refine wp_iconst (v := nI 0) d_JB_begin_11 c_iconst_0 ?_
      refine wp_putI d_JB_begin_12 fm_JB_25 rfl rfl ?_
      refine wp_return d_JB_begin_15 rfl ?_
      show WP l E M_RS_checkpoint 17 [(0, .inr 0)] [] (hw (hw (hw h 6 2 (nI 3)) 6 3 (nI 0)) 6 4 (nI 0)) _
      refine wp_iconst (v := nI 0) d_RS_checkpoint_17 c_iconst_0 ?_
      refine wp_istore_n (ls' := [(0, .inr 0), (1, .inl (nI 0))]) d_RS_checkpoint_18 (by decide) rfl ?_
      exact e2 c1 c2
    · refine wp_iconst (v := nI 1) d_JB_isRunning_7 c_iconst_1 ?_
      refine wp_goto (tgt := 12) d_JB_isRunning_8 (by decide) ?_
      refine wp_zreturn d_JB_isRunning_12 rfl (by decide) ?_
      show WP l E M_RS_isIdle 14 [(0, .inr 0)] [.inl (nI 1)] h _
      refine wp_if_ne (tgt := 21) d_RS_isIdle_14 (by decide) (fun _ => ?_) (fun z => absurd z (by decide +kernel))
      refine wp_iconst (v := nI 0) d_RS_isIdle_21 c_iconst_0 ?_
      refine wp_zreturn d_RS_isIdle_22 rfl (by decide) ?_
      show WP l E M_RS_checkpoint 4 [(0, .inr 0)] [.inl (nI 0)] h _
      refine wp_if_ne (tgt := 9) d_RS_checkpoint_4 (by decide) (fun z => absurd z (by decide +kernel)) (fun _ => ?_)
      refine wp_iconst (v := (-1)) d_RS_checkpoint_7 c_iconst_m1 ?_
      refine wp_ireturn d_RS_checkpoint_8 rfl ?_
      exact e3 c1 c2
set_option maxRecDepth 100000 in
set_option maxHeartbeats 4000000 in
theorem k_RS_checkpoint_19 {l : Launch} {E : xE} {x1 : Int32} {h : xh} {Q : Option Int32 → xh → Prop}
    (e1 : (nI 16) ≤ x1 → MC l E M_RS_planHead [.inr 0, .inl (h 0 8), .inl (h 0 9)] h (fun r h' => WP l E M_RS_checkpoint 98 [(0, .inr 0), (1, .inl (x1))] (rpush r []) h' Q))
    (o1 : ¬ (nI 16) ≤ x1 → vp_in (x1) 16)
    (o2 : ¬ (nI 16) ≤ x1 → h 13 ((x1).toNatClampNeg) = 0 ∨ h 13 ((x1).toNatClampNeg) = 1)
    (e2 : ¬ (nI 16) ≤ x1 → (h 13 ((x1).toNatClampNeg)) = 0 → WP l E M_RS_checkpoint 19 [(0, .inr 0), (1, .inl (x1 + nI 1))] [] h Q)
    (o3 : ¬ (nI 16) ≤ x1 → ¬ (h 13 ((x1).toNatClampNeg)) = 0 → vp_in (((x1) * (nI 4)) + (nI 0)) 64)
    (o4 : ¬ (nI 16) ≤ x1 → ¬ (h 13 ((x1).toNatClampNeg)) = 0 → vp_in (((x1) * (nI 4)) + (nI 1)) 64)
    (o5 : ¬ (nI 16) ≤ x1 → ¬ (h 13 ((x1).toNatClampNeg)) = 0 → vp_in (((x1) * (nI 4)) + (nI 2)) 64)
    (o6 : ¬ (nI 16) ≤ x1 → ¬ (h 13 ((x1).toNatClampNeg)) = 0 → vp_in (((x1) * (nI 4)) + (nI 3)) 64)
    (e3 : ¬ (nI 16) ≤ x1 → ¬ (h 13 ((x1).toNatClampNeg)) = 0 → MC l E M_JB_addWrite [.inr 6, .inl (x1), .inl (h 14 ((((x1) * (nI 4)) + (nI 0)).toNatClampNeg)), .inl (h 14 ((((x1) * (nI 4)) + (nI 1)).toNatClampNeg)), .inl (h 14 ((((x1) * (nI 4)) + (nI 2)).toNatClampNeg)), .inl (h 14 ((((x1) * (nI 4)) + (nI 3)).toNatClampNeg))] h (fun r h' => WP l E M_RS_checkpoint 80 [(0, .inr 0), (1, .inl (x1))] (rpush r []) h' Q)) : WP l E M_RS_checkpoint 19 [(0, .inr 0), (1, .inl (x1))] [] h Q := by
  refine wp_iload_n d_RS_checkpoint_19 rfl ?_
  refine wp_bipush (v := nI 16) d_RS_checkpoint_20 c_bipush_16 ?_
  refine wp_ic_ge (tgt := 86) d_RS_checkpoint_22 (by decide) (fun c1 => ?_) (fun c1 => ?_)
  · refine wp_aload_n d_RS_checkpoint_86 rfl ?_
    refine wp_aload_n d_RS_checkpoint_87 rfl ?_
    refine wp_getI d_RS_checkpoint_88 fl_RS_91 rfl rfl ?_
    refine wp_aload_n d_RS_checkpoint_91 rfl ?_
    refine wp_getI d_RS_checkpoint_92 fl_RS_121 rfl rfl ?_
    refine wp_callV (as := [.inl (h 0 8), .inl (h 0 9)]) (rest := []) (Q' := fun r h' => WP l E M_RS_checkpoint 98 [(0, .inr 0), (1, .inl (x1))] (rpush r []) h' Q) d_RS_checkpoint_95 vb_RS_checkpoint_124 ⟨gw_2_77, sw_7⟩ rfl rfl rfl rfl (Nat.le_of_ble_eq_true rfl) rfl (Nat.le_of_ble_eq_true rfl) ?_ (fun r h' z => z)
    exact e1 c1
  · refine wp_aload_n d_RS_checkpoint_25 rfl ?_
    refine wp_getR d_RS_checkpoint_26 fl_RS_23 rfl rfl ?_
    refine wp_iload_n d_RS_checkpoint_29 rfl ?_
    refine wp_callV (as := [.inl (x1)]) (rest := []) (Q' := fun r h' => WP l E M_RS_checkpoint 33 [(0, .inr 0), (1, .inl (x1))] (rpush r []) h' _) d_RS_checkpoint_30 vb_RS_checkpoint_59 ⟨gw_1_205, gw_1_206⟩ rfl rfl rfl rfl (Nat.le_of_ble_eq_true rfl) rfl (Nat.le_of_ble_eq_true rfl) ?_ (fun r h' z => z)
    show WP l E M_IM_holds 0 [(0, .inr 3), (1, .inl (x1))] [] h _
    refine wp_aload_n d_IM_holds_0 rfl ?_
    refine wp_getR d_IM_holds_1 fl_IM_9 rfl rfl ?_
    refine wp_iload_n d_IM_holds_4 rfl ?_
    refine wp_baload d_IM_holds_5 rfl (o1 c1) ?_
    refine wp_zreturn d_IM_holds_6 rfl (o2 c1) ?_
    show WP l E M_RS_checkpoint 33 [(0, .inr 0), (1, .inl (x1))] [.inl (h 13 ((x1).toNatClampNeg))] h _
    refine wp_if_eq (tgt := 80) d_RS_checkpoint_33 (by decide) (fun c2 => ?_) (fun c2 => ?_)
    · refine wp_iinc (v := x1 + nI 1) (ls' := [(0, .inr 0), (1, .inl (x1 + nI 1))]) d_RS_checkpoint_80 rfl (c_inc_1 _) (by decide) rfl ?_
      refine wp_goto (tgt := 19) d_RS_checkpoint_83 (by decide) ?_
      exact e2 c1 c2
    · refine wp_aload_n d_RS_checkpoint_36 rfl ?_
      refine wp_getR d_RS_checkpoint_37 fl_RS_43 rfl rfl ?_
      refine wp_iload_n d_RS_checkpoint_40 rfl ?_
      refine wp_aload_n d_RS_checkpoint_41 rfl ?_
      refine wp_getR d_RS_checkpoint_42 fl_RS_23 rfl rfl ?_
      refine wp_iload_n d_RS_checkpoint_45 rfl ?_
      refine wp_iconst (v := nI 0) d_RS_checkpoint_46 c_iconst_0 ?_
      refine wp_callV (as := [.inl (x1), .inl (nI 0)]) (rest := [.inl (x1), .inr 6]) (Q' := fun r h' => WP l E M_RS_checkpoint 50 [(0, .inr 0), (1, .inl (x1))] (rpush r [.inl (x1), .inr 6]) h' _) d_RS_checkpoint_47 vb_RS_checkpoint_113 ⟨gw_1_221, gw_1_222⟩ rfl rfl rfl rfl (Nat.le_of_ble_eq_true rfl) rfl (Nat.le_of_ble_eq_true rfl) ?_ (fun r h' z => z)
      show WP l E M_IM_word 0 [(0, .inr 3), (1, .inl (x1)), (2, .inl (nI 0))] [] h _
      refine wp_aload_n d_IM_word_0 rfl ?_
      refine wp_getR d_IM_word_1 fl_IM_15 rfl rfl ?_
      refine wp_iload_n d_IM_word_4 rfl ?_
      refine wp_iconst (v := nI 4) d_IM_word_5 c_iconst_4 ?_
      refine wp_imul d_IM_word_6 ?_
      refine wp_iload_n d_IM_word_7 rfl ?_
      refine wp_iadd d_IM_word_8 ?_
      refine wp_iaload d_IM_word_9 rfl (o3 c1 c2) ?_
      refine wp_ireturn d_IM_word_10 rfl ?_
      show WP l E M_RS_checkpoint 50 [(0, .inr 0), (1, .inl (x1))] [.inl (h 14 ((((x1) * (nI 4)) + (nI 0)).toNatClampNeg)), .inl (x1), .inr 6] h _
      refine wp_aload_n d_RS_checkpoint_50 rfl ?_
      refine wp_getR d_RS_checkpoint_51 fl_RS_23 rfl rfl ?_
      refine wp_iload_n d_RS_checkpoint_54 rfl ?_
      refine wp_iconst (v := nI 1) d_RS_checkpoint_55 c_iconst_1 ?_
      refine wp_callV (as := [.inl (x1), .inl (nI 1)]) (rest := [.inl (h 14 ((((x1) * (nI 4)) + (nI 0)).toNatClampNeg)), .inl (x1), .inr 6]) (Q' := fun r h' => WP l E M_RS_checkpoint 59 [(0, .inr 0), (1, .inl (x1))] (rpush r [.inl (h 14 ((((x1) * (nI 4)) + (nI 0)).toNatClampNeg)), .inl (x1), .inr 6]) h' _) d_RS_checkpoint_56 vb_RS_checkpoint_113 ⟨gw_1_221, gw_1_222⟩ rfl rfl rfl rfl (Nat.le_of_ble_eq_true rfl) rfl (Nat.le_of_ble_eq_true rfl) ?_ (fun r h' z => z)
      show WP l E M_IM_word 0 [(0, .inr 3), (1, .inl (x1)), (2, .inl (nI 1))] [] h _
      refine wp_aload_n d_IM_word_0 rfl ?_
      refine wp_getR d_IM_word_1 fl_IM_15 rfl rfl ?_
      refine wp_iload_n d_IM_word_4 rfl ?_
      refine wp_iconst (v := nI 4) d_IM_word_5 c_iconst_4 ?_
      refine wp_imul d_IM_word_6 ?_
      refine wp_iload_n d_IM_word_7 rfl ?_
      refine wp_iadd d_IM_word_8 ?_
      refine wp_iaload d_IM_word_9 rfl (o4 c1 c2) ?_
      refine wp_ireturn d_IM_word_10 rfl ?_
      show WP l E M_RS_checkpoint 59 [(0, .inr 0), (1, .inl (x1))] [.inl (h 14 ((((x1) * (nI 4)) + (nI 1)).toNatClampNeg)), .inl (h 14 ((((x1) * (nI 4)) + (nI 0)).toNatClampNeg)), .inl (x1), .inr 6] h _
      refine wp_aload_n d_RS_checkpoint_59 rfl ?_
      refine wp_getR d_RS_checkpoint_60 fl_RS_23 rfl rfl ?_
      refine wp_iload_n d_RS_checkpoint_63 rfl ?_
      refine wp_iconst (v := nI 2) d_RS_checkpoint_64 c_iconst_2 ?_
      refine wp_callV (as := [.inl (x1), .inl (nI 2)]) (rest := [.inl (h 14 ((((x1) * (nI 4)) + (nI 1)).toNatClampNeg)), .inl (h 14 ((((x1) * (nI 4)) + (nI 0)).toNatClampNeg)), .inl (x1), .inr 6]) (Q' := fun r h' => WP l E M_RS_checkpoint 68 [(0, .inr 0), (1, .inl (x1))] (rpush r [.inl (h 14 ((((x1) * (nI 4)) + (nI 1)).toNatClampNeg)), .inl (h 14 ((((x1) * (nI 4)) + (nI 0)).toNatClampNeg)), .inl (x1), .inr 6]) h' _) d_RS_checkpoint_65 vb_RS_checkpoint_113 ⟨gw_1_221, gw_1_222⟩ rfl rfl rfl rfl (Nat.le_of_ble_eq_true rfl) rfl (Nat.le_of_ble_eq_true rfl) ?_ (fun r h' z => z)
      show WP l E M_IM_word 0 [(0, .inr 3), (1, .inl (x1)), (2, .inl (nI 2))] [] h _
      refine wp_aload_n d_IM_word_0 rfl ?_
      refine wp_getR d_IM_word_1 fl_IM_15 rfl rfl ?_
      refine wp_iload_n d_IM_word_4 rfl ?_
      refine wp_iconst (v := nI 4) d_IM_word_5 c_iconst_4 ?_
      refine wp_imul d_IM_word_6 ?_
      refine wp_iload_n d_IM_word_7 rfl ?_
      refine wp_iadd d_IM_word_8 ?_
      refine wp_iaload d_IM_word_9 rfl (o5 c1 c2) ?_
      refine wp_ireturn d_IM_word_10 rfl ?_
      show WP l E M_RS_checkpoint 68 [(0, .inr 0), (1, .inl (x1))] [.inl (h 14 ((((x1) * (nI 4)) + (nI 2)).toNatClampNeg)), .inl (h 14 ((((x1) * (nI 4)) + (nI 1)).toNatClampNeg)), .inl (h 14 ((((x1) * (nI 4)) + (nI 0)).toNatClampNeg)), .inl (x1), .inr 6] h _
      refine wp_aload_n d_RS_checkpoint_68 rfl ?_
      refine wp_getR d_RS_checkpoint_69 fl_RS_23 rfl rfl ?_
      refine wp_iload_n d_RS_checkpoint_72 rfl ?_
      refine wp_iconst (v := nI 3) d_RS_checkpoint_73 c_iconst_3 ?_
      refine wp_callV (as := [.inl (x1), .inl (nI 3)]) (rest := [.inl (h 14 ((((x1) * (nI 4)) + (nI 2)).toNatClampNeg)), .inl (h 14 ((((x1) * (nI 4)) + (nI 1)).toNatClampNeg)), .inl (h 14 ((((x1) * (nI 4)) + (nI 0)).toNatClampNeg)), .inl (x1), .inr 6]) (Q' := fun r h' => WP l E M_RS_checkpoint 77 [(0, .inr 0), (1, .inl (x1))] (rpush r [.inl (h 14 ((((x1) * (nI 4)) + (nI 2)).toNatClampNeg)), .inl (h 14 ((((x1) * (nI 4)) + (nI 1)).toNatClampNeg)), .inl (h 14 ((((x1) * (nI 4)) + (nI 0)).toNatClampNeg)), .inl (x1), .inr 6]) h' _) d_RS_checkpoint_74 vb_RS_checkpoint_113 ⟨gw_1_221, gw_1_222⟩ rfl rfl rfl rfl (Nat.le_of_ble_eq_true rfl) rfl (Nat.le_of_ble_eq_true rfl) ?_ (fun r h' z => z)
      show WP l E M_IM_word 0 [(0, .inr 3), (1, .inl (x1)), (2, .inl (nI 3))] [] h _
      refine wp_aload_n d_IM_word_0 rfl ?_
      refine wp_getR d_IM_word_1 fl_IM_15 rfl rfl ?_
      refine wp_iload_n d_IM_word_4 rfl ?_
      refine wp_iconst (v := nI 4) d_IM_word_5 c_iconst_4 ?_
      refine wp_imul d_IM_word_6 ?_
      refine wp_iload_n d_IM_word_7 rfl ?_
      refine wp_iadd d_IM_word_8 ?_
      refine wp_iaload d_IM_word_9 rfl (o6 c1 c2) ?_
      refine wp_ireturn d_IM_word_10 rfl ?_
      show WP l E M_RS_checkpoint 77 [(0, .inr 0), (1, .inl (x1))] [.inl (h 14 ((((x1) * (nI 4)) + (nI 3)).toNatClampNeg)), .inl (h 14 ((((x1) * (nI 4)) + (nI 2)).toNatClampNeg)), .inl (h 14 ((((x1) * (nI 4)) + (nI 1)).toNatClampNeg)), .inl (h 14 ((((x1) * (nI 4)) + (nI 0)).toNatClampNeg)), .inl (x1), .inr 6] h _
      refine wp_callV (as := [.inl (x1), .inl (h 14 ((((x1) * (nI 4)) + (nI 0)).toNatClampNeg)), .inl (h 14 ((((x1) * (nI 4)) + (nI 1)).toNatClampNeg)), .inl (h 14 ((((x1) * (nI 4)) + (nI 2)).toNatClampNeg)), .inl (h 14 ((((x1) * (nI 4)) + (nI 3)).toNatClampNeg))]) (rest := []) (Q' := fun r h' => WP l E M_RS_checkpoint 80 [(0, .inr 0), (1, .inl (x1))] (rpush r []) h' Q) d_RS_checkpoint_77 vb_RS_checkpoint_117 ⟨gw_2_64, gw_2_65⟩ rfl rfl rfl rfl (Nat.le_of_ble_eq_true rfl) rfl (Nat.le_of_ble_eq_true rfl) ?_ (fun r h' z => z)
      exact e3 c1 c2
