set_option maxRecDepth 100000 in
set_option maxHeartbeats 4000000 in
theorem k_JA_fill_0 {l : Launch} {E : xE} {x1 : Int32} {h : xh} {Q : Option Int32 → xh → Prop}
    (e1 : WP l E M_JA_fill 5 [(0, .inr 22), (1, .inl (x1)), (2, .inl (nI 0)), (3, .inl (nI 16))] [] h Q) : MC l E M_JA_fill [.inr 22, .inl (x1)] h Q := by
  refine wp_iconst (v := nI 0) d_JA_fill_0 c_iconst_0 ?_
  refine wp_istore_n (ls' := [(0, .inr 22), (1, .inl (x1)), (2, .inl (nI 0))]) d_JA_fill_1 (by decide) rfl ?_
  refine wp_aload_n d_JA_fill_2 rfl ?_
  refine wp_alen d_JA_fill_3 rfl ?_
  refine wp_istore_n (ls' := [(0, .inr 22), (1, .inl (x1)), (2, .inl (nI 0)), (3, .inl (nI 16))]) d_JA_fill_4 (by decide) rfl ?_
  exact e1
set_option maxRecDepth 100000 in
set_option maxHeartbeats 4000000 in
theorem k_JA_fill_5 {l : Launch} {E : xE} {x1 x2 x3 : Int32} {h : xh} {Q : Option Int32 → xh → Prop}
    (e1 : x3 ≤ x2 → Q none h)
    (o1 : ¬ x3 ≤ x2 → vp_in (x2) 16)
    (e2 : ¬ x3 ≤ x2 → WP l E M_JA_fill 5 [(0, .inr 22), (1, .inl (x1)), (2, .inl (x2 + nI 1)), (3, .inl (x3))] [] (hw h 22 ((x2).toNatClampNeg) (x1)) Q) : WP l E M_JA_fill 5 [(0, .inr 22), (1, .inl (x1)), (2, .inl (x2)), (3, .inl (x3))] [] h Q := by
  refine wp_iload_n d_JA_fill_5 rfl ?_
  refine wp_iload_n d_JA_fill_6 rfl ?_
  refine wp_ic_ge (tgt := 20) d_JA_fill_7 (by decide) (fun c1 => ?_) (fun c1 => ?_)
  · refine wp_return d_JA_fill_20 rfl ?_
    exact e1 c1
  · refine wp_aload_n d_JA_fill_10 rfl ?_
    refine wp_iload_n d_JA_fill_11 rfl ?_
    refine wp_iload_n d_JA_fill_12 rfl ?_
    refine wp_iastore d_JA_fill_13 rfl (o1 c1) ?_
    refine wp_iinc (v := x2 + nI 1) (ls' := [(0, .inr 22), (1, .inl (x1)), (2, .inl (x2 + nI 1)), (3, .inl (x3))]) d_JA_fill_14 rfl (c_inc_1 _) (by decide) rfl ?_
    refine wp_goto (tgt := 5) d_JA_fill_17 (by decide) ?_
    exact e2 c1
