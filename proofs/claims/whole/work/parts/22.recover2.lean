/-! RECOVERY in the class: the plan -/
theorem lt_m1 {a b : Nat} (ha : a < 2 ^ 30) (hb : b < 2 ^ 30) : nI a < nI b - nI 1 ↔ a + 1 < b := by
  cases b with
  | zero =>
    constructor
    · intro c
      have e : nI 0 - nI 1 < 0 := by decide +kernel
      exact absurd (Int32.lt_trans c e) (nnn (by omega))
    · intro c; omega
  | succ b =>
    rw [npred, nI_ltI (by omega) (by omega)]
    omega
theorem prd_job {h h1 : xh} (f : fr prd h h1) : fr pjob h h1 := f.mono (fun k j q => by
  unfold pjob at q
  have q1 := (Bool.or_eq_false_iff.mp q).1
  unfold pc at q1
  show (pc [5, 17, 18, 19, 20, 21, 22]) k j = false
  unfold pc
  cases h1 : Nat.beq k 5 <;> cases h2 : Nat.beq k 17 <;> cases h3 : Nat.beq k 18 <;> cases h4 : Nat.beq k 19 <;> cases h5 : Nat.beq k 20 <;> cases h6 : Nat.beq k 21 <;> cases h7 : Nat.beq k 22 <;> simp_all)
section RCC
variable {l : Launch} {E : xE} {h : xh} {Q : Option Int32 → xh → Prop} {L : Nat → Nat → Int32}
variable {up num nx us : Nat} {kd : Nat → Nat} {rn : Nat → Int32} {pd : Nat → Nat} {pw : Nat → Int32}
/-- the images stand inside the log -/
def inL (x : xI3) : Prop := x.1 + 1 + x.2.1 < 24 ∧ x.2.1 < 4 ∧ x.2.2 < 24
theorem pgI_in {q : Nat} : ∀ f a, ∀ x ∈ pgI L q f a, x.1 + 1 + x.2 < 24 ∧ x.2 < 4
  | 0, a, x, hx => by simp [pgI] at hx
  | f + 1, a, x, hx => by
    unfold pgI at hx
    split at hx
    · next g =>
      rcases List.mem_append.mp hx with h1 | h1
      · obtain ⟨j, hj, rfl⟩ := List.mem_map.mp h1
        have := List.mem_range.mp hj
        have g1 := g.2.2.1
        have g2 := g.2.2.2
        show a + 1 + j < 24 ∧ j < 4
        omega
      · exact pgI_in f _ x h1
    · simp at hx
theorem img_in {q0 : Nat} : ∀ t, t ≤ 24 → ∀ x ∈ img L q0 t, inL x
  | 0, _, x, hx => by simp [img] at hx
  | t + 1, ht, x, hx => by
    unfold img at hx
    rcases List.mem_append.mp hx with h1 | h1
    · exact img_in t (by omega) x h1
    · obtain ⟨y, hy, rfl⟩ := List.mem_map.mp h1
      have := pgI_in 24 _ y hy
      exact ⟨this.1, this.2, by show t < 24; omega⟩
theorem getD_mem {X : List xI3} {i : Nat} (h : i < X.length) : X.getD i (0, 0, 0) ∈ X := by
  rw [List.getD_eq_getElem?_getD, List.getElem?_eq_getElem h]
  exact List.getElem_mem h
theorem take_f {X : List xI3} {p : xI3 → Bool} {i : Nat} (h : i < X.length) : (X.take (i + 1)).filter p = (X.take i).filter p ++ (if p (X.getD i (0, 0, 0)) = true then [X.getD i (0, 0, 0)] else []) := by
  have e : X.take (i + 1) = X.take i ++ [X.getD i (0, 0, 0)] := by
    rw [List.take_succ, List.getElem?_eq_getElem h, List.getD_eq_getElem?_getD, List.getElem?_eq_getElem h]
    rfl
  rw [e, List.filter_append]
  congr 1
  generalize X.getD i (0, 0, 0) = x
  by_cases c : p x = true
  · rw [if_pos c]
    simp [c]
  · rw [if_neg c]
    simp [c]
theorem getD_take {X : List xI3} {p : xI3 → Bool} {i k : Nat} (hk : k < ((X.take i).filter p).length) : (X.filter p).getD k (0, 0, 0) = ((X.take i).filter p).getD k (0, 0, 0) := by
  have e : X.filter p = (X.take i).filter p ++ (X.drop i).filter p := by rw [← List.filter_append, List.take_append_drop]
  rw [e, List.getD_eq_getElem?_getD, List.getElem?_append_left hk, ← List.getD_eq_getElem?_getD]
theorem s_isToReplay {p0 q0 i : Nat} (R : rdS L p0 q0 (NV L q0) h) (hi : i < (img L q0 (NV L q0)).length) (hq : Q (some (nI (if kpr L q0 ((img L q0 (NV L q0)).getD i (0, 0, 0)) = true then 1 else 0))) h) : MC l E M_LR_isToReplay [.inr 5, .inl (nI i)] h Q := by
  obtain ⟨hL, r6, r7, r8, r9, rA, r22⟩ := R
  have hx := img_in (L := L) (q0 := q0) (NV L q0) NV_le _ (getD_mem hi)
  have h24 : i < 24 := by
    have h1 := stt_le (NV_ok (L := L) (q0 := q0)).1
    have h2 := img_len (L := L) (q0 := q0) (NV L q0)
    omega
  obtain ⟨a18, a19, a20, a21⟩ := rA i hi
  generalize (img L q0 (NV L q0)).getD i (0, 0, 0) = x at *
  have ei : (nI i).toNatClampNeg = i := nI_clamp (by omega)
  have hb := bk_lt L x
  have eb : (nI (bk L x)).toNatClampNeg = bk L x := nI_clamp (by omega)
  have hr := rvk_le (L := L) (q0 := q0) (b := bk L x) (NV L q0)
  have hn := NV_le (L := L) (q0 := q0)
  have hx3 := hx.2.2
  refine k_LR_isToReplay_0 (vp_in_nI h24 (by decide)) (by rw [ei, a19]; exact vp_in_nI hb (by decide)) (vp_in_nI h24 (by decide)) (fun c => ?_) (fun c => ?_)
  all_goals rw [ei, a19, a21, eb, r22 _ hb, lt_m1 (by omega) (by omega)] at c
  · have : ¬ kpr L q0 x = true := by
      unfold kpr
      rw [decide_eq_true_eq]
      omega
    rw [if_neg this] at hq
    exact hq
  · have : kpr L q0 x = true := by
      unfold kpr
      rw [decide_eq_true_eq]
      omega
    rw [if_pos this] at hq
    exact hq
theorem s_lrword {p0 q0 i w : Nat} (R : rdS L p0 q0 (NV L q0) h) (hi : i < (img L q0 (NV L q0)).length) (hw4 : w < 4) (hq : Q (some (iw L ((img L q0 (NV L q0)).getD i (0, 0, 0)) w)) h) : MC l E M_LR_word [.inr 5, .inl (nI i), .inl (nI w)] h Q := by
  obtain ⟨hL, r6, r7, r8, r9, rA, r22⟩ := R
  have hx := img_in (L := L) (q0 := q0) (NV L q0) NV_le _ (getD_mem hi)
  have h24 : i < 24 := by
    have h1 := stt_le (NV_ok (L := L) (q0 := q0)).1
    have h2 := img_len (L := L) (q0 := q0) (NV L q0)
    omega
  obtain ⟨a18, a19, a20, a21⟩ := rA i hi
  generalize (img L q0 (NV L q0)).getD i (0, 0, 0) = x at *
  have ei : (nI i).toNatClampNeg = i := nI_clamp (by omega)
  have hx1 := hx.1
  have i24 : vp_in (nI i) 24 := vp_in_nI h24 (by decide)
  have ew : nI (x.1 + 1 + x.2.1) * nI 4 + nI w = nI (4 * (x.1 + 1 + x.2.1) + w) := by rw [pk_mul, nI_add, show (x.1 + 1 + x.2.1) * 4 + w = 4 * (x.1 + 1 + x.2.1) + w by omega]
  have i96 : vp_in (h 18 ((nI i).toNatClampNeg) * nI 4 + nI w) 96 := by rw [ei, a18, ew]; exact vp_in_nI (by omega) (by decide)
  have zv : h 17 ((h 18 ((nI i).toNatClampNeg) * nI 4 + nI w).toNatClampNeg) = L (x.1 + 1 + x.2.1) w := by rw [ei, a18, ew, nI_clamp (by omega)]; exact hL _ hx1 w hw4
  unfold iw at hq
  refine k_LR_word_0 (fun _ => i24) (fun _ => i96) (fun c => ?_) (fun _ => i24) (fun _ _ => i24) (fun _ _ => i96) (fun c c2 => ?_) (fun c c2 => ?_)
  · rw [if_neg (fun z => c (by rw [z]; exact nI_0))] at hq
    rw [zv]; exact hq
  · have c := n0 c (by omega)
    rw [ei, a20] at c2
    have ch : ¬ hid L x = true := fun z => by rw [if_pos z] at c2; exact absurd c2 (by decide +kernel)
    rw [if_pos c, if_neg ch] at hq
    rw [zv, c]; exact hq
  · have c := n0 c (by omega)
    rw [ei, a20] at c2
    have ch : hid L x = true := Classical.byContradiction (fun z => by rw [if_neg z] at c2; exact absurd nI_0 c2)
    rw [if_pos c, if_pos ch] at hq
    exact hq
theorem c_recover_no (V : VC up num nx us kd rn pd pw h) (hb : up = 1 ∨ ¬ h 6 2 = 0) (hu : up = 0 ∨ up = 1) (hq : Q (some (-1)) h) : MC l E M_RS_recover [.inr 0] h Q := by
  refine k_RS_recover_0 (fun _ => hq) (fun a1 a2 => ?_) (fun _ _ => hq)
  rcases hb with e | e
  · rw [V.1, e] at a1
    exact absurd a1 (by decide +kernel)
  · exact absurd a2 e
theorem c_recover_yes {σ : xD} {m : Nat} (D : DCt σ h) (hm : vs σ 16 1 = nI m) (hm2 : m < 2 ^ 29) (V : VC up num nx us kd rn pd pw h) (hup : up = 0) (hj : h 6 2 = 0)
    (hq : ∀ h', fr pjob h h' → JR 4 0 ((RL (LG (vs σ)) (hQ (vs σ))).length + 3) (pt4 (LG (vs σ)) (hQ (vs σ))) (pq4 (LG (vs σ)) (hP (vs σ)) (hQ (vs σ))) h' → h' 5 6 = nI (hP (vs σ)) → h' 5 7 = nI (hQ (vs σ) + NV (LG (vs σ)) (hQ (vs σ))) → h' 5 8 = nI (stt (LG (vs σ)) (hQ (vs σ)) (NV (LG (vs σ)) (hQ (vs σ)))) → Q (some (nI (RL (LG (vs σ)) (hQ (vs σ))).length)) h') : MC l E M_RS_recover [.inr 0] h Q := by
  have u0 : h 0 6 = 0 := by rw [V.1, hup]; exact nI_0
  refine k_RS_recover_0 (fun c => absurd u0 c) (fun _ _ => ?_) (fun _ c => absurd hj c)
  refine s_scan D hm hm2 (fun h1 f1 R1 => ?_)
  refine k_RS_recover_30 ?_
  have hp := hP_lt (vs σ)
  generalize LG (vs σ) = L at *
  generalize hP (vs σ) = p0 at *
  generalize hQ (vs σ) = q0 at *
  have hst := stt_le (NV_ok (L := L) (q0 := q0)).1
  have hlen := img_len (L := L) (q0 := q0) (NV L q0)
  generalize hh : hw (hw (hw h1 6 2 (nI 4)) 6 3 (nI 0)) 6 4 (nI 0) = h0
  have g0 : fr pjob h h0 := by rw [← hh]; exact (((prd_job f1).hw rfl).hw rfl).hw rfl
  have g1 : fr (fun k j => Nat.beq k 6 && (Nat.beq j 2 || Nat.beq j 3 || Nat.beq j 4)) h1 h0 := by rw [← hh]; exact ((fr.rf.hw rfl).hw rfl).hw rfl
  have e2 : h0 6 2 = nI 4 := by rw [← hh, hwk, upi, if_neg (by decide), hwk, upi, if_neg (by decide), hwk, upi, if_pos rfl]
  have e3 : h0 6 3 = nI 0 := by rw [← hh, hwk, upi, if_neg (by decide), hwk, upi, if_pos rfl]
  have e4 : h0 6 4 = nI 0 := by rw [← hh, hwk, upi, if_pos rfl]
  have rdk : ∀ (h' : xh), fr pjw h0 h' → rdS L p0 q0 (NV L q0) h' := by
    intro h' f
    obtain ⟨r0, r6, r7, r8, r9, rA, r22⟩ := R1
    refine ⟨?_, ?_, ?_, ?_, ?_, ?_, fun b hb => ?_⟩
    · rw [f.cell 17 (fun _ => rfl), g1.cell 17 (fun _ => rfl)]; exact r0
    · rw [f 5 6 rfl, g1 5 6 rfl]; exact r6
    · rw [f 5 7 rfl, g1 5 7 rfl]; exact r7
    · rw [f 5 8 rfl, g1 5 8 rfl]; exact r8
    · rw [f 5 9 rfl, g1 5 9 rfl]; exact r9
    · show ia L _ (h' 18) (h' 19) (h' 20) (h' 21)
      rw [f.cell 18 (fun _ => rfl), f.cell 19 (fun _ => rfl), f.cell 20 (fun _ => rfl), f.cell 21 (fun _ => rfl), g1.cell 18 (fun _ => rfl), g1.cell 19 (fun _ => rfl), g1.cell 20 (fun _ => rfl), g1.cell 21 (fun _ => rfl)]
      exact rA
    · rw [f 22 b rfl, g1 22 b rfl]; exact r22 b hb
  have fle : ∀ i, (((img L q0 (NV L q0)).take i).filter (kpr L q0)).length ≤ i := fun i => Nat.le_trans (List.length_filter_le _ _) (by rw [List.length_take]; omega)
  have key : ∀ (j i : Nat) (h' : xh), i + j = (img L q0 (NV L q0)).length → fr pjw h0 h' → h' 6 3 = nI (((img L q0 (NV L q0)).take i).filter (kpr L q0)).length → pl (((img L q0 (NV L q0)).take i).filter (kpr L q0)).length (pt4 L q0) (pq4 L p0 q0) (h' 23) (h' 24) → WP l E M_RS_recover 42 [(0, .inr 0), (1, .inl (nI (((img L q0 (NV L q0)).take i).filter (kpr L q0)).length)), (2, .inl (nI i))] [] h' Q := by
    intro j
    induction j with
    | zero =>
      intro i h' hi f x1 x2
      have ei : i = (img L q0 (NV L q0)).length := by omega
      subst ei
      rw [List.take_length] at x1 x2 ⊢
      have x1 : h' 6 3 = nI (RL L q0).length := x1
      have x2 : pl (RL L q0).length (pt4 L q0) (pq4 L p0 q0) (h' 23) (h' 24) := x2
      show WP l E M_RS_recover 42 [(0, .inr 0), (1, .inl (nI (RL L q0).length)), (2, .inl (nI (img L q0 (NV L q0)).length))] [] h' Q
      obtain ⟨r0, r6, r7, r8, r9, rA, r22⟩ := rdk h' f
      have c0 : h' 5 9 ≤ nI (img L q0 (NV L q0)).length := by rw [r9]; exact nI_le (Nat.le_refl _) (by omega)
      refine k_RS_recover_42 (fun _ => ?_) (fun c => absurd c0 c)
      have hrl := RL_len (L := L) (q0 := q0)
      rw [r7, r6, r8, nI_add, nrem (by omega)]
      refine s_planHead x1 (by omega) (fun h2 f2 b1 b2 b3 b4 b5 b6 b7 b8 b9 b10 => ?_)
      refine k_RS_recover_142 ?_
      have ft : fr pjw h0 h2 := f.tr f2
      obtain ⟨-, s6, s7, s8, -⟩ := rdk h2 ft
      refine hq h2 (g0.tr (pjw_in ft)) ⟨by rw [ft 6 2 rfl]; exact e2, b1, by rw [ft 6 4 rfl]; exact e4, by omega, by omega, by omega, ?_⟩ s6 s7 s8
      refine plan_end x2 (fun k _ _ _ => pt4_lt) b2 b3 ?_ (fun w hw4 => ?_) b9 b10
      · rw [b4]; unfold pt4; rw [if_pos rfl]
      · unfold pq4
        rw [show (4 * ((RL L q0).length + 1) + w) / 4 = (RL L q0).length + 1 by omega, show (4 * ((RL L q0).length + 1) + w) % 4 = w by omega, if_pos rfl]
        unfold hdw
        rcases (show w = 0 ∨ w = 1 ∨ w = 2 ∨ w = 3 by omega) with rfl | rfl | rfl | rfl
        · exact b5
        · exact b6
        · exact b7
        · exact b8
    | succ j ih =>
      intro i h' hi f x1 x2
      have hil : i < (img L q0 (NV L q0)).length := by omega
      have R := rdk h' f
      have a19 := (R.2.2.2.2.2.1 i hil).2.1
      have c0 : ¬ h' 5 9 ≤ nI i := by rw [R.2.2.2.2.1]; exact nI_ge hil (by omega)
      refine k_RS_recover_42 (fun c => absurd c c0) (fun _ => ?_)
      refine s_isToReplay R hil ?_
      have tf := take_f (X := img L q0 (NV L q0)) (p := kpr L q0) hil
      have hfi := fle i
      by_cases c : kpr L q0 ((img L q0 (NV L q0)).getD i (0, 0, 0)) = true
      · rw [if_pos c]
        rw [if_pos c] at tf
        refine k_RS_recover_61 (fun z => absurd z (by decide +kernel)) (fun _ => vp_in_nI (by omega) (by decide)) (fun _ => ?_)
        refine s_lrword R hil (by omega) ?_
        refine k_RS_recover_85 ?_
        refine s_lrword R hil (by omega) ?_
        refine k_RS_recover_94 ?_
        refine s_lrword R hil (by omega) ?_
        refine k_RS_recover_103 ?_
        refine s_lrword R hil (by omega) ?_
        refine k_RS_recover_112 ?_
        rw [nI_clamp (by omega), a19]
        refine s_addWrite x1 (by omega) (fun h2 f2 b1 b2 b3 b4 b5 b6 b7 b8 => ?_)
        refine k_RS_recover_115 ?_
        rw [nI_add, nI_add]
        have := ih (i + 1) h2 (by omega) (f.tr f2)
        rw [tf, List.length_append] at this
        refine this b1 (fun k hk => ?_)
        have hk : k < (((img L q0 (NV L q0)).take i).filter (kpr L q0)).length + 1 := hk
        have hle : (((img L q0 (NV L q0)).take (i + 1)).filter (kpr L q0)).length ≤ (RL L q0).length := by
          have e : RL L q0 = ((img L q0 (NV L q0)).take (i + 1)).filter (kpr L q0) ++ ((img L q0 (NV L q0)).drop (i + 1)).filter (kpr L q0) := by unfold RL; rw [← List.filter_append, List.take_append_drop]
          rw [e, List.length_append]; omega
        rw [tf, List.length_append] at hle
        have hle : (((img L q0 (NV L q0)).take i).filter (kpr L q0)).length + 1 ≤ (RL L q0).length := hle
        by_cases ek : k = (((img L q0 (NV L q0)).take i).filter (kpr L q0)).length
        · have eg : (RL L q0).getD k (0, 0, 0) = (img L q0 (NV L q0)).getD i (0, 0, 0) := by
            unfold RL
            rw [getD_take (i := i + 1) (by rw [tf, List.length_append]; exact hk), tf, ek, getD_r]
          refine ⟨?_, fun w hw4 => ?_⟩
          · rw [ek, b2]; unfold pt4; rw [if_neg (by omega), ← ek, eg]
          · unfold pq4
            rw [show (4 * k + w) / 4 = k by omega, show (4 * k + w) % 4 = w by omega, if_neg (by omega), eg, ek]
            rcases (show w = 0 ∨ w = 1 ∨ w = 2 ∨ w = 3 by omega) with rfl | rfl | rfl | rfl
            · exact b4
            · exact b5
            · exact b6
            · exact b7
        · have := x2 k (by omega)
          refine ⟨by rw [b3 k ek]; exact this.1, fun w hw4 => ?_⟩
          rw [b8 _ (by omega)]
          exact this.2 w hw4
      · rw [if_neg c]
        rw [if_neg c, List.append_nil] at tf
        refine k_RS_recover_61 (fun _ => ?_) (fun z => absurd nI_0 z) (fun z => absurd nI_0 z)
        rw [nI_add]
        have := ih (i + 1) h' (by omega) f
        rw [tf] at this
        exact this x1 x2
  have := key (img L q0 (NV L q0)).length 0 h0 (by omega) fr.rf
  exact this e3 (fun k hk => absurd hk (Nat.not_lt_zero _))
end RCC
