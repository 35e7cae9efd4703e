/-! COMMIT -/
def pt2 (kd : Nat → Nat) (nx : Nat) : Nat → Nat := fun k => 17 + (nx + if k = rl1 kd + 1 then rl1 kd else k) % 24
def pq2 (kd : Nat → Nat) (rn : Nat → Int32) (num : Nat) : Nat → Int32 := fun i => rw4 kd rn num (if i / 4 = rl1 kd + 1 then rl1 kd else i / 4) (i % 4)
theorem pt2_lt {kd : Nat → Nat} {nx k : Nat} : pt2 kd nx k < 41 := by unfold pt2; omega
theorem rl1_le {kd : Nat → Nat} (h : cnt kd 1 16 ≤ 8) : rl1 kd ≤ 11 := by
  unfold rl1 gl
  split <;> omega
section COMC
variable {l : Launch} {E : xE} {h : xh} {Q : Option Int32 → xh → Prop}
variable {up num nx us : Nat} {kd : Nat → Nat} {rn : Nat → Int32} {pd : Nat → Nat} {pw : Nat → Int32}
theorem c_commit_no (V : VC up num nx us kd rn pd pw h) (hu : up = 0 ∨ up = 1) (hb : up = 0 ∨ ¬ h 6 2 = 0 ∨ (cnt kd 1 16 = 0 ∧ cnt kd 2 16 = 0)) (hq : Q (some (-1)) h) : MC l E M_RS_commit [.inr 0] h Q := by
  obtain ⟨v6, hv⟩ := V
  have g : ∀ {A : Prop}, ¬ h 0 6 = 0 → h 6 2 = 0 → (¬ h 2 2 = 0 ∨ ¬ h 0 7 = 0) → A := by
    intro A a1 a2 a3
    have hup := up1 v6 hu a1
    rcases hb with e | e | ⟨e1, e2⟩
    · omega
    · exact absurd a2 e
    · obtain ⟨-, -, -, h7, h2, -⟩ := hv hup
      rcases a3 with q | q
      · exact absurd (by rw [h2, e1]; exact nI_0) q
      · exact absurd (by rw [rvw_eq h7]; exact rvw_0.mpr e2) q
  exact k_RS_commit_0 (fun _ => hq) (fun a b c => g a b (Or.inl c)) (fun a b _ c => g a b (Or.inr c)) (fun _ _ _ _ => hq) (fun _ _ => hq)
/-- a commit that isn't refused: the row is built -/
theorem c_commit_go (V : VC up num nx us kd rn pd pw h) (I : vi up num nx us kd pd) (hup : up = 1) (hj : h 6 2 = 0) (hne : ¬ (cnt kd 1 16 = 0 ∧ cnt kd 2 16 = 0)) (hq : ∀ h', fr (pc [4, 15, 16]) h h' → h' 4 2 = nI (rl1 kd + 1) → (∀ i, i < rl1 kd + 1 → ∀ w, w < 4 → h' 15 (4 * i + w) = rw4 kd rn num i w) → WP l E M_RS_commit 45 [(0, .inr 0)] [] h' Q) : MC l E M_RS_commit [.inr 0] h Q := by
  obtain ⟨v6, hv⟩ := id V
  obtain ⟨a8, a9, a10, h7, h2, h3, h11, h12, h13, h14⟩ := hv hup
  have u0 : ¬ h 0 6 = 0 := by rw [v6, hup]; decide +kernel
  have e7 := rvw_eq h7
  have hcl := cnt_le kd 1 16
  refine k_RS_commit_0 (fun c => absurd c u0) (fun _ _ _ => ?_) (fun _ _ _ _ => ?_) (fun _ _ c c2 => ?_) (fun _ c => absurd hj c)
  · rw [e7, a8]; exact s_build V I hup hq
  · rw [e7, a8]; exact s_build V I hup hq
  · rw [h2] at c
    rw [e7, rvw_0] at c2
    exact absurd ⟨n0 c (by omega), c2⟩ hne
theorem c_commit_full (V : VC up num nx us kd rn pd pw h) (I : vi up num nx us kd pd) (hup : up = 1) (hj : h 6 2 = 0) (hne : ¬ (cnt kd 1 16 = 0 ∧ cnt kd 2 16 = 0)) (hf : 23 < us + (rl1 kd + 1)) (hq : ∀ h', fr (pc [4, 15, 16]) h h' → Q (some (-2)) h') : MC l E M_RS_commit [.inr 0] h Q := by
  have a10 := (V.2 hup).2.2.1
  obtain ⟨hnx, hus, hnum, hkd, hpd, hm⟩ := I.2 hup
  have := rl1_le hm
  refine c_commit_go V I hup hj hne (fun h' f y1 _ => ?_)
  refine k_RS_commit_45 (fun c => ?_) (fun _ => hq h' f)
  rw [f 0 10 rfl, a10, y1, nI_add] at c
  have := nle c (by omega) (by omega)
  omega
theorem c_commit_yes (V : VC up num nx us kd rn pd pw h) (I : vi up num nx us kd pd) (hup : up = 1) (hj : h 6 2 = 0) (hne : ¬ (cnt kd 1 16 = 0 ∧ cnt kd 2 16 = 0)) (hf : us + (rl1 kd + 1) ≤ 23) (hq : ∀ h', fr pjob h h' → JR 2 0 (rl1 kd + 3) (pt2 kd nx) (pq2 kd rn num) h' → h' 4 2 = nI (rl1 kd + 1) → Q (some (nI (rl1 kd + 1))) h') : MC l E M_RS_commit [.inr 0] h Q := by
  have a9 := (V.2 hup).2.1
  have a10 := (V.2 hup).2.2.1
  obtain ⟨hnx, hus, hnum, hkd, hpd, hm⟩ := I.2 hup
  have hrl := rl1_le hm
  refine c_commit_go V I hup hj hne (fun h1 f1 y1 y2 => ?_)
  refine k_RS_commit_45 (fun _ => ?_) (fun c => ?_)
  · have f1j : fr pjob h h1 := f1.mono (fun k j q => by
      have q1 := (Bool.or_eq_false_iff.mp q).1
      unfold pc at q1 ⊢
      cases h1 : Nat.beq k 4 <;> cases h2 : Nat.beq k 15 <;> cases h3 : Nat.beq k 16 <;> simp_all)
    rw [y1, npred]
    generalize hh : hw (hw (hw h1 6 2 (nI 2)) 6 3 (nI 0)) 6 4 (nI 0) = h0
    have g0 : fr pjob h h0 := by rw [← hh]; exact ((f1j.hw rfl).hw rfl).hw rfl
    have g1 : fr (fun k j => Nat.beq k 6 && (Nat.beq j 2 || Nat.beq j 3 || Nat.beq j 4)) h1 h0 := by rw [← hh]; exact ((fr.rf.hw rfl).hw rfl).hw rfl
    have e2 : h0 6 2 = nI 2 := by rw [← hh, hwk, upi, if_neg (by decide), hwk, upi, if_neg (by decide), hwk, upi, if_pos rfl]
    have e3 : h0 6 3 = nI 0 := by rw [← hh, hwk, upi, if_neg (by decide), hwk, upi, if_pos rfl]
    have e4 : h0 6 4 = nI 0 := by rw [← hh, hwk, upi, if_pos rfl]
    -- a sector of the row is planned
    have planS : ∀ (i p : Nat) (h' : xh) (Q' : Option Int32 → xh → Prop), i < rl1 kd + 1 → p < 27 → fr pjw h0 h' → h' 6 3 = nI p → (∀ h2, fr pjw h' h2 → h2 6 3 = nI (p + 1) → h2 23 p = nI (17 + (nx + i) % 24) → (∀ k, k ≠ p → h2 23 k = h' 23 k) → (∀ w, w < 4 → h2 24 (4 * p + w) = rw4 kd rn num i w) → (∀ q, q < 4 * p ∨ 4 * p + 4 ≤ q → h2 24 q = h' 24 q) → Q' none h2) → MC l E M_RS_planRowSector [.inr 0, .inl (nI i)] h' Q' := by
      intro i p h' Q' hi hp f z3 k
      have ew : ∀ w, nI i * nI 4 + nI w = nI (4 * i + w) := fun w => by rw [pk_mul, nI_add, show i * 4 + w = 4 * i + w by omega]
      have i48 : ∀ w, w < 4 → vp_in (nI i * nI 4 + nI w) 48 := fun w hw4 => by rw [ew]; exact vp_in_nI (by omega) (by decide)
      have ec : ∀ w, w < 4 → (nI i * nI 4 + nI w).toNatClampNeg = 4 * i + w := fun w hw4 => by rw [ew]; exact nI_clamp (by omega)
      have z15 : ∀ w, w < 4 → h' 15 (4 * i + w) = rw4 kd rn num i w := fun w hw4 => by rw [f 15 _ rfl, g1 15 _ rfl]; exact y2 i hi w hw4
      have z9 : h' 0 9 = nI nx := by rw [f 0 9 rfl, g1 0 9 rfl, f1 0 9 rfl]; exact a9
      refine k_RS_planRowSector_0 (i48 0 (by omega)) (i48 1 (by omega)) (i48 2 (by omega)) (i48 3 (by omega)) ?_
      rw [z9, nI_add, nrem (by omega), nI_add, ec 0 (by omega), ec 1 (by omega), ec 2 (by omega), ec 3 (by omega), z15 0 (by omega), z15 1 (by omega), z15 2 (by omega), z15 3 (by omega)]
      refine s_addWrite z3 hp (fun h2 f2 b1 b2 b3 b4 b5 b6 b7 b8 => ?_)
      refine k_RS_planRowSector_52 (k h2 f2 b1 b2 b3 (fun w hw4 => ?_) b8)
      rcases (show w = 0 ∨ w = 1 ∨ w = 2 ∨ w = 3 by omega) with rfl | rfl | rfl | rfl
      · exact b4
      · exact b5
      · exact b6
      · exact b7
    have key : ∀ (j i : Nat) (h' : xh), i + j = rl1 kd → fr pjw h0 h' → h' 6 3 = nI i → pl i (pt2 kd nx) (pq2 kd rn num) (h' 23) (h' 24) → WP l E M_RS_commit 85 [(0, .inr 0), (1, .inl (nI (rl1 kd))), (2, .inl (nI i))] [] h' Q := by
      intro j
      induction j with
      | zero =>
        intro i h' hi f x1 x2
        have ei : i = rl1 kd := by omega
        subst ei
        have c0 : nI (rl1 kd) ≤ nI (rl1 kd) := nI_le (Nat.le_refl _) (by omega)
        refine k_RS_commit_85 (fun _ => ?_) (fun c => absurd c0 c)
        refine s_addFlush x1 (by omega) (fun h2 f2 b1 b2 b3 => ?_)
        have f2' : fr pjw h' h2 := f2.mono (fun k j q => by
          unfold pjw at q
          have q1 := Bool.or_eq_false_iff.mp q
          rw [Bool.or_eq_false_iff]
          refine ⟨?_, q1.2⟩
          have := q1.1
          unfold pc at this ⊢
          cases hk2 : Nat.beq k 23 <;> simp_all)
        refine k_RS_commit_108 ?_
        refine planS (rl1 kd) (rl1 kd + 1) h2 _ (by omega) (by omega) (f.tr f2') b1 (fun h3 f3 d1 d2 d3 d4 d5 => ?_)
        refine k_RS_commit_113 ?_
        refine s_addFlush d1 (by omega) (fun h4 f4 c1 c2 c3 => ?_)
        have f4' : fr pjw h3 h4 := f4.mono (fun k j q => by
          unfold pjw at q
          have q1 := Bool.or_eq_false_iff.mp q
          rw [Bool.or_eq_false_iff]
          refine ⟨?_, q1.2⟩
          have := q1.1
          unfold pc at this ⊢
          cases hk2 : Nat.beq k 23 <;> simp_all)
        refine k_RS_commit_120 ?_
        have ft : fr pjw h0 h4 := ((f.tr f2').tr f3).tr f4'
        have z42 : h4 4 2 = nI (rl1 kd + 1) := by rw [ft 4 2 rfl, g1 4 2 rfl]; exact y1
        rw [z42]
        have e24 : h4 24 = h3 24 := f4.cell 24 (fun _ => rfl)
        have e24' : h2 24 = h' 24 := f2.cell 24 (fun _ => rfl)
        refine hq h4 (g0.tr (pjw_in ft)) ⟨by rw [ft 6 2 rfl]; exact e2, c1, by rw [ft 6 4 rfl]; exact e4, by omega, by omega, by omega, ?_⟩ z42
        refine plan_end x2 (fun k _ _ _ => pt2_lt) ?_ c2 ?_ (fun w hw4 => ?_) (fun k hk => ?_) (fun q hq => ?_)
        · rw [c3 _ (by omega), d3 _ (by omega)]; exact b2
        · rw [c3 _ (by omega), d2]; unfold pt2; rw [if_pos rfl]
        · rw [e24, d4 w hw4]
          unfold pq2
          rw [show (4 * (rl1 kd + 1) + w) / 4 = rl1 kd + 1 by omega, show (4 * (rl1 kd + 1) + w) % 4 = w by omega, if_pos rfl]
        · rw [c3 _ (by omega), d3 _ (by omega), b3 _ (by omega)]
        · rw [e24, d5 _ (by omega), e24']
      | succ j ih =>
        intro i h' hi f x1 x2
        have c0 : ¬ nI (rl1 kd) ≤ nI i := nI_ge (by omega) (by omega)
        refine k_RS_commit_85 (fun c => absurd c c0) (fun _ => ?_)
        refine planS i i h' _ (by omega) (by omega) f x1 (fun h3 f3 d1 d2 d3 d4 d5 => ?_)
        refine k_RS_commit_95 ?_
        rw [nI_add]
        refine ih (i + 1) h3 (by omega) (f.tr f3) d1 (fun k hk => ?_)
        by_cases ek : k = i
        · subst ek
          refine ⟨?_, fun w hw4 => ?_⟩
          · rw [d2]; unfold pt2; rw [if_neg (by omega)]
          · rw [d4 w hw4]
            unfold pq2
            rw [show (4 * k + w) / 4 = k by omega, show (4 * k + w) % 4 = w by omega, if_neg (by omega)]
        · have := x2 k (by omega)
          refine ⟨by rw [d3 k ek]; exact this.1, fun w hw4 => ?_⟩
          rw [d5 _ (by omega)]
          exact this.2 w hw4
    exact key (rl1 kd) 0 h0 (by omega) fr.rf e3 (fun k hk => absurd hk (Nat.not_lt_zero _))
  · rw [f1 0 10 rfl, a10, y1, nI_add] at c
    exact absurd (nI_le hf (by decide)) c
/-! the reference -/
theorem m_imageBlock {k : Nat} (h28 : ∀ b, b < 16 → h 28 b = nI (kd b)) (hkd : ∀ b, b < 16 → kd b ≤ 2) (hk : k < cnt kd 1 16) (hq : Q (some (nI (nb kd 1 k 16))) h) : MC l E M_MD_imageBlock [.inr 7, .inl (nI k)] h Q := by
  refine k_MD_imageBlock_0 ?_
  have hcl := cnt_le kd 1 16
  have key : ∀ (j i : Nat) (x3 : Int32), i + j = 16 → (k < cnt kd 1 i → x3 = nI (nb kd 1 k 16)) → WP l E M_MD_imageBlock 7 [(0, .inr 7), (1, .inl (nI k)), (2, .inl (nI (cnt kd 1 i))), (3, .inl x3), (4, .inl (nI i))] [] h Q := by
    intro j
    induction j with
    | zero =>
      intro i x3 hi x
      have ei : i = 16 := by omega
      subst ei
      have c0 : nI 16 ≤ nI 16 := nI_le (Nat.le_refl 16) (by decide)
      exact k_MD_imageBlock_7 (fun _ => by rw [x hk]; exact hq) (fun c => absurd c0 c) (fun c => absurd c0 c) (fun c => absurd c0 c) (fun c => absurd c0 c)
    | succ j ih =>
      intro i x3 hi x
      have hi16 : i < 16 := by omega
      have c0 : ¬ nI 16 ≤ nI i := nI_ge hi16 (by decide)
      have z28 : h 28 ((nI i).toNatClampNeg) = nI (kd i) := by rw [nI_clamp (by omega)]; exact h28 i hi16
      have hki := hkd i hi16
      have hci := cnt_le kd 1 i
      refine k_MD_imageBlock_7 (fun c => absurd c c0) (fun _ => vp_in_nI hi16 (by decide)) (fun _ c => ?_) (fun _ c c2 => ?_) (fun _ c c2 => ?_)
      all_goals rw [z28] at c
      · have c : ¬ kd i = 1 := fun z => c (by rw [z])
        rw [nI_add]
        have := ih (i + 1) x3 (by omega)
        rw [cnt_ns c] at this
        exact this x
      · have c := neq c (by omega) (by omega)
        have c2 : cnt kd 1 i ≠ k := fun z => c2 (by rw [z])
        rw [nI_add, nI_add]
        have := ih (i + 1) x3 (by omega)
        rw [cnt_s c] at this
        exact this (fun q => x (by omega))
      · have c := neq c (by omega) (by omega)
        have c2 := neq c2 (by omega) (by omega)
        rw [nI_add, nI_add]
        have := ih (i + 1) (nI i) (by omega)
        rw [cnt_s c] at this
        refine this (fun _ => ?_)
        rw [← c2, nb_at c 16 hi16]
  exact key 16 0 (nI 0) (by omega) (fun q => absurd q (Nat.not_lt_zero _))
theorem m_groupWord {g : Nat} (h28 : ∀ b, b < 16 → h 28 b = nI (kd b)) (hkd : ∀ b, b < 16 → kd b ≤ 2) (h29 : ∀ b, b < 16 → kd b = 1 → ∀ w, w < 4 → h 29 (4 * b + w) = rn (4 * b + w)) (hg : 4 * g < cnt kd 1 16) (hq : Q (some (gwd kd rn g (gc (cnt kd 1 16) g) (gc (cnt kd 1 16) g))) h) : MC l E M_MD_groupWord [.inr 7, .inl (nI g), .inl (nI (cnt kd 1 16))] h Q := by
  have hcl := cnt_le kd 1 16
  have hgc : gc (cnt kd 1 16) g ≤ 4 ∧ 4 * g + gc (cnt kd 1 16) g ≤ cnt kd 1 16 := by unfold gc; split <;> omega
  have key : ∀ (j i : Nat), i + j = gc (cnt kd 1 16) g → WP l E M_MD_groupWord 25 [(0, .inr 7), (1, .inl (nI g)), (2, .inl (nI (cnt kd 1 16))), (3, .inl (nI (gc (cnt kd 1 16) g))), (4, .inl (gwd kd rn g (gc (cnt kd 1 16) g) i)), (5, .inl (nI i))] [] h Q := by
    intro j
    induction j with
    | zero =>
      intro i hi
      have ei : i = gc (cnt kd 1 16) g := by omega
      rw [ei]
      have c0 : nI (gc (cnt kd 1 16) g) ≤ nI (gc (cnt kd 1 16) g) := nI_le (Nat.le_refl _) (by omega)
      exact k_MD_groupWord_25 (fun _ => hq) (fun c => absurd c0 c)
    | succ j ih =>
      intro i hi
      have c0 : ¬ nI (gc (cnt kd 1 16) g) ≤ nI i := nI_ge (by omega) (by omega)
      refine k_MD_groupWord_25 (fun c => absurd c c0) (fun _ => ?_)
      rw [pk_mul, nI_add]
      refine m_imageBlock h28 hkd (by omega) ?_
      obtain ⟨n1, n2, -⟩ := nb_ok (f := kd) (v := 1) (k := 4 * g + i) 16 (by omega)
      have z29 : h 29 ((nI 4 * nI (nb kd 1 (4 * g + i) 16)).toNatClampNeg) = rn (4 * nb kd 1 (4 * g + i) 16) := by
        rw [pk_mul, nI_clamp (by omega)]
        exact h29 _ n1 n2 0 (by omega)
      have esh : nI 3 + nI 5 * nI i = nI (3 + 5 * i) := by rw [pk_mul, nI_add]
      have := ih (i + 1) (by omega)
      unfold gwd at this
      unfold fv at this
      refine k_MD_groupWord_41 (by rw [pk_mul]; exact vp_in_nI (by omega) (by decide)) (fun c => ?_) (fun c => ?_)
      all_goals rw [z29] at c
      · rw [if_neg c] at this
        rw [esh, nI_add]
        exact this
      · rw [if_pos c] at this
        rw [esh, nI_add, nI_add]
        exact this
  have e1 : nI (cnt kd 1 16) - nI 4 * nI g = nI (cnt kd 1 16 - 4 * g) := by rw [pk_mul, nsub (by omega)]
  refine k_MD_groupWord_0 (fun c => ?_) (fun c => ?_)
  · rw [e1] at c
    have c := nle c (by omega) (by omega)
    have eg : gc (cnt kd 1 16) g = 4 := by unfold gc; rw [if_neg (by omega)]
    have := key (gc (cnt kd 1 16) g) 0 (by omega)
    rw [eg] at this
    exact this
  · rw [e1] at c
    have c := nnle c (by omega)
    have eg : gc (cnt kd 1 16) g = cnt kd 1 16 - 4 * g := by unfold gc; rw [if_pos (by omega)]
    rw [e1]
    have := key (gc (cnt kd 1 16) g) 0 (by omega)
    rw [eg] at this
    exact this
theorem m_revocationWord (h28 : ∀ b, b < 16 → h 28 b = nI (kd b)) (hkd : ∀ b, b < 16 → kd b ≤ 2) (hq : Q (some (rvw kd 16)) h) : MC l E M_MD_revocationWord [.inr 7] h Q := by
  refine k_MD_revocationWord_0 ?_
  have key : ∀ (j i : Nat), i + j = 16 → WP l E M_MD_revocationWord 4 [(0, .inr 7), (1, .inl (rvw kd i)), (2, .inl (nI i))] [] h Q := by
    intro j
    induction j with
    | zero =>
      intro i hi
      have ei : i = 16 := by omega
      subst ei
      have c0 : nI 16 ≤ nI 16 := nI_le (Nat.le_refl 16) (by decide)
      exact k_MD_revocationWord_4 (fun _ => hq) (fun c => absurd c0 c) (fun c => absurd c0 c) (fun c => absurd c0 c)
    | succ j ih =>
      intro i hi
      have hi16 : i < 16 := by omega
      have c0 : ¬ nI 16 ≤ nI i := nI_ge hi16 (by decide)
      have z28 : h 28 ((nI i).toNatClampNeg) = nI (kd i) := by rw [nI_clamp (by omega)]; exact h28 i hi16
      have hki := hkd i hi16
      have := ih (i + 1) (by omega)
      unfold rvw at this
      refine k_MD_revocationWord_4 (fun c => absurd c c0) (fun _ => vp_in_nI hi16 (by decide)) (fun _ c => ?_) (fun _ c => ?_)
      all_goals rw [z28] at c
      · rw [if_neg (fun z => c (by rw [z]))] at this
        rw [nI_add]; exact this
      · rw [if_pos (neq c (by omega) (by omega))] at this
        rw [nI_add]; exact this
  exact key 16 0 (by omega)
theorem ndiv {a d : Nat} (ha : a < 2 ^ 31) (h0 : 0 < d) (hd : d < 2 ^ 31) : nI a / nI d = nI (a / d) := pk_div ha h0 hd
theorem nrem5 {a : Nat} (ha : a < 2 ^ 31) : irem (nI a) (nI 5) = nI (a % 5) := pk_rem ha (by decide) (by decide)
theorem m_body {k : Nat} (V : VM up num nx us kd rn pd pw h) (I : vi up num nx us kd pd) (hup : up = 1) (hk : k < rl1 kd) (hq : ∀ h', fr (pm [32] []) h h' → (∀ w, w < 4 → h' 32 w = bod kd rn num k w) → Q none h') : MC l E M_MD_body [.inr 7, .inl (nI k)] h Q := by
  obtain ⟨v4, hv⟩ := id V
  obtain ⟨a5, a6, a7, h28, h29, h30, h31⟩ := hv hup
  obtain ⟨hnx, hus, hnum, hkd, hpd, hm⟩ := I.2 hup
  have hrl := rl1_le hm
  refine k_MD_body_0 ?_
  refine m_countOf (v := 1) h28 hkd (by omega) ?_
  have egl : nI (cnt kd 1 16) + (nI (cnt kd 1 16) + nI 3) / nI 4 = nI (gl kd) := by rw [nI_add, ndiv (by omega) (by decide) (by decide), nI_add]; rfl
  have hgl : gl kd ≤ 10 := by unfold gl; omega
  have words : ∀ (h1 : xh) (a b c d : Int32), h1 32 0 = a → h1 32 1 = b → h1 32 2 = c → h1 32 3 = d → ∀ w, w < 4 → h1 32 w = w4 a b c d w := by
    intro h1 a b c d e0 e1 e2 e3 w hw4
    rcases (show w = 0 ∨ w = 1 ∨ w = 2 ∨ w = 3 by omega) with rfl | rfl | rfl | rfl
    · exact e0
    · exact e1
    · exact e2
    · exact e3
  refine k_MD_body_5 (fun c c2 => ?_) (fun c c2 => ?_) (fun c => ?_)
  all_goals rw [egl] at c
  · -- an image
    have c := nlt c (by omega) (by omega)
    rw [nrem5 (by omega)] at c2
    have c2 : k % 5 ≠ 0 := fun z => c2 (by rw [z]; exact nI_0)
    have hidx : k / 5 * 4 + k % 5 - 1 < cnt kd 1 16 := by unfold gl at c; omega
    rw [ndiv (by omega) (by decide) (by decide), nrem5 (by omega), pk_mul, nI_add, nsub (by omega)]
    refine m_imageBlock h28 hkd hidx ?_
    obtain ⟨n1, n2, -⟩ := nb_ok (f := kd) (v := 1) (k := k / 5 * 4 + k % 5 - 1) 16 hidx
    have ebod : ∀ w, bod kd rn num k w = imw rn (nb kd 1 (k / 5 * 4 + k % 5 - 1) 16) w := fun w => by unfold bod; rw [if_pos c, if_neg c2]
    generalize hB : nb kd 1 (k / 5 * 4 + k % 5 - 1) 16 = B at n1 n2 ebod
    have e4 : nI 4 * nI B = nI (4 * B) := pk_mul 4 B
    have ew : ∀ w, nI 4 * nI B + nI w = nI (4 * B + w) := fun w => by rw [e4, nI_add]
    have i64 : ∀ w, w < 4 → vp_in (nI 4 * nI B + nI w) 64 := fun w hw4 => by rw [ew]; exact vp_in_nI (by omega) (by decide)
    have z29 : ∀ w, w < 4 → h 29 ((nI 4 * nI B + nI w).toNatClampNeg) = rn (4 * B + w) := fun w hw4 => by rw [ew, nI_clamp (by omega)]; exact h29 B n1 n2 w hw4
    have z290 : h 29 ((nI 4 * nI B).toNatClampNeg) = rn (4 * B) := by rw [e4, nI_clamp (by omega)]; exact h29 B n1 n2 0 (by omega)
    refine k_MD_body_78 (by rw [e4]; exact vp_in_nI (by omega) (by decide)) (i64 1 (by omega)) (i64 2 (by omega)) (i64 3 (by omega)) ?_
    rw [z290, z29 1 (by omega), z29 2 (by omega), z29 3 (by omega)]
    refine m_say (fun h1 f1 b0 b1 b2 b3 => ?_)
    have ez : (nI 0).toNatClampNeg = 0 := nI_clamp (by decide)
    have fin : ∀ v : Int32, v = imw rn B 0 → Q none (hw h1 32 0 v) := by
      intro v ev
      refine hq _ (f1.hw rfl) (fun w hw4 => ?_)
      rw [ebod w, hwk, upi]
      rcases (show w = 0 ∨ w = 1 ∨ w = 2 ∨ w = 3 by omega) with rfl | rfl | rfl | rfl
      · rw [if_pos rfl]; exact ev
      · rw [if_neg (by decide), b1]; rfl
      · rw [if_neg (by decide), b2]; rfl
      · rw [if_neg (by decide), b3]; rfl
    refine k_MD_body_121 (fun d => ?_) (fun d => ?_)
    all_goals rw [ez] at *
    all_goals rw [b0] at *
    · refine fin _ ?_
      unfold imw
      rw [if_pos rfl, if_neg d]
    · refine fin _ ?_
      unfold imw
      rw [if_pos rfl, if_pos d]
  · -- a group's head
    have c := nlt c (by omega) (by omega)
    rw [nrem5 (by omega)] at c2
    have c2 : k % 5 = 0 := n0 c2 (by omega)
    rw [ndiv (by omega) (by decide) (by decide), a5]
    refine m_groupWord h28 hkd h29 (by unfold gl at c; omega) ?_
    refine k_MD_body_57 ?_
    refine m_say (fun h1 f1 b0 b1 b2 b3 => ?_)
    refine k_MD_body_60 (hq h1 f1 (fun w hw4 => ?_))
    unfold bod
    rw [if_pos c, if_pos c2]
    exact words h1 _ _ _ _ b0 b1 b2 b3 w hw4
  · -- the revocations
    have c := nnlt c (by omega)
    rw [a5]
    refine m_revocationWord h28 hkd ?_
    refine k_MD_body_29 ?_
    refine m_say (fun h1 f1 b0 b1 b2 b3 => ?_)
    refine k_MD_body_32 (hq h1 f1 (fun w hw4 => ?_))
    unfold bod
    rw [if_neg (by omega)]
    exact words h1 _ _ _ _ b0 b1 b2 b3 w hw4
theorem m_sum {n : Nat} (V : VM up num nx us kd rn pd pw h) (I : vi up num nx us kd pd) (hup : up = 1) (hn : n ≤ rl1 kd) (hq : ∀ h', fr (pm [32] []) h h' → Q (some (hs kd rn num n)) h') : MC l E M_MD_sum [.inr 7, .inl (nI n)] h Q := by
  have hrl := rl1_le (I.2 hup).2.2.2.2.2
  refine k_MD_sum_0 ?_
  rw [(V.2 hup).1]
  have key : ∀ (j i : Nat) (h' : xh), i + j = n → fr (pm [32] []) h h' → WP l E M_MD_sum 7 [(0, .inr 7), (1, .inl (nI n)), (2, .inl (hs kd rn num i)), (3, .inl (nI i))] [] h' Q := by
    intro j
    induction j with
    | zero =>
      intro i h' hi f
      have ei : i = n := by omega
      subst ei
      have c0 : nI i ≤ nI i := nI_le (Nat.le_refl i) (by omega)
      exact k_MD_sum_7 (fun _ => hq h' f) (fun c => absurd c0 c)
    | succ j ih =>
      intro i h' hi f
      have c0 : ¬ nI n ≤ nI i := nI_ge (by omega) (by omega)
      refine k_MD_sum_7 (fun c => absurd c c0) (fun _ => ?_)
      refine m_body (VM.fr V f rfl rfl rfl rfl (fun _ => rfl) (fun _ => rfl) (fun _ => rfl) (fun _ => rfl)) I hup (by omega) (fun h1 f1 y => ?_)
      refine k_MD_sum_17 ?_
      have st : ∀ (w : Nat) (s : Int32), w < 4 → WP l E M_MD_sum 20 [(0, .inr 7), (1, .inl (nI n)), (2, .inl (mx s (bod kd rn num i w))), (3, .inl (nI i)), (4, .inl (nI (w + 1)))] [] h1 Q → WP l E M_MD_sum 20 [(0, .inr 7), (1, .inl (nI n)), (2, .inl s), (3, .inl (nI i)), (4, .inl (nI w))] [] h1 Q := by
        intro w s hw4 k
        have c4 : ¬ nI 4 ≤ nI w := nI_ge hw4 (by decide)
        refine k_MD_sum_20 (fun c => absurd c c4) (fun _ => vp_in_nI hw4 (by decide)) (fun _ => ?_)
        rw [nI_clamp (by omega), y w hw4, nI_add]
        exact k
      refine st 0 _ (by omega) (st 1 _ (by omega) (st 2 _ (by omega) (st 3 _ (by omega) ?_)))
      have c4 : nI 4 ≤ nI 4 := nI_le (Nat.le_refl 4) (by decide)
      refine k_MD_sum_20 (fun _ => ?_) (fun c => absurd c4 c) (fun c => absurd c4 c)
      rw [nI_add]
      exact ih (i + 1) h1 (by omega) (f.tr f1)
  exact key n 0 h (by omega) fr.rf
theorem m_rowLength (h28 : ∀ b, b < 16 → h 28 b = nI (kd b)) (hkd : ∀ b, b < 16 → kd b ≤ 2) (hm : cnt kd 1 16 ≤ 8) (hq : Q (some (nI (rl1 kd + 1))) h) : MC l E M_MD_rowLength [.inr 7] h Q := by
  have hc2 := cnt_le kd 2 16
  refine k_MD_rowLength_0 ?_
  refine m_countOf (v := 1) h28 hkd (by omega) ?_
  refine k_MD_rowLength_5 ?_
  refine m_countOf (v := 2) h28 hkd (by omega) ?_
  have egl : nI (cnt kd 1 16) + (nI (cnt kd 1 16) + nI 3) / nI 4 = nI (gl kd) := by rw [nI_add, ndiv (by omega) (by decide) (by decide), nI_add]; rfl
  rw [egl]
  refine k_MD_rowLength_18 (fun c => ?_) (fun c => ?_)
  · have c : cnt kd 2 16 = 0 := by
      rcases Nat.eq_zero_or_pos (cnt kd 2 16) with q | q
      · exact q
      · exact absurd c (nI_nle q (by omega))
    rw [nI_add, nI_add]
    have : rl1 kd = gl kd + 0 := by unfold rl1; rw [if_neg (by omega)]
    rw [← this]; exact hq
  · have c : 0 < cnt kd 2 16 := by
      rcases Nat.eq_zero_or_pos (cnt kd 2 16) with q | q
      · exact absurd (by rw [q]; decide +kernel) c
      · exact q
    rw [nI_add, nI_add]
    have : rl1 kd = gl kd + 1 := by unfold rl1; rw [if_pos c]
    rw [← this]; exact hq
theorem cnt_all {f : Nat → Nat} : ∀ n, (∀ b, b < n → f b ≤ 2) → cnt f 0 n + cnt f 1 n + cnt f 2 n = n
  | 0, _ => rfl
  | n + 1, h => by
    have ih := cnt_all n (fun b hb => h b (by omega))
    have hn := h n (by omega)
    unfold cnt
    rcases (show f n = 0 ∨ f n = 1 ∨ f n = 2 by omega) with e | e | e
    · rw [if_pos e, if_neg (by omega), if_neg (by omega)]; omega
    · rw [if_neg (by omega), if_pos e, if_neg (by omega)]; omega
    · rw [if_neg (by omega), if_neg (by omega), if_pos e]; omega
theorem m_commit_no (V : VM up num nx us kd rn pd pw h) (I : vi up num nx us kd pd) (hb : up = 0 ∨ ¬ h 7 12 = 0 ∨ (cnt kd 1 16 = 0 ∧ cnt kd 2 16 = 0)) (hq : Q (some (-1)) h) : MC l E M_MD_commit [.inr 7] h Q := by
  refine k_MD_commit_0 (fun _ => hq) (fun _ _ => hq) (fun a1 a2 => ?_)
  have hup := up1 V.1 I.1 a1
  have hkd := (I.2 hup).2.2.2.1
  rcases hb with e | e | ⟨e1, e2⟩
  · omega
  · exact absurd a2 e
  · have h28 := (V.2 hup).2.2.2.1
    refine m_countOf (v := 0) h28 hkd (by omega) ?_
    have := cnt_all 16 hkd
    exact k_MD_commit_12 (fun c => absurd (by congr 1; omega) c) (fun _ => hq)
theorem m_commit_go (V : VM up num nx us kd rn pd pw h) (I : vi up num nx us kd pd) (hup : up = 1) (hj : h 7 12 = 0) (hne : ¬ (cnt kd 1 16 = 0 ∧ cnt kd 2 16 = 0)) (hq : WP l E M_MD_commit 23 [(0, .inr 7)] [.inl (nI (rl1 kd + 1))] h Q) : MC l E M_MD_commit [.inr 7] h Q := by
  have u0 : ¬ h 7 4 = 0 := by rw [V.1, hup]; decide +kernel
  obtain ⟨hnx, hus, hnum, hkd, hpd, hm⟩ := I.2 hup
  have h28 := (V.2 hup).2.2.2.1
  refine k_MD_commit_0 (fun c => absurd c u0) (fun _ c => absurd hj c) (fun _ _ => ?_)
  refine m_countOf (v := 0) h28 hkd (by omega) ?_
  have := cnt_all 16 hkd
  have hc0 := cnt_le kd 0 16
  refine k_MD_commit_12 (fun _ => ?_) (fun c => ?_)
  · exact m_rowLength h28 hkd hm hq
  · have := neq c (by omega) (by omega)
    exact absurd ⟨by omega, by omega⟩ hne
theorem m_commit_full (V : VM up num nx us kd rn pd pw h) (I : vi up num nx us kd pd) (hup : up = 1) (hj : h 7 12 = 0) (hne : ¬ (cnt kd 1 16 = 0 ∧ cnt kd 2 16 = 0)) (hf : 23 < us + (rl1 kd + 1)) (hq : Q (some (-2)) h) : MC l E M_MD_commit [.inr 7] h Q := by
  have hrl := rl1_le (I.2 hup).2.2.2.2.2
  have hus := (I.2 hup).2.1
  refine m_commit_go V I hup hj hne (k_MD_commit_23 (fun c => ?_) (fun _ => hq))
  rw [(V.2 hup).2.2.1, nI_add] at c
  have := nle c (by omega) (by omega)
  omega
theorem m_commit_yes (V : VM up num nx us kd rn pd pw h) (I : vi up num nx us kd pd) (hup : up = 1) (hj : h 7 12 = 0) (hne : ¬ (cnt kd 1 16 = 0 ∧ cnt kd 2 16 = 0)) (hf : us + (rl1 kd + 1) ≤ 23) (hq : ∀ h', fr (pm [] [12, 13, 14]) h h' → JM 2 0 (rl1 kd + 3) h' → Q (some (nI (rl1 kd + 1))) h') : MC l E M_MD_commit [.inr 7] h Q := by
  refine m_commit_go V I hup hj hne (k_MD_commit_23 (fun _ => ?_) (fun c => ?_))
  · rw [nI_add]
    refine hq _ (((fr.rf.hw rfl).hw rfl).hw rfl) ⟨?_, ?_, ?_⟩
    · rw [hwk, upi, if_neg (by decide), hwk, upi, if_neg (by decide), hwk, upi, if_pos rfl]
    · rw [hwk, upi, if_neg (by decide), hwk, upi, if_pos rfl]
    · rw [hwk, upi, if_pos rfl]
  · rw [(V.2 hup).2.2.1, nI_add] at c
    exact absurd (nI_le hf (by decide)) c
theorem m_act2 {k : Nat} {σ : xD} (I : vi up num nx us kd pd) (hup : up = 1) (hk : k < rl1 kd + 3) (hb : bnd 12 (rl1 kd + 3) k σ) (J : JM 2 k (rl1 kd + 3) h) (D : DMt σ h) (V : VM up num nx us kd rn pd pw h) (hq : ∀ h2, fr pact h h2 → DMt (ac (rl1 kd + 3) (pt2 kd nx) (pq2 kd rn num) k σ) h2 → Q none h2) : MC l E M_MD_commitAction [.inr 7, .inl (nI k)] h Q := by
  obtain ⟨v4, hv⟩ := id V
  obtain ⟨a5, a6, a7, h28, h29, h30, h31⟩ := hv hup
  obtain ⟨hnx, hus, hnum, hkd, hpd, hm⟩ := I.2 hup
  have hrl := rl1_le hm
  have e14 : h 7 14 - nI 2 = nI (rl1 kd + 1) := by rw [J.2.2, nsub (by omega)]; congr 1
  refine k_MD_commitAction_0 (fun c c2 => ?_) (fun c c2 => ?_) (fun c => ?_)
  all_goals rw [e14, npred] at c
  · have c := nle c (by omega) (by omega)
    rw [e14] at c2
    have c2 : k ≠ rl1 kd + 1 := fun z => c2 (by rw [z])
    refine m_flush D (fun h2 f D2 => ?_)
    refine k_MD_commitAction_88 (hq h2 (f.upm rfl rfl) ?_)
    unfold ac
    rw [if_pos (by omega)]
    exact D2
  · rw [e14] at c2
    have c2 := neq c2 (by omega) (by omega)
    rw [e14, npred]
    refine m_sum V I hup (Nat.le_refl _) (fun h1 f1 => ?_)
    refine k_MD_commitAction_50 ?_
    rw [f1 7 5 rfl, a5]
    refine m_say (fun h2 f2 b0 b1 b2 b3 => ?_)
    refine k_MD_commitAction_63 ?_
    have ft : fr (pm [32] []) h h2 := f1.tr f2
    rw [ft 7 6 rfl, a6, nI_add, nsub (by omega), nrem (by omega), nI_add]
    have hn0 : σ.2.1 = 0 := hb.2.2.1 (by omega)
    refine m_writeOut (DM.fr D ft rfl (fun _ => rfl) (fun _ => rfl) (fun _ => rfl)) (by omega) (by omega) (fun h3 f3 D3 => ?_)
    refine k_MD_commitAction_81 (hq h3 ((ft.upm rfl rfl).tr (f3.upm rfl rfl)) ?_)
    unfold ac
    rw [if_neg (by omega)]
    obtain ⟨g1, g2, g3, g4, g5⟩ := D3
    have ept : pt2 kd nx k = 17 + (nx + (rl1 kd + 1) - 1) % 24 := by unfold pt2; rw [if_pos c2, show nx + (rl1 kd + 1) - 1 = nx + rl1 kd by omega]
    show dv (h3 7 1) (h3 25) (h3 26) (h3 27) σ.1 (σ.2.1 + 1) (esw σ.2.2.1 σ.2.1 (pt2 kd nx k)) (eww σ.2.2.2 σ.2.1 (fun j => pq2 kd rn num (4 * k + j)))
    rw [ept]
    refine ⟨g1, g2, g3, g4, fun i hi => ?_⟩
    rw [g5 i hi]
    unfold eww
    by_cases c3 : 4 * σ.2.1 ≤ i
    · rw [if_pos c3, if_pos c3]
      generalize hw' : i - 4 * σ.2.1 = w
      have hw4 : w < 4 := by omega
      show h2 32 w = pq2 kd rn num (4 * k + w)
      unfold pq2
      rw [show (4 * k + w) / 4 = rl1 kd + 1 by omega, show (4 * k + w) % 4 = w by omega, if_pos rfl]
      unfold rw4
      rw [if_pos rfl]
      rcases (show w = 0 ∨ w = 1 ∨ w = 2 ∨ w = 3 by omega) with rfl | rfl | rfl | rfl
      · exact b0
      · exact b1
      · exact b2
      · exact b3
    · rw [if_neg c3, if_neg c3]
  · have c := nnle c (by omega)
    refine m_body V I hup c (fun h1 f1 y => ?_)
    refine k_MD_commitAction_19 ?_
    rw [f1 7 6 rfl, a6, nI_add, nrem (by omega), nI_add]
    have hnn : σ.2.1 ≤ 12 + k := hb.1 (by omega)
    refine m_writeOut (DM.fr D f1 rfl (fun _ => rfl) (fun _ => rfl) (fun _ => rfl)) (by omega) (by omega) (fun h3 f3 D3 => ?_)
    refine k_MD_commitAction_35 (hq h3 ((f1.upm rfl rfl).tr (f3.upm rfl rfl)) ?_)
    unfold ac
    rw [if_neg (by omega)]
    obtain ⟨g1, g2, g3, g4, g5⟩ := D3
    have ept : pt2 kd nx k = 17 + (nx + k) % 24 := by unfold pt2; rw [if_neg (by omega)]
    show dv (h3 7 1) (h3 25) (h3 26) (h3 27) σ.1 (σ.2.1 + 1) (esw σ.2.2.1 σ.2.1 (pt2 kd nx k)) (eww σ.2.2.2 σ.2.1 (fun j => pq2 kd rn num (4 * k + j)))
    rw [ept]
    refine ⟨g1, g2, g3, g4, fun i hi => ?_⟩
    rw [g5 i hi]
    unfold eww
    by_cases c3 : 4 * σ.2.1 ≤ i
    · rw [if_pos c3, if_pos c3]
      generalize hw' : i - 4 * σ.2.1 = w
      have hw4 : w < 4 := by omega
      show h1 32 w = pq2 kd rn num (4 * k + w)
      unfold pq2
      rw [show (4 * k + w) / 4 = k by omega, show (4 * k + w) % 4 = w by omega, if_neg (by omega)]
      unfold rw4
      rw [if_neg (by omega)]
      exact y w hw4
    · rw [if_neg c3, if_neg c3]
end COMC
