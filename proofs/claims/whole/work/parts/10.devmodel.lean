/-! THE DEVICE of the reference -/
section DEVM
variable {l : Launch} {E : xE} {d : Nat → Int32} {n : Nat} {es : Nat → Nat} {ew : Nat → Int32} {h : xh} {Q : Option Int32 → xh → Prop}
theorem m_read {s w : Nat} (D : DM d n es ew h) (hs : s < 41) (hw4 : w < 4) (hq : Q (some (vw d es ew s w n)) h) : MC l E M_MD_read [.inr 7, .inl (nI s), .inl (nI w)] h Q := by
  obtain ⟨hn, hn28, hd, hes, hew⟩ := D
  have key : ∀ (j i : Nat), i + j = n → WP l E M_MD_read 35 [(0, .inr 7), (1, .inl (nI s)), (2, .inl (nI w)), (3, .inl (vw d es ew s w i)), (4, .inl (nI i))] [] h Q := by
    intro j
    induction j with
    | zero =>
      intro i hi
      have ei : i = n := by omega
      subst ei
      have c0 : h 7 1 ≤ nI i := by rw [hn]; exact nI_le (Nat.le_refl i) (by omega)
      exact k_MD_read_35 (fun _ => hq) (fun c => absurd c0 c) (fun c => absurd c0 c) (fun c => absurd c0 c) (fun c => absurd c0 c)
    | succ j ih =>
      intro i hi
      have c0 : ¬ h 7 1 ≤ nI i := by rw [hn]; exact nI_ge (by omega) (by omega)
      have hi2 := hes i (by omega)
      refine k_MD_read_35 (fun c => absurd c c0) (fun _ => vp_in_nI (by omega) (by omega)) (fun _ c => ?_) (fun _ c => ?_) (fun _ c => ?_)
      · rw [nI_clamp (by omega), hi2.1] at c
        have := ih (i + 1) (by omega)
        rw [nI_add]
        unfold vw at this
        rw [if_neg (fun z => c (by rw [z]))] at this
        exact this
      · rw [pk_mul, nI_add]; exact vp_in_nI (by omega) (by omega)
      · rw [nI_clamp (by omega), hi2.1] at c
        have ce := neq c (by omega) (by omega)
        have := ih (i + 1) (by omega)
        unfold vw at this
        rw [if_pos ce] at this
        rw [nI_add, pk_mul, nI_add, nI_clamp (by omega), hew _ (by omega)]
        exact this
  have c1 : ¬ nI 40 < nI s := nI_nlt (by omega) (by decide)
  have c2 : nI w ≤ nI 3 := nI_le (by omega) (by decide)
  have p1 : ¬ nI s < 0 := nnn (by omega)
  have p2 : ¬ nI w < 0 := nnn (by omega)
  refine k_MD_read_0 (fun c => absurd c p1) (fun _ c => absurd c c1) (fun _ _ c => absurd c p2) (fun _ _ _ _ => ?_) (fun _ _ _ _ => ?_) (fun _ _ _ c => absurd c2 c)
  · rw [pk_mul, nI_add]; exact vp_in_nI (by omega) (by omega)
  · rw [pk_mul, nI_add, nI_clamp (by omega), hd _ (by omega)]
    exact key n 0 (Nat.zero_add n)
theorem m_read_bad {x y : Int32} (hb : x < 0 ∨ nI 41 ≤ x ∨ y < 0 ∨ nI 4 ≤ y) (hq : Q (some (nI 0)) h) : MC l E M_MD_read [.inr 7, .inl x, .inl y] h Q := by
  have g1 : nI 41 ≤ x → nI 40 < x := fun q => Int32.lt_of_lt_of_le (nI_lt (by decide) (by decide)) q
  have g2 : nI 4 ≤ y → ¬ y ≤ nI 3 := fun q r => absurd (Int32.le_trans q r) (nI_ge (by decide) (by decide))
  refine k_MD_read_0 (fun _ => hq) (fun _ _ => hq) (fun _ _ _ => hq) (fun a b c e => ?_) (fun a b c e => ?_) (fun _ _ _ _ => hq)
  · rcases hb with z | z | z | z
    · exact absurd z a
    · exact absurd (g1 z) b
    · exact absurd z c
    · exact absurd e (g2 z)
  · rcases hb with z | z | z | z
    · exact absurd z a
    · exact absurd (g1 z) b
    · exact absurd z c
    · exact absurd e (g2 z)
theorem m_writeOut {s : Nat} (D : DM d n es ew h) (hn : n < 28) (hs : s < 41) (hq : ∀ h', fr (pm [26, 27] [1]) h h' → DM d (n + 1) (esw es n s) (eww ew n (h 32)) h' → Q none h') : MC l E M_MD_writeOut [.inr 7, .inl (nI s)] h Q := by
  have hn0 := D.1
  have ein : (nI n).toNatClampNeg = n := nI_clamp (by omega)
  refine k_MD_writeOut_0 (by rw [hn0]; exact vp_in_nI (by omega) (by omega)) ?_
  rw [hn0, ein]
  have key : ∀ (j i : Nat) (h' : xh), i + j = 4 → fr (pm [26, 27] []) h h' → h' 7 1 = nI n → (∀ q, q < 164 → h' 25 q = d q) → (∀ k, k < n + 1 → h' 26 k = nI (esw es n s k) ∧ esw es n s k < 41) → (∀ q, q < 4 * n + i → h' 27 q = eww ew n (h 32) q) → WP l E M_MD_writeOut 12 [(0, .inr 7), (1, .inl (nI s)), (2, .inl (nI i))] [] h' Q := by
    intro j
    induction j with
    | zero =>
      intro i h' hi f a1 a2 a3 a4
      have ei : i = 4 := by omega
      subst ei
      have c0 : nI 4 ≤ nI 4 := nI_le (Nat.le_refl 4) (by decide)
      refine k_MD_writeOut_12 (fun _ => ?_) (fun c => absurd c0 c) (fun c => absurd c0 c) (fun c => absurd c0 c)
      refine hq _ ((f.upm rfl rfl).hw rfl) ?_
      rw [a1]
      refine ⟨?_, by omega, fun q hq => ?_, fun q hq => ?_, fun q hq => ?_⟩
      · rw [hwk, upi, if_pos rfl, nI_add]
      · rw [hwa (by decide)]; exact a2 q hq
      · rw [hwa (by decide)]; exact a3 q hq
      · rw [hwa (by decide)]; exact a4 q (by omega)
    | succ j ih =>
      intro i h' hi f a1 a2 a3 a4
      have c0 : ¬ nI 4 ≤ nI i := nI_ge (by omega) (by decide)
      refine k_MD_writeOut_12 (fun c => absurd c c0) (fun _ => vp_in_nI (by omega) (by omega)) (fun _ => ?_) (fun _ => ?_)
      · rw [a1, pk_mul, nI_add]; exact vp_in_nI (by omega) (by omega)
      · rw [a1, pk_mul, nI_add, nI_add, nI_clamp (by omega), nI_clamp (by omega)]
        refine ih (i + 1) _ (by omega) (f.hw rfl) ?_ (fun q hq => ?_) (fun q hq => ?_) (fun q hq => ?_)
        · rw [hwa (by decide)]; exact a1
        · rw [hwa (by decide)]; exact a2 q hq
        · rw [hwa (by decide)]; exact a3 q hq
        · rw [hwk, upi]
          by_cases c : q = 4 * n + i
          · rw [if_pos c, f 32 i rfl]
            unfold eww
            rw [if_pos (by omega), show q - 4 * n = i by omega]
          · rw [if_neg c]; exact a4 q (by omega)
  obtain ⟨-, hn28, hd, hes, hew⟩ := D
  refine key 4 0 _ (by omega) (fr.rf.hw rfl) ?_ (fun q hq => ?_) (fun q hq => ?_) (fun q hq => ?_)
  · rw [hwa (by decide)]; exact hn0
  · rw [hwa (by decide)]; exact hd q hq
  · rw [hwk, upi]
    unfold esw
    by_cases c : q = n
    · rw [if_pos c, if_pos c]; exact ⟨rfl, hs⟩
    · rw [if_neg c, if_neg c]; exact hes q (by omega)
  · rw [hwa (by decide)]
    unfold eww
    rw [if_neg (by omega)]; exact hew q (by omega)
theorem m_settle {k m : Nat} (D : DM d n es ew h) (hk : k < n) (hm : m ≤ 4) (hq : ∀ h', fr (pm [25] []) h h' → DM (st4 d (es k) (fun j => ew (4 * k + j)) m) n es ew h' → Q none h') : MC l E M_MD_settle [.inr 7, .inl (nI k), .inl (nI m)] h Q := by
  refine k_MD_settle_0 ?_
  have key : ∀ (j i : Nat) (h' : xh), i + j = m → fr (pm [25] []) h h' → DM (st4 d (es k) (fun j => ew (4 * k + j)) i) n es ew h' → WP l E M_MD_settle 2 [(0, .inr 7), (1, .inl (nI k)), (2, .inl (nI m)), (3, .inl (nI i))] [] h' Q := by
    intro j
    induction j with
    | zero =>
      intro i h' hi f D'
      have ei : i = m := by omega
      subst ei
      have c0 : nI i ≤ nI i := nI_le (Nat.le_refl i) (by omega)
      exact k_MD_settle_2 (fun _ => hq h' f D') (fun c => absurd c0 c) (fun c => absurd c0 c) (fun c => absurd c0 c) (fun c => absurd c0 c)
    | succ j ih =>
      intro i h' hi f D'
      have c0 : ¬ nI m ≤ nI i := nI_ge (by omega) (by omega)
      obtain ⟨hn, hn28, hd, hes, hew⟩ := D'
      have ek : (nI k).toNatClampNeg = k := nI_clamp (by omega)
      have h9 := (hes k hk).1
      have h41 := (hes k hk).2
      refine k_MD_settle_2 (fun c => absurd c c0) (fun _ => vp_in_nI (by omega) (by omega)) (fun _ => ?_) (fun _ => ?_) (fun _ => ?_)
      · rw [pk_mul, nI_add]; exact vp_in_nI (by omega) (by omega)
      · rw [ek, h9, pk_mul, nI_add]; exact vp_in_nI (by omega) (by omega)
      · rw [ek, h9, pk_mul, pk_mul, nI_add, nI_add, nI_add, nI_clamp (by omega), nI_clamp (by omega)]
        refine ih (i + 1) _ (by omega) (f.hw rfl) ⟨?_, hn28, fun q hq => ?_, fun q hq => ?_, fun q hq => ?_⟩
        · rw [hwa (by decide)]; exact hn
        · rw [hwk, upi]
          by_cases c : q = 4 * es k + i
          · rw [if_pos c, hew _ (by omega)]
            unfold st4
            rw [if_pos (by omega), show q - 4 * es k = i by omega]
          · rw [if_neg c, hd q hq]
            unfold st4
            by_cases c2 : 4 * es k ≤ q ∧ q < 4 * es k + i
            · rw [if_pos c2, if_pos (by omega)]
            · rw [if_neg c2, if_neg (by omega)]
        · rw [hwa (by decide)]; exact hes q hq
        · rw [hwa (by decide)]; exact hew q hq
  refine key m 0 h (by omega) fr.rf ?_
  obtain ⟨hn, hn28, hd, hes, hew⟩ := D
  refine ⟨hn, hn28, fun q hq => ?_, hes, hew⟩
  unfold st4
  rw [if_neg (by omega)]; exact hd q hq
theorem m_flush (D : DM d n es ew h) (hq : ∀ h', fr (pm [25] [1]) h h' → DM (fl d es ew n) 0 es ew h' → Q none h') : MC l E M_MD_flush [.inr 7] h Q := by
  refine k_MD_flush_0 ?_
  have key : ∀ (j i : Nat) (h' : xh), i + j = n → fr (pm [25] []) h h' → DM (fl d es ew i) n es ew h' → WP l E M_MD_flush 2 [(0, .inr 7), (1, .inl (nI i))] [] h' Q := by
    intro j
    induction j with
    | zero =>
      intro i h' hi f D'
      have hn := D'.1
      have c0 : h' 7 1 ≤ nI i := by rw [hn]; exact nI_le (by omega) (by have := D'.2.1; omega)
      refine k_MD_flush_2 (fun _ => ?_) (fun c => absurd c0 c)
      refine hq _ ((f.upm rfl rfl).hw rfl) ?_
      have e : i = n := by omega
      subst e
      obtain ⟨-, h28, hd, hes, hew⟩ := D'
      refine ⟨?_, by omega, fun i hi => ?_, fun k hk => absurd hk (Nat.not_lt_zero _), fun i hi => absurd hi (Nat.not_lt_zero _)⟩
      · rw [hwk, upi, if_pos rfl]
      · rw [hwa (by decide)]; exact hd i hi
    | succ j ih =>
      intro i h' hi f D'
      have hn := D'.1
      have c0 : ¬ h' 7 1 ≤ nI i := by rw [hn]; exact nI_ge (by omega) (by have := D'.2.1; omega)
      refine k_MD_flush_2 (fun c => absurd c c0) (fun _ => ?_)
      refine m_settle (k := i) (m := 4) D' (by omega) (by omega) (fun h2 f2 D2 => ?_)
      refine k_MD_flush_16 ?_
      rw [nI_add]
      exact ih (i + 1) h2 (by omega) (f.tr f2) D2
  exact key n 0 h (by omega) fr.rf D
theorem m_crash {mask whole : Int32} (D : DM d n es ew h) (hq : ∀ h', fr (pm [25] [1, 4, 12]) h h' → DM (cr d es ew mask (lk mask n) (wh whole) n) 0 es ew h' → h' 7 4 = nI 0 → h' 7 12 = nI 0 → Q (some (nI (lo mask n))) h') : MC l E M_MD_crash [.inr 7, .inl mask, .inl whole] h Q := by
  have hn0 := D.1
  have hn28 := D.2.1
  refine k_MD_crash_0 ?_
  have key2 : ∀ (j i : Nat) (h' : xh), i + j = n → fr (pm [25] []) h h' → DM (cr d es ew mask (lk mask n) (wh whole) i) n es ew h' → WP l E M_MD_crash 71 [(0, .inr 7), (1, .inl mask), (2, .inl whole), (3, .inl (nI (lk mask n) - nI 1)), (4, .inl (nI (lo mask n))), (5, .inl (nI i))] [] h' Q := by
    intro j
    have hlk := lk_le mask n
    induction j with
    | zero =>
      intro i h' hi f D'
      have ei : i = n := by omega
      subst ei
      have c0 : h' 7 1 ≤ nI i := by rw [D'.1]; exact nI_le (Nat.le_refl i) (by omega)
      refine k_MD_crash_71 (fun _ => ?_) (fun c => absurd c0 c) (fun c => absurd c0 c) (fun c => absurd c0 c) (fun c => absurd c0 c) (fun c => absurd c0 c)
      refine hq _ ((((f.upm rfl rfl).hw rfl).hw rfl).hw rfl) ?_ ?_ ?_
      · obtain ⟨-, -, hd, hes, hew⟩ := D'
        refine ⟨?_, by omega, fun i hi => ?_, fun k hk => absurd hk (Nat.not_lt_zero _), fun i hi => absurd hi (Nat.not_lt_zero _)⟩
        · rw [hwk, upi, if_neg (by decide), hwk, upi, if_neg (by decide), hwk, upi, if_pos rfl]
        · rw [hwa (by decide), hwa (by decide), hwa (by decide)]; exact hd i hi
      · rw [hwk, upi, if_neg (by decide), hwk, upi, if_pos rfl]
      · rw [hwk, upi, if_pos rfl]
    | succ j ih =>
      intro i h' hi f D'
      have c0 : ¬ h' 7 1 ≤ nI i := by rw [D'.1]; exact nI_ge (by omega) (by omega)
      have settle : ∀ (mm : Int32) (hk : ushr mask (nI i) &&& nI 1 = nI 1), mm = nI (if i + 1 = lk mask n then wh whole else 4) → MC l E M_MD_settle [.inr 7, .inl (nI i), .inl mm] h' (fun r h' => WP l E M_MD_crash 116 [(0, .inr 7), (1, .inl mask), (2, .inl whole), (3, .inl (nI (lk mask n) - nI 1)), (4, .inl (nI (lo mask n))), (5, .inl (nI i))] (rpush r []) h' Q) := by
        intro mm hk em
        subst em
        refine m_settle D' (by omega) (by have := wh_le whole; split <;> omega) (fun h2 f2 D2 => ?_)
        refine k_MD_crash_116 ?_
        rw [nI_add]
        refine ih (i + 1) h2 (by omega) (f.tr f2) ?_
        have e : cr d es ew mask (lk mask n) (wh whole) (i + 1) = st4 (cr d es ew mask (lk mask n) (wh whole) i) (es i) (fun j => ew (4 * i + j)) (if i + 1 = lk mask n then wh whole else 4) := by
          show (if _ then _ else _) = _
          rw [if_pos hk]
        rw [e]
        exact D2
      have bb : (mask >>> (nI i &&& 31)) &&& nI 1 = nI 1 ↔ ushr mask (nI i) &&& nI 1 = nI 1 := by rw [bssh (by omega), bush (by omega)]
      have last : nI i = nI (lk mask n) - nI 1 → i + 1 = lk mask n := by
        intro c
        cases hz : lk mask n with
        | zero =>
          rw [hz] at c
          exact absurd (by rw [c]; decide +kernel) (nnn (n := i) (by omega))
        | succ z =>
          rw [hz, npred] at c
          have := neq c (by omega) (by omega)
          omega
      refine k_MD_crash_71 (fun c => absurd c c0) (fun _ c => ?_) (fun _ c c5 => ?_) (fun _ c c5 c6 => ?_) (fun _ c c5 c6 c7 => ?_) (fun _ c c5 c6 c7 => ?_)
      · rw [nI_add]
        refine ih (i + 1) h' (by omega) f ?_
        have e : cr d es ew mask (lk mask n) (wh whole) (i + 1) = cr d es ew mask (lk mask n) (wh whole) i := by
          show (if _ then _ else _) = _
          rw [if_neg (fun z => c (bb.mpr z))]
        rw [e]
        exact D'
      · refine settle _ (bb.mp c) ?_
        rw [if_neg (fun e => c5 (by rw [← e, npred]))]
      · refine settle _ (bb.mp c) ?_
        rw [if_pos (last c5)]
        unfold wh
        rw [if_pos c6]
      · refine settle _ (bb.mp c) ?_
        rw [if_pos (last c5)]
        have g : nI 4 ≤ whole := by
          rcases ixI whole 4 (by decide) with q | q | ⟨j, hj, rfl⟩
          · exact absurd q c6
          · exact q
          · exact absurd c7 (nI_nlt (by omega) (by omega))
        unfold wh
        rw [if_neg c6, if_pos g]
      · refine settle _ (bb.mp c) ?_
        rw [if_pos (last c5)]
        rcases ixI whole 4 (by decide) with q | q | ⟨j, hj, rfl⟩
        · exact absurd q c6
        · exact absurd (Int32.lt_of_lt_of_le (nI_lt (by decide) (by decide)) q) c7
        · unfold wh
          rw [if_neg c6, if_neg (nI_ge hj (by decide)), nI_clamp (by omega)]
  have key1 : ∀ (j i : Nat), i + j = n → WP l E M_MD_crash 8 [(0, .inr 7), (1, .inl mask), (2, .inl whole), (3, .inl (nI (lk mask i) - nI 1)), (4, .inl (nI (lo mask i))), (5, .inl (nI i))] [] h Q := by
    intro j
    induction j with
    | zero =>
      intro i hi
      have ei : i = n := by omega
      subst ei
      have c0 : h 7 1 ≤ nI i := by rw [hn0]; exact nI_le (Nat.le_refl i) (by omega)
      refine k_MD_crash_8 (fun _ => ?_) (fun c => absurd c0 c) (fun c => absurd c0 c)
      exact key2 i 0 h (Nat.zero_add _) fr.rf D
    | succ j ih =>
      intro i hi
      have c0 : ¬ h 7 1 ≤ nI i := by rw [hn0]; exact nI_ge (by omega) (by omega)
      have bb : (mask >>> (nI i &&& 31)) &&& nI 1 = nI 1 ↔ ushr mask (nI i) &&& nI 1 = nI 1 := by rw [bssh (by omega), bush (by omega)]
      refine k_MD_crash_8 (fun c => absurd c c0) (fun _ c => ?_) (fun _ c => ?_)
      · have := ih (i + 1) (by omega)
        unfold lo lk at this
        rw [if_neg (fun z => c (bb.mpr z)), if_neg (fun z => c (bb.mpr z))] at this
        rw [nI_add, nI_add]
        exact this
      · have := ih (i + 1) (by omega)
        unfold lo lk at this
        rw [if_pos (bb.mp c), if_pos (bb.mp c), npred] at this
        rw [nI_add]
        exact this
  exact key1 n 0 (Nat.zero_add _)
end DEVM
