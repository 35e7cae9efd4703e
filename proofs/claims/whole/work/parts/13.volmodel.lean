/-! THE VOLUME: the reference's short calls -/
section VOLM
variable {l : Launch} {E : xE} {d : Nat → Int32} {n : Nat} {es : Nat → Nat} {ew : Nat → Int32} {h : xh} {Q : Option Int32 → xh → Prop}
variable {up num nx us : Nat} {kd : Nat → Nat} {rn : Nat → Int32} {pd : Nat → Nat} {pw : Nat → Int32}
theorem g15 {x : Int32} (h : nI 16 ≤ x) : nI 15 < x := Int32.lt_of_lt_of_le (nI_lt (by decide) (by decide)) h
theorem g3 {x : Int32} (h : nI 4 ≤ x) : nI 3 < x := Int32.lt_of_lt_of_le (nI_lt (by decide) (by decide)) h
theorem g40 {x : Int32} (h : nI 41 ≤ x) : nI 40 < x := Int32.lt_of_lt_of_le (nI_lt (by decide) (by decide)) h
theorem m_countOf {v : Nat} (hk : ∀ b, b < 16 → h 28 b = nI (kd b)) (hs : ∀ b, b < 16 → kd b ≤ 2) (hv : v ≤ 2) (hq : Q (some (nI (cnt kd v 16))) h) : MC l E M_MD_countOf [.inr 7, .inl (nI v)] h Q := by
  refine k_MD_countOf_0 ?_
  have key : ∀ (j i : Nat), i + j = 16 → WP l E M_MD_countOf 4 [(0, .inr 7), (1, .inl (nI v)), (2, .inl (nI (cnt kd v i))), (3, .inl (nI i))] [] h Q := by
    intro j
    induction j with
    | zero =>
      intro i hi
      have ei : i = 16 := by omega
      subst ei
      have c0 : nI 16 ≤ nI 16 := nI_le (Nat.le_refl 16) (by decide)
      exact k_MD_countOf_4 (fun _ => hq) (fun c => absurd c0 c) (fun c => absurd c0 c) (fun c => absurd c0 c)
    | succ j ih =>
      intro i hi
      have c0 : ¬ nI 16 ≤ nI i := nI_ge (by omega) (by decide)
      have := ih (i + 1) (by omega)
      unfold cnt at this
      refine k_MD_countOf_4 (fun c => absurd c c0) (fun _ => vp_in_nI (by omega) (by decide)) (fun _ c => ?_) (fun _ c => ?_)
      · rw [nI_clamp (by omega), hk i (by omega)] at c
        rw [if_neg (fun z => c (by rw [z]))] at this
        rw [nI_add]
        exact this
      · rw [nI_clamp (by omega), hk i (by omega)] at c
        have := hs i (by omega)
        have ce := neq c (by omega) (by omega)
        rw [if_pos ce] at *
        rw [nI_add, nI_add]
        assumption
  exact key 16 0 (by omega)
theorem m_get_no {x1 x2 : Int32} (V : VM up num nx us kd rn pd pw h) (hu : up = 0 ∨ up = 1) (hb : up = 0 ∨ x1 < 0 ∨ nI 16 ≤ x1 ∨ x2 < 0 ∨ nI 4 ≤ x2) (hq : Q (some (nI 0)) h) : MC l E M_MD_get [.inr 7, .inl x1, .inl x2] h Q := by
  have g : ∀ {A : Prop}, ¬ h 7 4 = 0 → ¬ x1 < 0 → ¬ nI 15 < x1 → ¬ x2 < 0 → ¬ nI 3 < x2 → A := by
    intro A a1 a3 a4 a5 a6
    have hup := up1 V.1 hu a1
    rcases hb with e | e | e | e | e
    · omega
    · exact absurd e a3
    · exact absurd (g15 e) a4
    · exact absurd e a5
    · exact absurd (g3 e) a6
  exact k_MD_get_0 (fun _ => hq) (fun _ _ => hq) (fun _ _ _ => hq) (fun _ _ _ _ => hq) (fun _ _ _ _ _ => hq) (fun a b c e f => g a b c e f) (fun a b c e f _ => g a b c e f) (fun a b c e f _ _ => g a b c e f) (fun a b c e f _ _ => g a b c e f) (fun a b c e f _ _ => g a b c e f) (fun a b c e f _ => g a b c e f) (fun a b c e f _ => g a b c e f)
theorem m_get_yes {b w : Nat} (D : DM d n es ew h) (V : VM up num nx us kd rn pd pw h) (hup : up = 1) (hb : b < 16) (hw4 : w < 4) (hp : pd b ≤ 1) (hkd : kd b ≤ 2) (hq : Q (some (gv d n es ew kd rn pd pw b w)) h) : MC l E M_MD_get [.inr 7, .inl (nI b), .inl (nI w)] h Q := by
  obtain ⟨v4, hv⟩ := id V
  obtain ⟨a5, a6, a7, h28, h29, h30, h31⟩ := hv hup
  have u0 : ¬ h 7 4 = 0 := by rw [v4, hup]; decide +kernel
  have p1 : ¬ nI b < 0 := nnn (by omega)
  have p2 : ¬ nI 15 < nI b := nI_nlt (by omega) (by omega)
  have p3 : ¬ nI w < 0 := nnn (by omega)
  have p4 : ¬ nI 3 < nI w := nI_nlt (by omega) (by omega)
  have i16 : vp_in (nI b) 16 := vp_in_nI hb (by decide)
  have eb : (nI b).toNatClampNeg = b := nI_clamp (by omega)
  have ei : nI 4 * nI b + nI w = nI (4 * b + w) := by rw [pk_mul, nI_add]
  have i64 : vp_in (nI 4 * nI b + nI w) 64 := by rw [ei]; exact vp_in_nI (by omega) (by decide)
  have ec : (nI (4 * b + w)).toNatClampNeg = 4 * b + w := nI_clamp (by omega)
  have z28 : h 28 ((nI b).toNatClampNeg) = nI (kd b) := by rw [eb, h28 b hb]
  have z30 : h 30 ((nI b).toNatClampNeg) = nI (pd b) := by rw [eb, h30 b hb]
  unfold gv at hq
  refine k_MD_get_0 (fun c => absurd c u0) (fun _ c => absurd c p1) (fun _ _ c => absurd c p2) (fun _ _ _ c => absurd c p3) (fun _ _ _ _ c => absurd c p4) (fun _ _ _ _ _ => i16) (fun _ _ _ _ _ _ => i16) (fun _ _ _ _ _ c1 c2 => ?_) (fun _ _ _ _ _ _ _ => i64) (fun _ _ _ _ _ c1 c2 => ?_) (fun _ _ _ _ _ _ => i64) (fun _ _ _ _ _ c1 => ?_)
  · rw [z28] at c1
    rw [z30, p0 hp] at c2
    rw [if_neg (fun z => c1 (by rw [z])), if_neg c2] at hq
    exact m_read D (by omega) hw4 (k_MD_get_74 hq)
  · rw [z28] at c1
    rw [z30, p0 hp] at c2
    have c2 : pd b = 1 := by omega
    rw [if_neg (fun z => c1 (by rw [z])), if_pos c2] at hq
    rw [ei, ec, h31 b hb c2 w hw4]
    exact hq
  · rw [z28] at c1
    have c1 := neq c1 (by omega) (by omega)
    rw [if_pos c1] at hq
    rw [ei, ec, h29 b hb c1 w hw4]
    exact hq
theorem m_put_no {x1 x2 x3 : Int32} (V : VM up num nx us kd rn pd pw h) (I : vi up num nx us kd pd) (hb : up = 0 ∨ ¬ h 7 12 = 0 ∨ x1 < 0 ∨ nI 16 ≤ x1 ∨ x2 < 0 ∨ nI 4 ≤ x2 ∨ ∃ b, b < 16 ∧ x1 = nI b ∧ ¬ kd b = 1 ∧ 8 ≤ cnt kd 1 16) (hq : Q (some (nI 0)) h) : MC l E M_MD_put [.inr 7, .inl x1, .inl x2, .inl x3] h Q := by
  obtain ⟨v4, hv⟩ := V
  have g : ∀ {A : Prop}, ¬ h 7 4 = 0 → h 7 12 = 0 → ¬ x1 < 0 → ¬ nI 15 < x1 → ¬ x2 < 0 → ¬ nI 3 < x2 → (∀ b, b < 16 → x1 = nI b → ¬ kd b = 1 → 8 ≤ cnt kd 1 16 → up = 1 → A) → A := by
    intro A a1 a2 a3 a4 a5 a6 k
    have hup := up1 v4 I.1 a1
    rcases hb with e | e | e | e | e | e | ⟨b, hb, e, e1, e2⟩
    · omega
    · exact absurd a2 e
    · exact absurd e a3
    · exact absurd (g15 e) a4
    · exact absurd e a5
    · exact absurd (g3 e) a6
    · exact k b hb e e1 e2 hup
  refine k_MD_put_0 (fun _ => hq) (fun _ _ => hq) (fun _ _ _ => hq) (fun _ _ _ _ => hq) (fun _ _ _ _ _ => hq) (fun _ _ _ _ _ _ => hq) (fun a1 a2 a3 a4 a5 a6 => ?_) (fun a1 a2 a3 a4 a5 a6 a7 => ?_) (fun a1 a2 a3 a4 a5 a6 a7 => ?_)
  · exact g a1 a2 a3 a4 a5 a6 (fun b hb e _ _ _ => by rw [e]; exact vp_in_nI hb (by decide))
  · exact g a1 a2 a3 a4 a5 a6 (fun b hb e e1 _ hup => by
      rw [e, nI_clamp (by omega), (hv hup).2.2.2.1 b hb] at a7
      have := (I.2 hup).2.2.2.1 b hb
      exact absurd (neq a7 (by omega) (by omega)) e1)
  · exact g a1 a2 a3 a4 a5 a6 (fun b hb e e1 e2 hup => by
      refine m_countOf (v := 1) (hv hup).2.2.2.1 (I.2 hup).2.2.2.1 (by omega) ?_
      exact k_MD_put_36 (fun c => absurd c (nI_nlt e2 (by have := cnt_le kd 1 16; omega))) (fun _ => hq))
theorem m_put_yes {b w : Nat} {v : Int32} (D : DM d n es ew h) (V : VM up num nx us kd rn pd pw h) (I : vi up num nx us kd pd) (hup : up = 1) (hj : h 7 12 = 0) (hb : b < 16) (hw4 : w < 4) (hok : kd b = 1 ∨ cnt kd 1 16 < 8)
    (hq : ∀ h', fr (pm [28, 29] []) h h' → VM up num nx us (upN kd b 1) (rnp rn b w v (gv d n es ew kd rn pd pw b)) pd pw h' → Q (some (nI 1)) h') : MC l E M_MD_put [.inr 7, .inl (nI b), .inl (nI w), .inl v] h Q := by
  obtain ⟨v4, hv⟩ := id V
  obtain ⟨a5, a6, a7, h28, h29, h30, h31⟩ := hv hup
  have hpd := (I.2 hup).2.2.2.2.1
  have hkd := (I.2 hup).2.2.2.1
  have u0 : ¬ h 7 4 = 0 := by rw [v4, hup]; decide +kernel
  have p1 : ¬ nI b < 0 := nnn (by omega)
  have p2 : ¬ nI 15 < nI b := nI_nlt (by omega) (by omega)
  have p3 : ¬ nI w < 0 := nnn (by omega)
  have p4 : ¬ nI 3 < nI w := nI_nlt (by omega) (by omega)
  have i16 : vp_in (nI b) 16 := vp_in_nI hb (by decide)
  have eb : (nI b).toNatClampNeg = b := nI_clamp (by omega)
  have key : ∀ (j i : Nat) (h' : xh), i + j = 4 → fr (pm [29] []) h h' → (∀ q, q < i → h' 29 (4 * b + q) = gv d n es ew kd rn pd pw b q) → (∀ q, i ≤ q → h' 29 (4 * b + q) = h 29 (4 * b + q)) → (∀ q, q < 4 * b → h' 29 q = h 29 q) → WP l E M_MD_put 46 [(0, .inr 7), (1, .inl (nI b)), (2, .inl (nI w)), (3, .inl v), (4, .inl (nI i))] [] h' Q := by
    intro j
    induction j with
    | zero =>
      intro i h' hi f x1 x2 x3
      have ei : i = 4 := by omega
      subst ei
      have c0 : nI 4 ≤ nI 4 := nI_le (Nat.le_refl 4) (by decide)
      have ew : nI 4 * nI b + nI w = nI (4 * b + w) := by rw [pk_mul, nI_add]
      refine k_MD_put_46 (fun _ => i16) (fun _ => by rw [ew]; exact vp_in_nI (by omega) (by decide)) (fun _ => ?_) (fun c => absurd c0 c)
      rw [eb, ew, nI_clamp (by omega)]
      refine hq _ (((f.upm rfl rfl).hw rfl).hw rfl) ?_
      refine ⟨by rw [hwa (by decide), hwa (by decide), f 7 4 rfl]; exact v4, fun _ => ⟨by rw [hwa (by decide), hwa (by decide), f 7 5 rfl]; exact a5, by rw [hwa (by decide), hwa (by decide), f 7 6 rfl]; exact a6, by rw [hwa (by decide), hwa (by decide), f 7 7 rfl]; exact a7, fun q hq => ?_, fun q hq q1 w' hw' => ?_, fun q hq => by rw [hwa (by decide), hwa (by decide), f 30 q rfl]; exact h30 q hq, fun q hq q1 w' hw' => by rw [hwa (by decide), hwa (by decide), f 31 _ rfl]; exact h31 q hq q1 w' hw'⟩⟩
      · rw [hwa (by decide), hwk, upi]
        unfold upN
        by_cases c : q = b
        · rw [if_pos c, if_pos c]
        · rw [if_neg c, if_neg c, f 28 q rfl]; exact h28 q hq
      · rw [hwk, upi, hwa (by decide)]
        unfold rnp
        by_cases e : 4 * q + w' = 4 * b + w
        · rw [if_pos e, if_pos e]
        · rw [if_neg e, if_neg e]
          by_cases e2 : 4 * b ≤ 4 * q + w' ∧ 4 * q + w' < 4 * b + 4
          · rw [if_pos e2]
            have := x1 (4 * q + w' - 4 * b) (by omega)
            rw [show 4 * b + (4 * q + w' - 4 * b) = 4 * q + w' by omega] at this
            exact this
          · rw [if_neg e2]
            have hne : q ≠ b := fun z => e2 (by omega)
            unfold upN at q1
            rw [if_neg hne] at q1
            rw [← h29 q hq q1 w' hw']
            rcases Nat.lt_or_ge (4 * q + w') (4 * b) with z | z
            · exact x3 _ z
            · have := x2 (4 * q + w' - 4 * b) (by omega)
              rw [show 4 * b + (4 * q + w' - 4 * b) = 4 * q + w' by omega] at this
              exact this
    | succ j ih =>
      intro i h' hi f x1 x2 x3
      have c0 : ¬ nI 4 ≤ nI i := nI_ge (by omega) (by decide)
      refine k_MD_put_46 (fun c => absurd c c0) (fun c => absurd c c0) (fun c => absurd c c0) (fun _ => ?_)
      have D' : DM d n es ew h' := DM.fr D f rfl (fun _ => rfl) (fun _ => rfl) (fun _ => rfl)
      have V' : VM up num nx us kd (fun q => h' 29 q) pd pw h' := ⟨by rw [f 7 4 rfl]; exact v4, fun _ => ⟨by rw [f 7 5 rfl]; exact a5, by rw [f 7 6 rfl]; exact a6, by rw [f 7 7 rfl]; exact a7, fun q hq => by rw [f 28 q rfl]; exact h28 q hq, fun _ _ _ _ _ => rfl, fun q hq => by rw [f 30 q rfl]; exact h30 q hq, fun q hq q1 w' hw' => by rw [f 31 _ rfl]; exact h31 q hq q1 w' hw'⟩⟩
      refine m_get_yes D' V' hup hb (by omega) (hpd b hb) (hkd b hb) ?_
      have ei : nI 4 * nI b + nI i = nI (4 * b + i) := by rw [pk_mul, nI_add]
      refine k_MD_put_69 (by rw [ei]; exact vp_in_nI (by omega) (by decide)) ?_
      rw [ei, nI_add, nI_clamp (by omega)]
      have eg : gv d n es ew kd (fun q => h' 29 q) pd pw b i = gv d n es ew kd rn pd pw b i := by
        unfold gv
        by_cases c : kd b = 1
        · rw [if_pos c, if_pos c]
          show h' 29 (4 * b + i) = _
          rw [x2 i (Nat.le_refl i)]
          exact h29 b hb c i (by omega)
        · rw [if_neg c, if_neg c]
      rw [eg]
      refine ih (i + 1) _ (by omega) (f.hw rfl) (fun q hq => ?_) (fun q hq => ?_) (fun q hq => ?_)
      · rw [hwk, upi]
        by_cases c : q = i
        · subst c; rw [if_pos rfl]
        · rw [if_neg (by omega)]; exact x1 q (by omega)
      · rw [hwk, upi, if_neg (by omega)]; exact x2 q (by omega)
      · rw [hwk, upi, if_neg (by omega)]; exact x3 q hq
  have start : WP l E M_MD_put 46 [(0, .inr 7), (1, .inl (nI b)), (2, .inl (nI w)), (3, .inl v), (4, .inl (nI 0))] [] h Q := key 4 0 h (by omega) fr.rf (fun q hq => absurd hq (Nat.not_lt_zero _)) (fun _ _ => rfl) (fun _ _ => rfl)
  refine k_MD_put_0 (fun c => absurd c u0) (fun _ c => absurd hj c) (fun _ _ c => absurd c p1) (fun _ _ _ c => absurd c p2) (fun _ _ _ _ c => absurd c p3) (fun _ _ _ _ _ c => absurd c p4) (fun _ _ _ _ _ _ => i16) (fun _ _ _ _ _ _ _ => start) (fun _ _ _ _ _ _ c => ?_)
  refine m_countOf (v := 1) h28 hkd (by omega) ?_
  refine k_MD_put_36 (fun _ => start) (fun c2 => ?_)
  rw [eb, h28 b hb] at c
  rcases hok with e | e
  · exact absurd (by rw [e]) c
  · exact absurd (nI_lt e (by decide)) c2
theorem m_revoke_no {x1 : Int32} (V : VM up num nx us kd rn pd pw h) (hu : up = 0 ∨ up = 1) (hb : up = 0 ∨ ¬ h 7 12 = 0 ∨ x1 < 0 ∨ nI 16 ≤ x1) (hq : Q (some (nI 0)) h) : MC l E M_MD_revoke [.inr 7, .inl x1] h Q := by
  have g : ∀ {A : Prop}, ¬ h 7 4 = 0 → h 7 12 = 0 → ¬ x1 < 0 → ¬ nI 15 < x1 → A := by
    intro A a1 a2 a3 a4
    have hup := up1 V.1 hu a1
    rcases hb with e | e | e | e
    · omega
    · exact absurd a2 e
    · exact absurd e a3
    · exact absurd (g15 e) a4
  exact k_MD_revoke_0 (fun _ => hq) (fun _ _ => hq) (fun _ _ _ => hq) (fun _ _ _ _ => hq) (fun a b c e => g a b c e) (fun a b c e => g a b c e)
theorem m_revoke_yes {b : Nat} (V : VM up num nx us kd rn pd pw h) (hup : up = 1) (hj : h 7 12 = 0) (hb : b < 16) (hq : ∀ h', fr (pm [28] []) h h' → VM up num nx us (upN kd b 2) rn pd pw h' → Q (some (nI 1)) h') : MC l E M_MD_revoke [.inr 7, .inl (nI b)] h Q := by
  obtain ⟨v4, hv⟩ := id V
  obtain ⟨a5, a6, a7, h28, h29, h30, h31⟩ := hv hup
  have u0 : ¬ h 7 4 = 0 := by rw [v4, hup]; decide +kernel
  have eb : (nI b).toNatClampNeg = b := nI_clamp (by omega)
  refine k_MD_revoke_0 (fun c => absurd c u0) (fun _ c => absurd hj c) (fun _ _ c => absurd c (nnn (by omega))) (fun _ _ _ c => absurd c (nI_nlt (by omega) (by omega))) (fun _ _ _ _ => vp_in_nI hb (by decide)) (fun _ _ _ _ => ?_)
  rw [eb]
  refine hq _ (fr.rf.hw rfl) ?_
  refine ⟨by rw [hwa (by decide)]; exact v4, fun _ => ⟨by rw [hwa (by decide)]; exact a5, by rw [hwa (by decide)]; exact a6, by rw [hwa (by decide)]; exact a7, fun q hq => ?_, fun q hq q1 w' hw' => ?_, by rw [hwa (by decide)]; exact h30, by rw [hwa (by decide)]; exact h31⟩⟩
  · rw [hwk, upi]
    unfold upN
    by_cases c : q = b
    · rw [if_pos c, if_pos c]
    · rw [if_neg c, if_neg c]; exact h28 q hq
  · rw [hwa (by decide)]
    unfold upN at q1
    by_cases c : q = b
    · rw [if_pos c] at q1; omega
    · rw [if_neg c] at q1; exact h29 q hq q1 w' hw'
theorem m_direct_no {x1 x2 x3 : Int32} (D : DM d n es ew h) (V : VM up num nx us kd rn pd pw h) (I : vi up num nx us kd pd) (hb : up = 0 ∨ ¬ h 7 12 = 0 ∨ x1 < 0 ∨ nI 16 ≤ x1 ∨ x2 < 0 ∨ nI 4 ≤ x2 ∨ (∃ b, b < 16 ∧ x1 = nI b ∧ (kd b = 1 ∨ pd b = 1)) ∨ 12 ≤ n) (hq : Q (some (nI 0)) h) : MC l E M_MD_direct [.inr 7, .inl x1, .inl x2, .inl x3] h Q := by
  obtain ⟨v4, hv⟩ := V
  have g : ∀ {A : Prop}, ¬ h 7 4 = 0 → h 7 12 = 0 → ¬ x1 < 0 → ¬ nI 15 < x1 → ¬ x2 < 0 → ¬ nI 3 < x2 → (∀ b, b < 16 → x1 = nI b → ((kd b = 1 ∨ pd b = 1) ∨ 12 ≤ n) → up = 1 → pd b ≤ 1 → A) → A := by
    intro A a1 a2 a3 a4 a5 a6 k
    have hup := up1 v4 I.1 a1
    have hpd := (I.2 hup).2.2.2.2.1
    obtain ⟨b, hb16, rfl⟩ : ∃ b, b < 16 ∧ x1 = nI b := by
      rcases ixI x1 16 (by decide) with e | e | e
      · exact absurd e a3
      · exact absurd (g15 e) a4
      · exact e
    rcases hb with e | e | e | e | e | e | ⟨b', hb', e, e1⟩ | e
    · omega
    · exact absurd a2 e
    · exact absurd e a3
    · exact absurd (g15 e) a4
    · exact absurd e a5
    · exact absurd (g3 e) a6
    · have := neq e (by omega) (by omega)
      subst this
      exact k b hb16 rfl (Or.inl e1) hup (hpd b hb16)
    · exact k b hb16 rfl (Or.inr e) hup (hpd b hb16)
  have q28 : ∀ b, b < 16 → up = 1 → h 28 ((nI b).toNatClampNeg) = nI (kd b) := fun b hb hup => by rw [nI_clamp (by omega)]; exact (hv hup).2.2.2.1 b hb
  have q30 : ∀ b, b < 16 → up = 1 → h 30 ((nI b).toNatClampNeg) = nI (pd b) := fun b hb hup => by rw [nI_clamp (by omega)]; exact (hv hup).2.2.2.2.2.1 b hb
  refine k_MD_direct_0 (fun _ => hq) (fun _ _ => hq) (fun _ _ _ => hq) (fun _ _ _ _ => hq) (fun _ _ _ _ _ => hq) (fun _ _ _ _ _ _ => hq) (fun a1 a2 a3 a4 a5 a6 => ?_) (fun _ _ _ _ _ _ _ => hq) (fun a1 a2 a3 a4 a5 a6 a7 => ?_) (fun _ _ _ _ _ _ _ _ => hq) (fun a1 a2 a3 a4 a5 a6 a7 a8 a9 => ?_) (fun _ _ _ _ _ _ _ _ _ => hq)
  · exact g a1 a2 a3 a4 a5 a6 (fun b hb e _ _ _ => by rw [e]; exact vp_in_nI hb (by decide))
  · exact g a1 a2 a3 a4 a5 a6 (fun b hb e _ _ _ => by rw [e]; exact vp_in_nI hb (by decide))
  · exact g a1 a2 a3 a4 a5 a6 (fun b hb e e1 hup hp => by
      rw [e, q28 b hb hup] at a7
      rw [e, q30 b hb hup, p0 hp] at a8
      rw [D.1] at a9
      rcases e1 with (z | z) | z
      · exact absurd (by rw [z]) a7
      · exact absurd z a8
      · exact absurd a9 (nI_nlt z (by have := D.2.1; omega)))
theorem m_direct_yes {b w : Nat} {v : Int32} (D : DM d n es ew h) (V : VM up num nx us kd rn pd pw h) (hup : up = 1) (hj : h 7 12 = 0) (hb : b < 16) (hw4 : w < 4) (hp : pd b ≤ 1) (hkd : kd b ≤ 2) (hk : ¬ kd b = 1) (hk2 : ¬ pd b = 1) (hn : n < 12)
    (hq : ∀ h', fr (pm [26, 27, 32] [1]) h h' → DM d (n + 1) (esw es n b) (eww ew n (fun j => if j = w then v else vw d es ew b j n)) h' → Q (some (nI 1)) h') : MC l E M_MD_direct [.inr 7, .inl (nI b), .inl (nI w), .inl v] h Q := by
  obtain ⟨v4, hv⟩ := id V
  obtain ⟨a5, a6, a7, h28, h29, h30, h31⟩ := hv hup
  have u0 : ¬ h 7 4 = 0 := by rw [v4, hup]; decide +kernel
  have p1 : ¬ nI b < 0 := nnn (by omega)
  have p2 : ¬ nI 15 < nI b := nI_nlt (by omega) (by omega)
  have p3 : ¬ nI w < 0 := nnn (by omega)
  have p4 : ¬ nI 3 < nI w := nI_nlt (by omega) (by omega)
  have i16 : vp_in (nI b) 16 := vp_in_nI hb (by decide)
  have eb : (nI b).toNatClampNeg = b := nI_clamp (by omega)
  have z28 : ¬ h 28 ((nI b).toNatClampNeg) = nI 1 := by rw [eb, h28 b hb]; exact fun z => hk (neq z (by omega) (by omega))
  have z30 : h 30 ((nI b).toNatClampNeg) = 0 := by rw [eb, h30 b hb]; exact (p0 hp).mpr hk2
  have key : ∀ (j i : Nat) (h' : xh), i + j = 4 → fr (pm [32] []) h h' → (∀ q, q < i → h' 32 q = vw d es ew b q n) → WP l E M_MD_direct 54 [(0, .inr 7), (1, .inl (nI b)), (2, .inl (nI w)), (3, .inl v), (4, .inl (nI i))] [] h' Q := by
    intro j
    induction j with
    | zero =>
      intro i h' hi f x1
      have ei : i = 4 := by omega
      subst ei
      have c0 : nI 4 ≤ nI 4 := nI_le (Nat.le_refl 4) (by decide)
      refine k_MD_direct_54 (fun _ => vp_in_nI hw4 (by decide)) (fun _ => ?_) (fun c => absurd c0 c)
      rw [nI_clamp (by omega)]
      have f2 : fr (pm [32] []) h (hw h' 32 w v) := f.hw rfl
      have D' : DM d n es ew (hw h' 32 w v) := DM.fr D f2 rfl (fun _ => rfl) (fun _ => rfl) (fun _ => rfl)
      refine m_writeOut D' (by omega) (by omega) (fun h2 f3 D2 => ?_)
      refine k_MD_direct_92 (hq h2 ((f2.upm rfl rfl).tr (f3.upm rfl rfl)) ?_)
      obtain ⟨g1, g2, g3, g4, g5⟩ := D2
      refine ⟨g1, g2, g3, g4, fun q hq => ?_⟩
      rw [g5 q hq]
      unfold eww
      by_cases c : 4 * n ≤ q
      · rw [if_pos c, if_pos c, hwk, upi]
        show _ = if q - 4 * n = w then v else vw d es ew b (q - 4 * n) n
        by_cases c2 : q - 4 * n = w
        · rw [if_pos c2, if_pos c2]
        · rw [if_neg c2, if_neg c2]; exact x1 _ (by omega)
      · rw [if_neg c, if_neg c]
    | succ j ih =>
      intro i h' hi f x1
      have c0 : ¬ nI 4 ≤ nI i := nI_ge (by omega) (by decide)
      refine k_MD_direct_54 (fun c => absurd c c0) (fun c => absurd c c0) (fun _ => ?_)
      have D' : DM d n es ew h' := DM.fr D f rfl (fun _ => rfl) (fun _ => rfl) (fun _ => rfl)
      refine m_read D' (by omega) (by omega) ?_
      refine k_MD_direct_73 (vp_in_nI (by omega) (by decide)) ?_
      rw [nI_add, nI_clamp (by omega)]
      refine ih (i + 1) _ (by omega) (f.hw rfl) (fun q hq => ?_)
      rw [hwk, upi]
      by_cases c : q = i
      · subst c; rw [if_pos rfl]
      · rw [if_neg c]; exact x1 q (by omega)
  refine k_MD_direct_0 (fun c => absurd c u0) (fun _ c => absurd hj c) (fun _ _ c => absurd c p1) (fun _ _ _ c => absurd c p2) (fun _ _ _ _ c => absurd c p3) (fun _ _ _ _ _ c => absurd c p4) (fun _ _ _ _ _ _ => i16) (fun _ _ _ _ _ _ c => absurd c z28) (fun _ _ _ _ _ _ _ => i16) (fun _ _ _ _ _ _ _ c => absurd z30 c) (fun _ _ _ _ _ _ _ _ _ => ?_) (fun _ _ _ _ _ _ _ _ c => absurd (by rw [D.1]; exact nI_lt hn (by decide)) c)
  exact key 4 0 h (by omega) fr.rf (fun q hq => absurd hq (Nat.not_lt_zero _))
theorem m_stored_no {x1 x2 : Int32} (hb : x1 < 0 ∨ nI 41 ≤ x1 ∨ x2 < 0 ∨ nI 4 ≤ x2) (hq : Q (some (nI 0)) h) : MC l E M_MD_stored [.inr 7, .inl x1, .inl x2] h Q := by
  have g : ∀ {A : Prop}, ¬ x1 < 0 → ¬ nI 40 < x1 → ¬ x2 < 0 → x2 ≤ nI 3 → A := by
    intro A a3 a4 a5 a6
    rcases hb with e | e | e | e
    · exact absurd e a3
    · exact absurd (g40 e) a4
    · exact absurd e a5
    · exact absurd (Int32.le_trans e a6) (nI_ge (by decide) (by decide))
  exact k_MD_stored_0 (fun _ => hq) (fun _ _ => hq) (fun _ _ _ => hq) (fun a3 a4 a5 a6 => g a3 a4 a5 a6) (fun a3 a4 a5 a6 => g a3 a4 a5 a6) (fun _ _ _ _ => hq)
theorem m_stored_yes {s w : Nat} (D : DM d n es ew h) (hs : s < 41) (hw4 : w < 4) (hq : Q (some (d (4 * s + w))) h) : MC l E M_MD_stored [.inr 7, .inl (nI s), .inl (nI w)] h Q := by
  have ei : nI 4 * nI s + nI w = nI (4 * s + w) := by rw [pk_mul, nI_add]
  refine k_MD_stored_0 (fun c => absurd c (nnn (by omega))) (fun _ c => absurd c (nI_nlt (by omega) (by omega))) (fun _ _ c => absurd c (nnn (by omega))) (fun _ _ _ _ => by rw [ei]; exact vp_in_nI (by omega) (by decide)) (fun _ _ _ _ => ?_) (fun _ _ _ c => absurd (nI_le (by omega) (by decide)) c)
  rw [ei, nI_clamp (by omega), D.2.2.1 _ (by omega)]
  exact hq
theorem m_changed_no {x1 : Int32} (V : VM up num nx us kd rn pd pw h) (hu : up = 0 ∨ up = 1) (hb : up = 0 ∨ x1 < 0 ∨ nI 16 ≤ x1) (hq : Q (some (-1)) h) : MC l E M_MD_changed [.inr 7, .inl x1] h Q := by
  have g : ∀ {A : Prop}, ¬ h 7 4 = 0 → ¬ x1 < 0 → ¬ nI 15 < x1 → A := by
    intro A a1 a3 a4
    have hup := up1 V.1 hu a1
    rcases hb with e | e | e
    · omega
    · exact absurd e a3
    · exact absurd (g15 e) a4
  exact k_MD_changed_0 (fun _ => hq) (fun _ _ => hq) (fun _ _ _ => hq) (fun a b c => g a b c) (fun a b c => g a b c) (fun a b c _ => g a b c) (fun a b c _ => g a b c)
theorem m_changed_yes {b : Nat} (V : VM up num nx us kd rn pd pw h) (hup : up = 1) (hb : b < 16) (hp : pd b ≤ 1) (hq : Q (some (nI (chg kd pd b))) h) : MC l E M_MD_changed [.inr 7, .inl (nI b)] h Q := by
  obtain ⟨v4, hv⟩ := id V
  obtain ⟨a5, a6, a7, h28, h29, h30, h31⟩ := hv hup
  have u0 : ¬ h 7 4 = 0 := by rw [v4, hup]; decide +kernel
  have eb : (nI b).toNatClampNeg = b := nI_clamp (by omega)
  have i16 : vp_in (nI b) 16 := vp_in_nI hb (by decide)
  have fin : ∀ c : Nat, c = 4 * pd b → Q (some (nI (kd b) + nI c)) h := by
    intro c e2
    rw [nI_add, e2]
    exact hq
  refine k_MD_changed_0 (fun c => absurd c u0) (fun _ c => absurd c (nnn (by omega))) (fun _ _ c => absurd c (nI_nlt (by omega) (by omega))) (fun _ _ _ => i16) (fun _ _ _ => i16) (fun _ _ _ c3 => ?_) (fun _ _ _ c3 => ?_)
  all_goals rw [eb, h30 b hb, p0 hp] at c3
  all_goals rw [eb, h28 b hb]
  · exact fin 0 (by omega)
  · exact fin 4 (by omega)
end VOLM
