/-! THE DEVICE, the rest -/
theorem fr.up {L L' : List Nat} {h h1 : xh} (a : fr (pc L) h h1) (e : L.all (fun x => L'.elem x) = true) : fr (pc L') h h1 := by
  intro k j q
  refine a k j ?_
  unfold pc at q ⊢
  cases hk : L.elem k with
  | false => rfl
  | true =>
    have := List.all_eq_true.mp e k (by simpa using hk)
    rw [this] at q
    cases q
/-- cells of a list, and slots of the reference's own cell -/
def pm (L S : List Nat) : Nat → Nat → Bool := fun k j => L.elem k || (Nat.beq k 7 && S.elem j)
theorem fr.upm {L L' S S' : List Nat} {h h1 : xh} (a : fr (pm L S) h h1) (e : L.all (fun x => L'.elem x) = true) (e2 : S.all (fun x => S'.elem x) = true) : fr (pm L' S') h h1 := by
  intro k j q
  refine a k j ?_
  unfold pm at q ⊢
  rw [Bool.or_eq_false_iff] at q ⊢
  refine ⟨?_, ?_⟩
  · cases hk : L.elem k with
    | false => rfl
    | true =>
      have := List.all_eq_true.mp e k (by simpa using hk)
      rw [this] at q
      exact absurd q.1 (by decide)
  · cases hb : Nat.beq k 7 with
    | false => rfl
    | true =>
      rw [hb] at q
      cases hs : S.elem j with
      | false => rfl
      | true =>
        have := List.all_eq_true.mp e2 j (by simpa using hs)
        rw [this] at q
        exact absurd q.2 (by decide)
def esw (es : Nat → Nat) (n s : Nat) : Nat → Nat := fun k => if k = n then s else es k
def eww (ew : Nat → Int32) (n : Nat) (f : Nat → Int32) : Nat → Int32 := fun i => if 4 * n ≤ i then f (i - 4 * n) else ew i
def lk (mask : Int32) : Nat → Nat
  | 0 => 0
  | k + 1 => if ushr mask (nI k) &&& nI 1 = nI 1 then k + 1 else lk mask k
def lo (mask : Int32) : Nat → Nat
  | 0 => 0
  | k + 1 => if ushr mask (nI k) &&& nI 1 = nI 1 then lo mask k else lo mask k + 1
/-- a crash: the last kept entry (t is one more than its number, or 0) has m words -/
def cr (d : Nat → Int32) (es : Nat → Nat) (ew : Nat → Int32) (mask : Int32) (t m : Nat) : Nat → Nat → Int32
  | 0 => d
  | k + 1 => if ushr mask (nI k) &&& nI 1 = nI 1 then st4 (cr d es ew mask t m k) (es k) (fun j => ew (4 * k + j)) (if k + 1 = t then m else 4) else cr d es ew mask t m k
theorem lk_le (mask : Int32) : ∀ n, lk mask n ≤ n
  | 0 => Nat.le_refl 0
  | n + 1 => by
    unfold lk
    split
    · exact Nat.le_refl _
    · have := lk_le mask n; omega
theorem lo_le (mask : Int32) : ∀ n, lo mask n ≤ n
  | 0 => Nat.le_refl 0
  | n + 1 => by
    unfold lo
    have := lo_le mask n
    split <;> omega
theorem lk_non (mask : Int32) : ∀ n k, lk mask n ≤ k → k < n → ¬ ushr mask (nI k) &&& nI 1 = nI 1
  | 0, _, _, h => absurd h (Nat.not_lt_zero _)
  | n + 1, k, h1, h2 => by
    unfold lk at h1
    split at h1
    · omega
    · next c =>
      rcases Nat.lt_or_ge k n with q | q
      · exact lk_non mask n k h1 q
      · rw [show k = n by omega]; exact c
theorem cr_stay {d : Nat → Int32} {es : Nat → Nat} {ew : Nat → Int32} {mask : Int32} {t m a : Nat} : ∀ b, a ≤ b → (∀ k, a ≤ k → k < b → ¬ ushr mask (nI k) &&& nI 1 = nI 1) → cr d es ew mask t m b = cr d es ew mask t m a
  | 0, h, _ => by rw [show a = 0 by omega]
  | b + 1, h, hk => by
    rcases Nat.lt_or_ge a (b + 1) with q | q
    · unfold cr
      rw [if_neg (hk b (by omega) (by omega))]
      rw [cr_stay b (by omega) (fun k h1 h2 => hk k h1 (by omega))]
      cases a <;> rfl
    · rw [show a = b + 1 by omega]
/-- how many words the last one has -/
def wh (x : Int32) : Nat := if x < 0 then 4 else if nI 4 ≤ x then 4 else x.toNatClampNeg
theorem wh_le (x : Int32) : wh x ≤ 4 := by
  unfold wh
  rcases ixI x 4 (by decide) with h | h | ⟨j, hj, rfl⟩
  · rw [if_pos h]; exact Nat.le_refl 4
  · split
    · exact Nat.le_refl 4
    · exact Nat.le_refl 4
  · rw [if_neg (nnn (by omega))]
    split
    · exact Nat.le_refl 4
    · rw [nI_clamp (by omega)]; omega
section DEVC2
variable {l : Launch} {E : xE} {d : Nat → Int32} {n : Nat} {es : Nat → Nat} {ew : Nat → Int32} {h : xh} {Q : Option Int32 → xh → Prop}
theorem s_write {k s : Nat} (D : DC d n es ew h) (hn : n < 28) (hs : s < 41) (hk : k < 27) (hq : ∀ h', fr (pc [1, 9, 10]) h h' → DC d (n + 1) (esw es n s) (eww ew n (fun j => h 24 (4 * k + j))) h' → Q none h') : MC l E M_DV_write [.inr 1, .inl (nI s), .inr 24, .inl (nI (4 * k))] h Q := by
  obtain ⟨hn0, hn28, hd, hes, hew⟩ := D
  have e4 : (nI 4).toNatClampNeg = 4 := nI_clamp (by decide)
  have en : (nI n * nI 4).toNatClampNeg = n * 4 := by rw [pk_mul, nI_clamp (by omega)]
  have ek : (nI (4 * k)).toNatClampNeg = 4 * k := nI_clamp (by omega)
  have ei : (nI n).toNatClampNeg = n := nI_clamp (by omega)
  refine k_DV_write_0 (fun _ => nnn (by omega)) (fun _ => by rw [hn0, pk_mul]; exact nnn (by omega)) (fun _ => by rw [ek, e4]; omega) (fun _ => by rw [hn0, en, e4]; omega) (fun _ => by rw [hn0]; exact vp_in_nI (by omega) (by omega)) (fun _ => ?_) (fun c => absurd (by rw [hn0]; exact nI_lt hn (by decide)) c)
  refine hq _ (((fr.rf.hc (fun _ => rfl)).hw rfl).hw rfl) ?_
  rw [hn0]
  refine ⟨?_, by omega, fun i hi => ?_, fun j hj => ?_, fun i hi => ?_⟩
  · rw [hwk, upi, if_pos rfl, nI_add]
  · rw [hwa (by decide), hwa (by decide), hca (by decide)]; exact hd i hi
  · rw [hwa (by decide), hwk, upi, ei]
    unfold esw
    by_cases c : j = n
    · rw [if_pos c, if_pos c]; exact ⟨rfl, hs⟩
    · rw [if_neg c, if_neg c, hca (by decide)]; exact hes j (by omega)
  · rw [hwa (by decide), hwa (by decide), hck, ek, en, e4]
    unfold va_cpy eww
    by_cases c : 4 * n ≤ i
    · rw [if_pos (by omega), if_pos c, show i - n * 4 = i - 4 * n by omega]
    · rw [if_neg (by omega), if_neg c]; exact hew i (by omega)
theorem s_writeChanged {s w : Nat} {v : Int32} (D : DC d n es ew h) (hn : n < 28) (hs : s < 41) (hw4 : w < 4) (hq : ∀ h', fr (pc [1, 9, 10]) h h' → DC d (n + 1) (esw es n s) (eww ew n (fun j => if j = w then v else vw d es ew s j n)) h' → Q none h') : MC l E M_DV_writeChanged [.inr 1, .inl (nI s), .inl (nI w), .inl v] h Q := by
  have hn0 := D.1
  have en : (nI n * nI 4) = nI (n * 4) := pk_mul n 4
  refine k_DV_writeChanged_0 (fun _ => ?_) (fun c => absurd (by rw [hn0]; exact nI_lt hn (by decide)) c)
  rw [hn0, en]
  have key : ∀ (j i : Nat) (h' : xh), i + j = 4 → fr (pc [10]) h h' → DC d n es ew h' → (∀ q, q < i → h' 10 (4 * n + q) = if q = w then v else vw d es ew s q n) → WP l E M_DV_writeChanged 21 [(0, .inr 1), (1, .inl (nI s)), (2, .inl (nI w)), (3, .inl v), (4, .inl (nI (n * 4))), (5, .inl (nI i))] [] h' Q := by
    intro j
    induction j with
    | zero =>
      intro i h' hi f D' hx
      have ei : i = 4 := by omega
      subst ei
      have hn1 := D'.1
      have c0 : nI 4 ≤ nI 4 := nI_le (Nat.le_refl 4) (by decide)
      refine k_DV_writeChanged_21 (fun _ => by rw [hn1]; exact vp_in_nI (by omega) (by omega)) (fun _ => ?_) (fun c => absurd c0 c) (fun c => absurd c0 c) (fun c => absurd c0 c)
      refine hq _ (((f.up rfl).hw rfl).hw rfl) ?_
      obtain ⟨-, hn28, hd, hes, hew⟩ := D'
      rw [hn1]
      have ein : (nI n).toNatClampNeg = n := nI_clamp (by omega)
      refine ⟨?_, by omega, fun i hi => ?_, fun j hj => ?_, fun i hi => ?_⟩
      · rw [hwk, upi, if_pos rfl, nI_add]
      · rw [hwa (by decide), hwa (by decide)]; exact hd i hi
      · rw [hwa (by decide), hwk, upi, ein]
        unfold esw
        by_cases c : j = n
        · rw [if_pos c, if_pos c]; exact ⟨rfl, hs⟩
        · rw [if_neg c, if_neg c]; exact hes j (by omega)
      · rw [hwa (by decide), hwa (by decide)]
        unfold eww
        by_cases c : 4 * n ≤ i
        · rw [if_pos c]
          have := hx (i - 4 * n) (by omega)
          rw [show 4 * n + (i - 4 * n) = i by omega] at this
          exact this
        · rw [if_neg c]; exact hew i (by omega)
    | succ j ih =>
      intro i h' hi f D' hx
      have c0 : ¬ nI 4 ≤ nI i := nI_ge (by omega) (by decide)
      have ea : nI (n * 4) + nI i = nI (n * 4 + i) := nI_add _ _
      have ec : (nI (n * 4 + i)).toNatClampNeg = 4 * n + i := by rw [nI_clamp (by omega)]; omega
      have step : ∀ (z : Int32) (h2 : xh), h2 = h' → z = (if i = w then v else vw d es ew s i n) → WP l E M_DV_writeChanged 21 [(0, .inr 1), (1, .inl (nI s)), (2, .inl (nI w)), (3, .inl v), (4, .inl (nI (n * 4))), (5, .inl (nI i + nI 1))] [] (hw h2 10 ((nI (n * 4 + i)).toNatClampNeg) z) Q := by
        intro z h2 e2 ez
        subst e2
        rw [nI_add, ec]
        obtain ⟨hn1, hn28, hd, hes, hew⟩ := D'
        refine ih (i + 1) _ (by omega) (f.hw rfl) ⟨?_, hn28, fun q hq => ?_, fun q hq => ?_, fun q hq => ?_⟩ (fun q hq => ?_)
        · rw [hwa (by decide)]; exact hn1
        · rw [hwa (by decide)]; exact hd q hq
        · rw [hwa (by decide)]; exact hes q hq
        · rw [hwk, upi, if_neg (by omega)]; exact hew q hq
        · rw [hwk, upi]
          by_cases c : q = i
          · subst c; rw [if_pos rfl]; exact ez
          · rw [if_neg (by omega)]; exact hx q (by omega)
      refine k_DV_writeChanged_21 (fun c => absurd c c0) (fun c => absurd c c0) (fun _ c => ?_) (fun _ c => ?_) (fun _ c => ?_)
      · refine s_newest (s := s) (w := i) D' hs (by omega) ?_
        refine k_DV_writeChanged_53 ?_ ?_
        · rw [ea]; exact vp_in_nI (by omega) (by omega)
        · rw [ea]
          refine step _ h' rfl ?_
          rw [if_neg (fun z => c (by rw [z]))]
      · rw [ea]; exact vp_in_nI (by omega) (by omega)
      · rw [ea]
        refine step _ h' rfl ?_
        rw [if_pos (neq c (by omega) (by omega))]
  exact key 4 0 h (by omega) fr.rf D (fun q hq => absurd hq (Nat.not_lt_zero _))
theorem s_breakDown {mask whole : Int32} (D : DC d n es ew h) (hq : ∀ h', fr (pc [1, 8]) h h' → DC (cr d es ew mask (lk mask n) (wh whole) n) 0 es ew h' → Q (some (nI (lo mask n))) h') : MC l E M_DV_breakDown [.inr 1, .inl mask, .inl whole] h Q := by
  have hn0 := D.1
  have hn28 := D.2.1
  refine k_DV_breakDown_0 ?_
  -- the second loop
  have key2 : ∀ (tn : Int32) (ht : tn = 0 ∧ wh whole = 4 ∨ ¬ tn = 0 ∧ ∃ j, j < 4 ∧ whole = nI j) (j i : Nat) (h' : xh), i + j = lk mask n → fr (pc [8]) h h' → DC (cr d es ew mask (lk mask n) (wh whole) i) n es ew h' → WP l E M_DV_breakDown 61 [(0, .inr 1), (1, .inl mask), (2, .inl whole), (3, .inl (nI (lo mask n))), (4, .inl (nI (lk mask n) - nI 1)), (5, .inl tn), (6, .inl (nI i))] [] h' Q := by
    intro tn ht j
    have hlk := lk_le mask n
    induction j with
    | zero =>
      intro i h' hi f D'
      have ei : i = lk mask n := by omega
      have c0 : nI (lk mask n) - nI 1 < nI i := by
        rw [ei]
        cases hz : lk mask n with
        | zero => decide +kernel
        | succ z => rw [npred]; exact nI_lt (by omega) (by omega)
      refine k_DV_breakDown_61 (fun _ => ?_) (fun c => absurd c0 c) (fun c => absurd c0 c) (fun c => absurd c0 c) (fun c => absurd c0 c)
      refine hq _ ((f.up rfl).hw rfl) ?_
      rw [ei] at D'
      rw [cr_stay n hlk (fun k h1 h2 => lk_non mask n k h1 h2)]
      obtain ⟨-, -, hd, hes, hew⟩ := D'
      refine ⟨?_, by omega, fun i hi => ?_, fun k hk => absurd hk (Nat.not_lt_zero _), fun i hi => absurd hi (Nat.not_lt_zero _)⟩
      · rw [hwk, upi, if_pos rfl]
      · rw [hwa (by decide)]; exact hd i hi
    | succ j ih =>
      intro i h' hi f D'
      obtain ⟨t, htt⟩ : ∃ t, lk mask n = t + 1 := ⟨lk mask n - 1, by omega⟩
      have c0 : ¬ nI (lk mask n) - nI 1 < nI i := by
        rw [htt, npred]; exact nI_nlt (by omega) (by omega)
      have settle : ∀ (mm : Int32) (hk : ushr mask (nI i) &&& nI 1 = nI 1), mm = nI (if i + 1 = lk mask n then wh whole else 4) → MC l E M_DV_settle [.inr 1, .inl (nI i), .inl mm] h' (fun r h' => WP l E M_DV_breakDown 100 [(0, .inr 1), (1, .inl mask), (2, .inl whole), (3, .inl (nI (lo mask n))), (4, .inl (nI (lk mask n) - nI 1)), (5, .inl tn), (6, .inl (nI i))] (rpush r []) h' Q) := by
        intro mm hk em
        subst em
        refine s_settle D' (by omega) (by have := wh_le whole; split <;> omega) (fun h2 f2 D2 => ?_)
        refine k_DV_breakDown_100 ?_
        rw [nI_add]
        refine ih (i + 1) h2 (by omega) (f.tr f2) ?_
        have e : cr d es ew mask (lk mask n) (wh whole) (i + 1) = st4 (cr d es ew mask (lk mask n) (wh whole) i) (es i) (fun j => ew (4 * i + j)) (if i + 1 = lk mask n then wh whole else 4) := by
          show (if _ then _ else _) = _
          rw [if_pos hk]
        rw [e]
        exact D2
      refine k_DV_breakDown_61 (fun c => absurd c c0) (fun _ c => ?_) (fun _ c c5 => ?_) (fun _ c c5 c6 => ?_) (fun _ c c5 c6 => ?_)
      · rw [nI_add]
        refine ih (i + 1) h' (by omega) f ?_
        have e : cr d es ew mask (lk mask n) (wh whole) (i + 1) = cr d es ew mask (lk mask n) (wh whole) i := by
          show (if _ then _ else _) = _
          rw [if_neg c]
        rw [e]
        exact D'
      · refine settle _ c ?_
        rcases ht with ⟨-, h4⟩ | ⟨hne, -⟩
        · rw [h4]; split <;> rfl
        · exact absurd c5 hne
      · refine settle _ c ?_
        rw [if_neg (fun e => c6 (by rw [← e, npred]))]
      · refine settle _ c ?_
        rw [htt, npred] at c6
        have := neq c6 (by omega) (by omega)
        rw [if_pos (by omega)]
        rcases ht with ⟨h0, -⟩ | ⟨-, q, hq4, hq5⟩
        · exact absurd h0 c5
        · rw [hq5]; unfold wh
          rw [if_neg (nnn (by omega)), if_neg (nI_ge hq4 (by decide)), nI_clamp (by omega)]
  have key1 : ∀ (j i : Nat), i + j = n → WP l E M_DV_breakDown 8 [(0, .inr 1), (1, .inl mask), (2, .inl whole), (3, .inl (nI (lo mask i))), (4, .inl (nI (lk mask i) - nI 1)), (5, .inl (nI i))] [] h Q := by
    intro j
    induction j with
    | zero =>
      intro i hi
      have ei : i = n := by omega
      subst ei
      have c0 : nI i ≤ nI i := nI_le (Nat.le_refl i) (by omega)
      refine k_DV_breakDown_8 (fun _ c => ?_) (fun _ c c2 => ?_) (fun _ c c2 => ?_) (fun c => absurd (by rw [hn0]; exact c0) c) (fun c => absurd (by rw [hn0]; exact c0) c)
      · exact key2 _ (Or.inl ⟨nI_0, by unfold wh; rw [if_pos c]⟩) _ 0 h (Nat.zero_add _) fr.rf D
      · exact key2 _ (Or.inl ⟨nI_0, by unfold wh; rw [if_neg c, if_pos c2]⟩) _ 0 h (Nat.zero_add _) fr.rf D
      · refine key2 _ (Or.inr ⟨by decide +kernel, ?_⟩) _ 0 h (Nat.zero_add _) fr.rf D
        rcases ixI whole 4 (by decide) with q | q | q
        · exact absurd q c
        · exact absurd q c2
        · exact q
    | succ j ih =>
      intro i hi
      have c0 : ¬ nI n ≤ nI i := nI_ge (by omega) (by omega)
      refine k_DV_breakDown_8 (fun c => absurd (by rw [← hn0]; exact c) c0) (fun c => absurd (by rw [← hn0]; exact c) c0) (fun c => absurd (by rw [← hn0]; exact c) c0) (fun _ c => ?_) (fun _ c => ?_)
      · have := ih (i + 1) (by omega)
        unfold lo lk at this
        rw [if_neg c, if_neg c] at this
        rw [nI_add, nI_add]
        exact this
      · have := ih (i + 1) (by omega)
        unfold lo lk at this
        rw [if_pos c, if_pos c, npred] at this
        rw [nI_add]
        exact this
  exact key1 n 0 (Nat.zero_add _)
end DEVC2
