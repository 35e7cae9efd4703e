/-! RECOVERY in the class -/
abbrev vs (σ : xD) (s w : Nat) : Int32 := vw σ.1 σ.2.2.1 σ.2.2.2 s w σ.2.1
abbrev hgood (v : Nat → Nat → Int32) : Prop := v 16 0 = nI 77001 ∧ ¬ v 16 2 < 0 ∧ v 16 2 < nI 24
def hP (v : Nat → Nat → Int32) : Nat := if hgood v then (v 16 2).toNatClampNeg else 0
def hQ (v : Nat → Nat → Int32) : Nat := if hgood v then (v 16 1).toNatClampNeg else 1
def LG (v : Nat → Nat → Int32) : Nat → Nat → Int32 := fun a w => v (17 + (hP v + a) % 24) w
theorem hP_lt (v : Nat → Nat → Int32) : hP v < 24 := by
  unfold hP
  split
  · next c =>
    rcases ixI (v 16 2) 24 (by decide) with q | q | ⟨j, hj, e⟩
    · exact absurd q c.2.1
    · exact absurd c.2.2 (Int32.not_lt.mpr q)
    · rw [e, nI_clamp (by omega)]; exact hj
  · omega
def pt4 (L : Nat → Nat → Int32) (q0 : Nat) : Nat → Nat := fun k => if k = (RL L q0).length + 1 then 16 else bk L ((RL L q0).getD k (0, 0, 0))
def pq4 (L : Nat → Nat → Int32) (p0 q0 : Nat) : Nat → Int32 := fun i => if i / 4 = (RL L q0).length + 1 then hdw (q0 + NV L q0) ((p0 + stt L q0 (NV L q0)) % 24) (i % 4) else iw L ((RL L q0).getD (i / 4) (0, 0, 0)) (i % 4)
theorem pt4_lt {L : Nat → Nat → Int32} {q0 k : Nat} : pt4 L q0 k < 41 := by
  unfold pt4
  split
  · omega
  · have := bk_lt L ((RL L q0).getD k (0, 0, 0)); omega
/-- the reader behind t valid transactions -/
def rdS (L : Nat → Nat → Int32) (p0 q0 t : Nat) (h : xh) : Prop := lgC L (h 17) ∧ h 5 6 = nI p0 ∧ h 5 7 = nI (q0 + t) ∧ h 5 8 = nI (stt L q0 t) ∧ h 5 9 = nI (img L q0 t).length ∧ IA L (img L q0 t) h ∧ ∀ b, b < 16 → h 22 b = nI (rvk L q0 b t) - nI 1
theorem IA_pre {L : Nat → Nat → Int32} {X Y : List xI3} {f18 f19 f20 f21 : Nat → Int32} (h : ia L (X ++ Y) f18 f19 f20 f21) : ia L X f18 f19 f20 f21 := by
  intro i hi
  have := h i (by rw [List.length_append]; omega)
  rw [show (X ++ Y).getD i (0, 0, 0) = X.getD i (0, 0, 0) by simp [List.getD_eq_getElem?_getD, List.getElem?_append_left hi]] at this
  exact this
def prd : Nat → Nat → Bool := pc [5, 17, 18, 19, 20, 21, 22]
theorem fr.prd {S : List Nat} {h h1 : xh} (a : fr (plr S) h h1) : fr prd h h1 := a.mono (fun k j q => by
  unfold plr
  have q1 : (pc [5, 17, 18, 19, 20, 21, 22]) k j = false := q
  unfold pc at q1 ⊢
  rw [Bool.or_eq_false_iff]
  refine ⟨?_, ?_⟩
  · cases h1 : Nat.beq k 18 <;> cases h2 : Nat.beq k 19 <;> cases h3 : Nat.beq k 20 <;> cases h4 : Nat.beq k 21 <;> simp_all
  · cases h1 : Nat.beq k 5 <;> simp_all)
section RDC2
variable {l : Launch} {E : xE} {h : xh} {Q : Option Int32 → xh → Prop} {L : Nat → Nat → Int32}
theorem s_passRevocations {q a : Nat} {s : Int32} (hL : lgC L (h 17)) (h7 : h 5 7 = nI q) (h10 : h 5 10 = nI a) (ha : a ≤ 24) (h11 : h 5 11 = s) (hq : ∀ h', fr (p5 [10, 11]) h h' → h' 5 10 = nI (if own L q a 2 then a + 1 else a) → h' 5 11 = (if own L q a 2 then mx4 s (L a) else s) → Q (some (if own L q a 2 then L a 3 else nI 0)) h') : MC l E M_LR_passRevocations [.inr 5] h Q := by
  refine k_LR_passRevocations_0 ?_
  refine s_isOwn hL h7 h10 ha ?_
  by_cases ow : own L q a 2
  · have h24 : a < 24 := ow.1
    have ew : nI a * nI 4 + nI 3 = nI (4 * a + 3) := by rw [pk_mul, nI_add, show a * 4 + 3 = 4 * a + 3 by omega]
    have z3 : h 17 ((h 5 10 * nI 4 + nI 3).toNatClampNeg) = L a 3 := by rw [h10, ew, nI_clamp (by omega)]; exact hL a h24 3 (by omega)
    have ne : ¬ nI 1 = 0 := by decide +kernel
    rw [if_pos ow]
    refine k_LR_passRevocations_5 (fun _ => by rw [h10, ew]; exact vp_in_nI (by omega) (by decide)) (fun _ => ?_) (fun c => absurd c ne)
    rw [z3]
    refine s_passSector hL h10 h24 h11 (fun h1 f b1 b2 => ?_)
    refine k_LR_passRevocations_24 ?_
    have := hq h1 f
    rw [if_pos ow, if_pos ow, if_pos ow] at this
    exact this b1 b2
  · rw [if_neg ow]
    refine k_LR_passRevocations_5 (fun c => absurd nI_0 c) (fun c => absurd nI_0 c) (fun _ => ?_)
    have := hq h fr.rf
    rw [if_neg ow, if_neg ow, if_neg ow] at this
    exact this h10 h11
theorem s_takeTransaction {p0 q0 t : Nat} (R : rdS L p0 q0 t h) (hst : stt L q0 t ≤ 24) (hq0 : q0 + t < 2 ^ 30) (ht : t < 24)
    (hno : ¬ tv L (q0 + t) (stt L q0 t) → ∀ h', fr prd h h' → rdS L p0 q0 t h' → Q (some (nI 0)) h') (hyes : tv L (q0 + t) (stt L q0 t) → ∀ h', fr prd h h' → rdS L p0 q0 (t + 1) h' → Q (some (nI 1)) h') : MC l E M_LR_takeTransaction [.inr 5, .inl (nI t)] h Q := by
  obtain ⟨hL, r6, r7, r8, r9, rA, r22⟩ := R
  have hlen := img_len (L := L) (q0 := q0) t
  refine k_LR_takeTransaction_0 ?_
  rw [r8, r7, r9]
  generalize hh : hw (hw (hw h 5 10 (nI (stt L q0 t))) 5 11 (nI (q0 + t))) 5 12 (nI (img L q0 t).length) = h0
  have g0 : fr (p5 [10, 11, 12]) h h0 := by rw [← hh]; exact ((fr.rf.hw rfl).hw rfl).hw rfl
  have e10 : h0 5 10 = nI (stt L q0 t) := by rw [← hh, hwk, upi, if_neg (by decide), hwk, upi, if_neg (by decide), hwk, upi, if_pos rfl]
  have e11 : h0 5 11 = nI (q0 + t) := by rw [← hh, hwk, upi, if_neg (by decide), hwk, upi, if_pos rfl]
  have e12 : h0 5 12 = nI (img L q0 t).length := by rw [← hh, hwk, upi, if_pos rfl]
  have A0 : IA L (img L q0 t) h0 := by
    show ia L _ (h0 18) (h0 19) (h0 20) (h0 21)
    rw [g0.cell 18 (fun _ => rfl), g0.cell 19 (fun _ => rfl), g0.cell 20 (fun _ => rfl), g0.cell 21 (fun _ => rfl)]
    exact rA
  refine s_passGroups (q := q0 + t) (t := t) (by rw [g0.cell 17 (fun _ => rfl)]; exact hL) (by rw [g0 5 7 rfl]; exact r7) e10 hst e11 e12 hlen A0 (fun h1 f1 b1 b2 b3 b4 => ?_)
  have hga := pgA_le (L := L) (q := q0 + t) 24 (stt L q0 t) hst
  have hL1 : lgC L (h1 17) := by rw [f1.cell 17 (fun _ => rfl), g0.cell 17 (fun _ => rfl)]; exact hL
  have z71 : h1 5 7 = nI (q0 + t) := by rw [f1 5 7 rfl, g0 5 7 rfl]; exact r7
  refine k_LR_takeTransaction_29 ?_
  refine s_passRevocations hL1 z71 b1 hga b2 (fun h2 f2 d1 d2 => ?_)
  have d1 : h2 5 10 = nI (tA L (q0 + t) (stt L q0 t)) := d1
  have d2 : h2 5 11 = tH L (q0 + t) (stt L q0 t) := d2
  show WP l E M_LR_takeTransaction 33 [(0, .inr 5), (1, .inl (nI t))] [.inl (tR L (q0 + t) (stt L q0 t))] h2 Q
  have hL2 : lgC L (h2 17) := by rw [f2.cell 17 (fun _ => rfl)]; exact hL1
  have z72 : h2 5 7 = nI (q0 + t) := by rw [f2 5 7 rfl]; exact z71
  have hta : tA L (q0 + t) (stt L q0 t) ≤ 24 := by
    unfold tA
    split
    · next c => have : pgA L (q0 + t) 24 (stt L q0 t) < 24 := c.1; omega
    · exact hga
  refine k_LR_takeTransaction_33 ?_
  refine s_isOwn hL2 z72 d1 hta ?_
  have ft : fr prd h h2 := ((g0.lr (S' := [10, 11, 12]) rfl).prd.tr f1.prd).tr (f2.lr (S' := [10, 11]) rfl).prd
  have tt6 : h2 5 6 = h 5 6 := by rw [f2 5 6 rfl, f1 5 6 rfl, g0 5 6 rfl]
  have tt8 : h2 5 8 = h 5 8 := by rw [f2 5 8 rfl, f1 5 8 rfl, g0 5 8 rfl]
  have tt9 : h2 5 9 = h 5 9 := by rw [f2 5 9 rfl, f1 5 9 rfl, g0 5 9 rfl]
  have A2 : IA L (img L q0 (t + 1)) h2 := by
    show ia L _ (h2 18) (h2 19) (h2 20) (h2 21)
    rw [f2.cell 18 (fun _ => rfl), f2.cell 19 (fun _ => rfl), f2.cell 20 (fun _ => rfl), f2.cell 21 (fun _ => rfl)]
    exact b4
  have z22 : ∀ b, b < 16 → h2 22 b = nI (rvk L q0 b t) - nI 1 := fun b hb => by rw [f2 22 b rfl, f1 22 b rfl, g0 22 b rfl]; exact r22 b hb
  have R2 : rdS L p0 q0 t h2 := ⟨hL2, by rw [tt6]; exact r6, z72, by rw [tt8]; exact r8, by rw [tt9]; exact r9, IA_pre A2, z22⟩
  by_cases ow : own L (q0 + t) (tA L (q0 + t) (stt L q0 t)) 3
  · have h24 := ow.1
    have ew : nI (tA L (q0 + t) (stt L q0 t)) * nI 4 + nI 3 = nI (4 * tA L (q0 + t) (stt L q0 t) + 3) := by rw [pk_mul, nI_add, show tA L (q0 + t) (stt L q0 t) * 4 + 3 = 4 * tA L (q0 + t) (stt L q0 t) + 3 by omega]
    have z3 : h2 17 ((h2 5 10 * nI 4 + nI 3).toNatClampNeg) = L (tA L (q0 + t) (stt L q0 t)) 3 := by rw [d1, ew, nI_clamp (by omega)]; exact hL2 _ h24 3 (by omega)
    have ne : ¬ nI 1 = 0 := by decide +kernel
    rw [if_pos ow]
    refine k_LR_takeTransaction_39 (fun c => absurd c ne) (fun _ => by rw [d1, ew]; exact vp_in_nI (by omega) (by decide)) (fun _ c => ?_) (fun _ c => hno (fun v => c (by rw [z3, d2]; exact v.2)) h2 ft R2)
    rw [z3, d2] at c
    have val : tv L (q0 + t) (stt L q0 t) := ⟨ow, c⟩
    have key : ∀ (j i : Nat) (h' : xh), i + j = 16 → fr (pc [22]) h2 h' → (∀ b, b < 16 → h' 22 b = nI (if b < i then rvk L q0 b (t + 1) else rvk L q0 b t) - nI 1) → WP l E M_LR_takeTransaction 62 [(0, .inr 5), (1, .inl (nI t)), (2, .inl (tR L (q0 + t) (stt L q0 t))), (3, .inl (nI i))] [] h' Q := by
      intro j
      induction j with
      | zero =>
        intro i h' hi f y
        have ei : i = 16 := by omega
        subst ei
        have c0 : nI 16 ≤ nI 16 := nI_le (Nat.le_refl 16) (by decide)
        refine k_LR_takeTransaction_62 (fun _ => ?_) (fun c => absurd c0 c) (fun c => absurd c0 c) (fun c => absurd c0 c)
        have fl : fr prd h2 h' := f.up (L' := [5, 17, 18, 19, 20, 21, 22]) rfl
        refine hyes val _ (((ft.tr fl).hw rfl).hw rfl |>.hw rfl) ⟨?_, ?_, ?_, ?_, ?_, ?_, fun b hb => ?_⟩
        · rw [hwa (by decide), hwa (by decide), hwa (by decide), f.cell 17 (fun _ => rfl)]; exact hL2
        · rw [hwk, upi, if_neg (by decide), hwk, upi, if_neg (by decide), hwk, upi, if_neg (by decide), f 5 6 rfl, tt6]; exact r6
        · rw [hwk, upi, if_pos rfl, f 5 7 rfl, z72, nI_add, Nat.add_assoc]
        · rw [hwk, upi, if_neg (by decide), hwk, upi, if_neg (by decide), hwk, upi, if_pos rfl, f 5 10 rfl, d1, nI_add]; rfl
        · rw [hwk, upi, if_neg (by decide), hwk, upi, if_pos rfl, f 5 12 rfl, f2 5 12 rfl]; exact b3
        · show ia L _ _ _ _ _
          rw [hwa (by decide), hwa (by decide), hwa (by decide), hwa (by decide), hwa (by decide), hwa (by decide), hwa (by decide), hwa (by decide), hwa (by decide), hwa (by decide), hwa (by decide), hwa (by decide), f.cell 18 (fun _ => rfl), f.cell 19 (fun _ => rfl), f.cell 20 (fun _ => rfl), f.cell 21 (fun _ => rfl)]
          exact A2
        · rw [hwa (by decide), hwa (by decide), hwa (by decide), y b hb, if_pos hb]
      | succ j ih =>
        intro i h' hi f y
        have hi16 : i < 16 := by omega
        have c0 : ¬ nI 16 ≤ nI i := nI_ge hi16 (by decide)
        refine k_LR_takeTransaction_62 (fun c => absurd c c0) (fun _ c => ?_) (fun _ _ => vp_in_nI hi16 (by decide)) (fun _ c => ?_)
        · have c : ¬ bt (tR L (q0 + t) (stt L q0 t)) i = true := fun z => c ((bush (by omega)).mpr z)
          rw [nI_add]
          refine ih (i + 1) h' (by omega) f (fun b hb => ?_)
          rw [y b hb]
          by_cases e : b = i
          · subst e
            rw [if_neg (by omega), if_pos (by omega)]
            unfold rvk
            rw [if_neg c]
            cases t <;> rfl
          · by_cases e2 : b < i
            · rw [if_pos e2, if_pos (by omega)]
            · rw [if_neg e2, if_neg (by omega)]
        · rw [bush (by omega)] at c
          rw [nI_add, nI_clamp (by omega)]
          refine ih (i + 1) _ (by omega) (f.hw rfl) (fun b hb => ?_)
          rw [hwk, upi]
          by_cases e : b = i
          · subst e
            rw [if_pos rfl, if_pos (by omega)]
            unfold rvk
            rw [if_pos c, npred]
          · rw [if_neg e, y b hb]
            by_cases e2 : b < i
            · rw [if_pos e2, if_pos (by omega)]
            · rw [if_neg e2, if_neg (by omega)]
    refine key 16 0 h2 (by omega) fr.rf (fun b hb => ?_)
    rw [if_neg (by omega)]; exact z22 b hb
  · rw [if_neg ow]
    exact k_LR_takeTransaction_39 (fun _ => hno (fun v => ow v.1) h2 ft R2) (fun c => absurd nI_0 c) (fun c => absurd nI_0 c) (fun c => absurd nI_0 c)
theorem s_takeHead {σ : xD} {m : Nat} (D : DCt σ h) (hm : vs σ 16 1 = nI m) (hm2 : m < 2 ^ 30) (hq : ∀ h', fr (p5 [6, 7]) h h' → h' 5 6 = nI (hP (vs σ)) → h' 5 7 = nI (hQ (vs σ)) → Q none h') : MC l E M_LR_takeHead [.inr 5, .inr 1] h Q := by
  refine k_LR_takeHead_0 ?_
  refine s_newest D (by decide) (by decide) ?_
  refine k_LR_takeHead_8 ?_
  have g1 : fr (p5 [6, 7]) h (hw h 5 6 (vs σ 16 2)) := fr.rf.hw rfl
  refine s_newest (DC.fr D g1 rfl (fun _ => rfl) (fun _ => rfl) (fun _ => rfl)) (by decide) (by decide) ?_
  refine k_LR_takeHead_19 ?_
  have g2 : fr (p5 [6, 7]) h (hw (hw h 5 6 (vs σ 16 2)) 5 7 (vs σ 16 1)) := g1.hw rfl
  refine s_newest (DC.fr D g2 rfl (fun _ => rfl) (fun _ => rfl) (fun _ => rfl)) (by decide) (by decide) ?_
  have e6 : hw (hw h 5 6 (vs σ 16 2)) 5 7 (vs σ 16 1) 5 6 = vs σ 16 2 := by rw [hwk, upi, if_neg (by decide), hwk, upi, if_pos rfl]
  have e7 : hw (hw h 5 6 (vs σ 16 2)) 5 7 (vs σ 16 1) 5 7 = vs σ 16 1 := by rw [hwk, upi, if_pos rfl]
  have bad : ¬ hgood (vs σ) → Q none (hw (hw (hw (hw h 5 6 (vs σ 16 2)) 5 7 (vs σ 16 1)) 5 6 (nI 0)) 5 7 (nI 1)) := by
    intro c
    refine hq _ ((g2.hw rfl).hw rfl) ?_ ?_
    · unfold hP; rw [if_neg c, hwk, upi, if_neg (by decide), hwk, upi, if_pos rfl]
    · unfold hQ; rw [if_neg c, hwk, upi, if_pos rfl]
  refine k_LR_takeHead_29 (fun c => bad (fun g => c g.1)) (fun c c2 => bad (fun g => ?_)) (fun c c2 c3 => ?_) (fun c c2 c3 => bad (fun g => ?_))
  · rw [e6] at c2; exact g.2.1 c2
  · rw [e6] at c2 c3
    have g : hgood (vs σ) := ⟨c, c2, c3⟩
    obtain ⟨j, hj, ej⟩ : ∃ j, j < 24 ∧ vs σ 16 2 = nI j := by
      rcases ixI (vs σ 16 2) 24 (by decide) with q | q | q
      · exact absurd q c2
      · exact absurd c3 (Int32.not_lt.mpr q)
      · exact q
    refine hq _ g2 ?_ ?_
    · rw [e6]; unfold hP; rw [if_pos g, ej, nI_clamp (by omega)]
    · rw [e7]; unfold hQ; rw [if_pos g, hm, nI_clamp (by omega)]
  · rw [e6] at c3; exact c3 g.2.2
theorem s_takeLog {σ : xD} {p0 : Nat} (D : DCt σ h) (h6 : h 5 6 = nI p0) (hp : p0 < 24) (hq : ∀ h', fr (pc [17]) h h' → (∀ a, a < 24 → ∀ w, w < 4 → h' 17 (4 * a + w) = vs σ (17 + (p0 + a) % 24) w) → Q none h') : MC l E M_LR_takeLog [.inr 5, .inr 1] h Q := by
  refine k_LR_takeLog_0 ?_
  have key : ∀ (j i : Nat) (h' : xh), i + j = 24 → fr (pc [17]) h h' → (∀ a, a < i → ∀ w, w < 4 → h' 17 (4 * a + w) = vs σ (17 + (p0 + a) % 24) w) → WP l E M_LR_takeLog 2 [(0, .inr 5), (1, .inr 1), (2, .inl (nI i))] [] h' Q := by
    intro j
    induction j with
    | zero =>
      intro i h' hi f y
      have ei : i = 24 := by omega
      subst ei
      have c0 : nI 24 ≤ nI 24 := nI_le (Nat.le_refl 24) (by decide)
      exact k_LR_takeLog_2 (fun _ => hq h' f y) (fun c => absurd c0 c)
    | succ j ih =>
      intro i h' hi f y
      have hi24 : i < 24 := by omega
      have c0 : ¬ nI 24 ≤ nI i := nI_ge hi24 (by decide)
      refine k_LR_takeLog_2 (fun c => absurd c c0) (fun _ => ?_)
      have inner : ∀ (jj w : Nat) (h2 : xh), w + jj = 4 → fr (pc [17]) h h2 → (∀ a, a < i → ∀ w, w < 4 → h2 17 (4 * a + w) = vs σ (17 + (p0 + a) % 24) w) → (∀ w', w' < w → h2 17 (4 * i + w') = vs σ (17 + (p0 + i) % 24) w') → WP l E M_LR_takeLog 10 [(0, .inr 5), (1, .inr 1), (2, .inl (nI i)), (3, .inl (nI w))] [] h2 Q := by
        intro jj
        induction jj with
        | zero =>
          intro w h2 hw4 f2 z1 z2
          have ew : w = 4 := by omega
          subst ew
          have c4 : nI 4 ≤ nI 4 := nI_le (Nat.le_refl 4) (by decide)
          refine k_LR_takeLog_10 (fun _ => ?_) (fun c => absurd c4 c)
          rw [nI_add]
          refine ih (i + 1) h2 (by omega) f2 (fun a ha w hw4 => ?_)
          by_cases e : a = i
          · subst e; exact z2 w hw4
          · exact z1 a (by omega) w hw4
        | succ jj ihj =>
          intro w h2 hw4 f2 z1 z2
          have c4 : ¬ nI 4 ≤ nI w := nI_ge (by omega) (by decide)
          refine k_LR_takeLog_10 (fun c => absurd c c4) (fun _ => ?_)
          rw [f2 5 6 rfl, h6, nI_add, nrem (by omega), nI_add]
          refine s_newest (DC.fr D f2 rfl (fun _ => rfl) (fun _ => rfl) (fun _ => rfl)) (by omega) (by omega) ?_
          have ewi : nI i * nI 4 + nI w = nI (4 * i + w) := by rw [pk_mul, nI_add, show i * 4 + w = 4 * i + w by omega]
          refine k_LR_takeLog_38 (by rw [ewi]; exact vp_in_nI (by omega) (by decide)) ?_
          rw [ewi, nI_add, nI_clamp (by omega)]
          refine ihj (w + 1) _ (by omega) (f2.hw rfl) (fun a ha w' hw' => ?_) (fun w' hw' => ?_)
          · rw [hwk, upi, if_neg (by omega)]; exact z1 a ha w' hw'
          · rw [hwk, upi]
            by_cases e : w' = w
            · subst e; rw [if_pos rfl]
            · rw [if_neg (by omega)]; exact z2 w' (by omega)
      exact inner 4 0 h' (by omega) f y (fun w' hw' => absurd hw' (Nat.not_lt_zero _))
  exact key 24 0 h (by omega) fr.rf (fun a ha => absurd ha (Nat.not_lt_zero _))
theorem s_fill (hq : ∀ h', fr (pc [22]) h h' → (∀ b, b < 16 → h' 22 b = -1) → Q none h') : MC l E M_JA_fill [.inr 22, .inl (-1)] h Q := by
  refine k_JA_fill_0 ?_
  have key : ∀ (j i : Nat) (h' : xh), i + j = 16 → fr (pc [22]) h h' → (∀ b, b < i → h' 22 b = -1) → WP l E M_JA_fill 5 [(0, .inr 22), (1, .inl (-1)), (2, .inl (nI i)), (3, .inl (nI 16))] [] h' Q := by
    intro j
    induction j with
    | zero =>
      intro i h' hi f y
      have ei : i = 16 := by omega
      subst ei
      have c0 : nI 16 ≤ nI 16 := nI_le (Nat.le_refl 16) (by decide)
      exact k_JA_fill_5 (fun _ => hq h' f y) (fun c => absurd c0 c) (fun c => absurd c0 c)
    | succ j ih =>
      intro i h' hi f y
      have c0 : ¬ nI 16 ≤ nI i := nI_ge (by omega) (by decide)
      refine k_JA_fill_5 (fun c => absurd c c0) (fun _ => vp_in_nI (by omega) (by decide)) (fun _ => ?_)
      rw [nI_add, nI_clamp (by omega)]
      refine ih (i + 1) _ (by omega) (f.hw rfl) (fun b hb => ?_)
      rw [hwk, upi]
      by_cases c : b = i
      · rw [if_pos c]
      · rw [if_neg c]; exact y b (by omega)
  exact key 16 0 h (by omega) fr.rf (fun b hb => absurd hb (Nat.not_lt_zero _))
theorem s_scan {σ : xD} {m : Nat} (D : DCt σ h) (hm : vs σ 16 1 = nI m) (hm2 : m < 2 ^ 29) (hq : ∀ h', fr prd h h' → rdS (LG (vs σ)) (hP (vs σ)) (hQ (vs σ)) (NV (LG (vs σ)) (hQ (vs σ))) h' → Q none h') : MC l E M_LR_scan [.inr 5, .inr 1] h Q := by
  have hp := hP_lt (vs σ)
  have hq0 : hQ (vs σ) < 2 ^ 29 := by
    unfold hQ
    split
    · rw [hm, nI_clamp (by omega)]; exact hm2
    · decide
  refine k_LR_scan_0 ?_
  refine s_takeHead D hm (by omega) (fun h1 f1 a1 a2 => ?_)
  refine k_LR_scan_5 ?_
  refine s_takeLog (DC.fr D f1 rfl (fun _ => rfl) (fun _ => rfl) (fun _ => rfl)) a1 hp (fun h2 f2 b1 => ?_)
  refine k_LR_scan_10 ?_
  refine s_fill (fun h3 f3 c1 => ?_)
  refine k_LR_scan_18 ?_
  generalize hh : hw (hw h3 5 8 (nI 0)) 5 9 (nI 0) = h4
  have F1 : fr prd h h1 := (f1.lr (S' := [6, 7]) rfl).prd
  have F2 : fr prd h1 h2 := f2.up (L' := [5, 17, 18, 19, 20, 21, 22]) rfl
  have F3 : fr prd h2 h3 := f3.up (L' := [5, 17, 18, 19, 20, 21, 22]) rfl
  have F4 : fr prd h h4 := by rw [← hh]; exact (((F1.tr F2).tr F3).hw rfl).hw rfl
  have g4 : fr (p5 [8, 9]) h3 h4 := by rw [← hh]; exact (fr.rf.hw rfl).hw rfl
  have R0 : rdS (LG (vs σ)) (hP (vs σ)) (hQ (vs σ)) 0 h4 := by
    refine ⟨?_, ?_, ?_, ?_, ?_, fun i hi => absurd hi (Nat.not_lt_zero _), fun b hb => ?_⟩
    · rw [g4.cell 17 (fun _ => rfl), f3.cell 17 (fun _ => rfl)]; exact b1
    · rw [g4 5 6 rfl, f3 5 6 rfl, f2 5 6 rfl]; exact a1
    · rw [g4 5 7 rfl, f3 5 7 rfl, f2 5 7 rfl]; exact a2
    · rw [← hh, hwk, upi, if_neg (by decide), hwk, upi, if_pos rfl]; rfl
    · rw [← hh, hwk, upi, if_pos rfl]; rfl
    · rw [g4 22 b rfl, c1 b hb]
      show _ = nI 0 - nI 1
      decide +kernel
  have key : ∀ (j t : Nat) (h' : xh), t + j = 24 → fr prd h h' → (∀ u, u < t → tv (LG (vs σ)) (hQ (vs σ) + u) (stt (LG (vs σ)) (hQ (vs σ)) u)) → rdS (LG (vs σ)) (hP (vs σ)) (hQ (vs σ)) t h' → WP l E M_LR_scan 30 [(0, .inr 5), (1, .inr 1), (2, .inl (nI t))] [] h' Q := by
    intro j
    induction j with
    | zero =>
      intro t h' ht f hv R
      have et : t = 24 := by omega
      subst et
      have c0 : nI 24 ≤ nI 24 := nI_le (Nat.le_refl 24) (by decide)
      refine k_LR_scan_30 (fun _ => ?_) (fun c => absurd c0 c)
      have en : 24 = NV (LG (vs σ)) (hQ (vs σ)) := NV_uniq hv (fun v => by
        have h1 := tv_lt v
        have h2 := (tA_ge (L := LG (vs σ)) (q := hQ (vs σ) + 24) (a := stt (LG (vs σ)) (hQ (vs σ)) 24)).1
        have h3 := stt_ge (L := LG (vs σ)) (q0 := hQ (vs σ)) 24
        omega)
      rw [en] at R
      exact hq h' f R
    | succ j ih =>
      intro t h' ht f hv R
      have c0 : ¬ nI 24 ≤ nI t := nI_ge (by omega) (by decide)
      refine k_LR_scan_30 (fun c => absurd c c0) (fun _ => ?_)
      refine s_takeTransaction R (stt_le hv) (by omega) (by omega) (fun nv h2 f2 R2 => ?_) (fun vv h2 f2 R2 => ?_)
      · refine k_LR_scan_41 (fun c => absurd nI_0 c) (fun _ => ?_)
        have en := NV_uniq hv nv
        rw [en] at R2
        exact hq h2 (f.tr f2) R2
      · refine k_LR_scan_41 (fun _ => ?_) (fun c => absurd c (by decide +kernel))
        rw [nI_add]
        refine ih (t + 1) h2 (by omega) (f.tr f2) (fun u hu => ?_) R2
        by_cases e : u = t
        · subst e; exact vv
        · exact hv u (by omega)
  exact key 24 0 h4 (by omega) F4 (fun u hu => absurd hu (Nat.not_lt_zero _)) R0
end RDC2
