/-! THE ENDS OF THE JOBS, in the class -/
def pdc (kd pd : Nat → Nat) : Nat → Nat := fun b => if kd b = 1 then 1 else if kd b = 2 then 0 else pd b
def pwc (kd : Nat → Nat) (rn pw : Nat → Int32) : Nat → Int32 := fun i => if kd (i / 4) = 1 then rn i else pw i
def k00 : Nat → Nat := fun _ => 0
theorem cnt_0 {v : Nat} (hv : v ≠ 0) : ∀ n, cnt k00 v n = 0
  | 0 => rfl
  | n + 1 => by
    unfold cnt
    rw [cnt_0 hv n, if_neg (by unfold k00; omega)]
/-- what a job's end may change: the class's cells but the device's, and the job's target and words -/
def pfin : Nat → Nat → Bool := fun k j => (pc [0, 2, 3, 11, 13, 14]) k j || (Nat.beq k 6 && (Nat.beq j 2 || Nat.beq j 3 || Nat.beq j 4))
section FINC
variable {l : Launch} {E : xE} {h : xh} {Q : Option Int32 → xh → Prop}
variable {up num nx us : Nat} {kd : Nat → Nat} {rn : Nat → Int32} {pd : Nat → Nat} {pw : Nat → Int32}
theorem s_clear_r (hq : ∀ h', fr (pc [2, 11]) h h' → (∀ b, b < 16 → h' 11 b = nI 0) → h' 2 2 = nI 0 → Q none h') : MC l E M_IM_clear [.inr 2] h Q := by
  refine k_IM_clear_r_0 ?_
  have key : ∀ (j i : Nat) (h' : xh), i + j = 16 → fr (pc [2, 11]) h h' → (∀ b, b < i → h' 11 b = nI 0) → WP l E M_IM_clear 2 [(0, .inr 2), (1, .inl (nI i))] [] h' Q := by
    intro j
    induction j with
    | zero =>
      intro i h' hi f x
      have ei : i = 16 := by omega
      subst ei
      have c0 : nI 16 ≤ nI 16 := nI_le (Nat.le_refl 16) (by decide)
      refine k_IM_clear_r_2 (fun _ => ?_) (fun c => absurd c0 c) (fun c => absurd c0 c)
      refine hq _ (f.hw rfl) (fun b hb => ?_) ?_
      · rw [hwa (by decide)]; exact x b hb
      · rw [hwk, upi, if_pos rfl]
    | succ j ih =>
      intro i h' hi f x
      have c0 : ¬ nI 16 ≤ nI i := nI_ge (by omega) (by decide)
      refine k_IM_clear_r_2 (fun c => absurd c c0) (fun _ => vp_in_nI (by omega) (by decide)) (fun _ => ?_)
      rw [nI_add, nI_clamp (by omega)]
      refine ih (i + 1) _ (by omega) (f.hw rfl) (fun b hb => ?_)
      rw [hwk, upi]
      by_cases c : b = i
      · rw [if_pos c]
      · rw [if_neg c]; exact x b (by omega)
  exact key 16 0 h (by omega) fr.rf (fun b hb => absurd hb (Nat.not_lt_zero _))
theorem s_clear_p (hq : ∀ h', fr (pc [3, 13]) h h' → (∀ b, b < 16 → h' 13 b = nI 0) → h' 3 2 = nI 0 → Q none h') : MC l E M_IM_clear [.inr 3] h Q := by
  refine k_IM_clear_p_0 ?_
  have key : ∀ (j i : Nat) (h' : xh), i + j = 16 → fr (pc [3, 13]) h h' → (∀ b, b < i → h' 13 b = nI 0) → WP l E M_IM_clear 2 [(0, .inr 3), (1, .inl (nI i))] [] h' Q := by
    intro j
    induction j with
    | zero =>
      intro i h' hi f x
      have ei : i = 16 := by omega
      subst ei
      have c0 : nI 16 ≤ nI 16 := nI_le (Nat.le_refl 16) (by decide)
      refine k_IM_clear_p_2 (fun _ => ?_) (fun c => absurd c0 c) (fun c => absurd c0 c)
      refine hq _ (f.hw rfl) (fun b hb => ?_) ?_
      · rw [hwa (by decide)]; exact x b hb
      · rw [hwk, upi, if_pos rfl]
    | succ j ih =>
      intro i h' hi f x
      have c0 : ¬ nI 16 ≤ nI i := nI_ge (by omega) (by decide)
      refine k_IM_clear_p_2 (fun c => absurd c c0) (fun _ => vp_in_nI (by omega) (by decide)) (fun _ => ?_)
      rw [nI_add, nI_clamp (by omega)]
      refine ih (i + 1) _ (by omega) (f.hw rfl) (fun b hb => ?_)
      rw [hwk, upi]
      by_cases c : b = i
      · rw [if_pos c]
      · rw [if_neg c]; exact x b (by omega)
  exact key 16 0 h (by omega) fr.rf (fun b hb => absurd hb (Nat.not_lt_zero _))
theorem bt0 : ∀ i, i < 32 → bt (nI 0) i = false := by decide +kernel
theorem s_comeUp {num' nx' : Nat} (hq : ∀ h', fr (pc [0, 2, 3, 11, 13]) h h' → VC 1 num' nx' 0 k00 rn k00 pw h' → Q none h') : MC l E M_RS_comeUp [.inr 0, .inl (nI num'), .inl (nI nx')] h Q := by
  refine k_RS_comeUp_0 ?_
  refine s_clear_r (fun h1 f1 a1 a2 => ?_)
  refine k_RS_comeUp_27 ?_
  refine s_clear_p (fun h2 f2 b1 b2 => ?_)
  refine k_RS_comeUp_39 ?_
  have g0 : fr (pc [0, 2, 3, 11, 13]) h (hw (hw (hw (hw h 0 6 (nI 1)) 0 8 (nI num')) 0 9 (nI nx')) 0 10 (nI 0)) := (((fr.rf.hw rfl).hw rfl).hw rfl).hw rfl
  have g1 : fr (pc [0, 2, 3, 11, 13]) h h1 := g0.tr (f1.up rfl)
  have g2 : fr (pc [0, 2, 3, 11, 13]) h h2 := (g1.hw rfl).tr (f2.up rfl)
  have c0 : h2 0 = hw h1 0 7 (nI 0) 0 := f2.cell 0 (fun _ => rfl)
  have c1 : h1 0 = hw (hw (hw (hw h 0 6 (nI 1)) 0 8 (nI num')) 0 9 (nI nx')) 0 10 (nI 0) 0 := f1.cell 0 (fun _ => rfl)
  have e : ∀ j, h2 0 j = if j = 7 then nI 0 else if j = 10 then nI 0 else if j = 9 then nI nx' else if j = 8 then nI num' else if j = 6 then nI 1 else h 0 j := by
    intro j
    rw [c0, hwk, upi, c1, hwk, upi, hwk, upi, hwk, upi, hwk, upi]
  refine hq h2 g2 ⟨by rw [e]; rfl, fun _ => ⟨by rw [e]; rfl, by rw [e]; rfl, by rw [e]; rfl, fun i hi => ?_, ?_, ?_, fun b hb => ?_, fun b hb hk => absurd hk (by unfold k00; omega), fun b hb => b1 b hb, fun b hb hk => absurd hk (by unfold k00; omega)⟩⟩
  · rw [e, if_pos rfl, bt0 i hi]
    simp [k00]
  · rw [cnt_0 (by decide), f2 2 2 rfl, hwa (by decide)]; exact a2
  · rw [cnt_0 (by decide)]; exact b2
  · rw [f2 11 b rfl, hwa (by decide), a1 b hb]
    rfl
theorem s_finishCommit {len : Nat} (V : VC up num nx us kd rn pd pw h) (I : vi up num nx us kd pd) (hup : up = 1) (h4 : h 4 2 = nI len) (hl : us + len ≤ 23) (hq : ∀ h', fr (pc [0, 2, 3, 11, 13, 14]) h h' → VC 1 (num + 1) ((nx + len) % 24) (us + len) k00 rn (pdc kd pd) (pwc kd rn pw) h' → Q none h') : MC l E M_RS_finishCommit [.inr 0] h Q := by
  obtain ⟨v6, hv⟩ := id V
  obtain ⟨a8, a9, a10, h7, h2, h3, h11, h12, h13, h14⟩ := hv hup
  obtain ⟨hnx, hus, hnum, hkd, hpd, hcnt⟩ := I.2 hup
  refine k_RS_finishCommit_0 ?_
  rw [a9, a10, a8, h4, nI_add, nI_add, nI_add, nrem (by omega)]
  generalize hh : hw (hw (hw h 0 9 (nI ((nx + len) % 24))) 0 10 (nI (us + len))) 0 8 (nI (num + 1)) = h0
  have g0 : fr (pc [0]) h h0 := by rw [← hh]; exact ((fr.rf.hw rfl).hw rfl).hw rfl
  have e0 : ∀ j, h0 0 j = if j = 8 then nI (num + 1) else if j = 10 then nI (us + len) else if j = 9 then nI ((nx + len) % 24) else h 0 j := by
    intro j
    rw [← hh, hwk, upi, hwk, upi, hwk, upi]
  have key : ∀ (j i : Nat) (h' : xh), i + j = 16 → fr (pc [3, 13, 14]) h0 h' → (∀ b, b < 16 → h' 13 b = nI (if b < i then pdc kd pd b else pd b)) → h' 3 2 = nI (cnt (fun b => if b < i then pdc kd pd b else pd b) 1 16) → (∀ b, b < 16 → b < i → pdc kd pd b = 1 → ∀ w, w < 4 → h' 14 (4 * b + w) = pwc kd rn pw (4 * b + w)) → (∀ b, b < 16 → i ≤ b → pd b = 1 → ∀ w, w < 4 → h' 14 (4 * b + w) = pw (4 * b + w)) → WP l E M_RS_finishCommit 47 [(0, .inr 0), (1, .inl (nI i))] [] h' Q := by
    intro j
    induction j with
    | zero =>
      intro i h' hi f x1 x2 x3 x4
      have ei : i = 16 := by omega
      subst ei
      have c0 : nI 16 ≤ nI 16 := nI_le (Nat.le_refl 16) (by decide)
      refine k_RS_finishCommit_47 (fun _ => ?_) (fun c => absurd c0 c) (fun c => absurd c0 c) (fun c => absurd c0 c) (fun c => absurd c0 c) (fun c => absurd c0 c)
      refine s_clear_r (fun h1 f1 b1 b2 => ?_)
      refine k_RS_finishCommit_108 ?_
      have g1 : fr (pc [0, 2, 3, 11, 13, 14]) h h1 := ((g0.up rfl).tr (f.up rfl)).tr (f1.up rfl)
      have e1 : ∀ j, hw h1 0 7 (nI 0) 0 j = if j = 7 then nI 0 else if j = 8 then nI (num + 1) else if j = 10 then nI (us + len) else if j = 9 then nI ((nx + len) % 24) else h 0 j := by
        intro j
        rw [hwk, upi, f1 0 j rfl, f 0 j rfl, e0]
      refine hq _ (g1.hw rfl) ⟨by rw [e1]; exact v6.trans (by rw [hup]), fun _ => ⟨by rw [e1]; rfl, by rw [e1]; rfl, by rw [e1]; rfl, fun i hi => ?_, ?_, ?_, fun b hb => ?_, fun b hb hk => absurd hk (by unfold k00; omega), fun b hb => ?_, fun b hb hk w hw4 => ?_⟩⟩
      · rw [e1, if_pos rfl, bt0 i hi]
        simp [k00]
      · rw [cnt_0 (by decide), hwa (by decide)]; exact b2
      · rw [hwa (by decide), f1 3 2 rfl, x2]
        congr 1
      · rw [hwa (by decide), b1 b hb]; rfl
      · rw [hwa (by decide), f1 13 b rfl, x1 b hb, if_pos hb]
      · rw [hwa (by decide), f1 14 _ rfl]; exact x3 b hb hb hk w hw4
    | succ j ih =>
      intro i h' hi f x1 x2 x3 x4
      have hi16 : i < 16 := by omega
      have c0 : ¬ nI 16 ≤ nI i := nI_ge hi16 (by decide)
      have ei : (nI i).toNatClampNeg = i := nI_clamp (by omega)
      have i16 : vp_in (nI i) 16 := vp_in_nI hi16 (by decide)
      have z11 : h' 11 i = nI (if kd i = 1 then 1 else 0) := by rw [f 11 i rfl, g0 11 i rfl]; exact h11 i hi16
      have z7 : h' 0 7 = h 0 7 := by rw [f 0 7 rfl, e0]; rfl
      have z12 : h' 12 = h 12 := by rw [f.cell 12 (fun _ => rfl), g0.cell 12 (fun _ => rfl)]
      have z13 : h' 13 i = nI (pd i) := by rw [x1 i hi16, if_neg (by omega)]
      have hpi := hpd i hi16
      have bb : (ushr (h' 0 7) (nI i)) &&& nI 1 = nI 1 ↔ kd i = 2 := by
        rw [z7, bush (by omega), h7 i (by omega)]
        simp [hi16]
      -- the step, by what block i has become
      have step : ∀ (h2 : xh), fr (pc [3, 13, 14]) h' h2 → (∀ b, b < 16 → b ≠ i → h2 13 b = h' 13 b) → h2 13 i = nI (pdc kd pd i) → h2 3 2 = nI (cnt (upN (fun b => if b < i then pdc kd pd b else pd b) i (pdc kd pd i)) 1 16) → (∀ q, q < 4 * i ∨ 4 * i + 4 ≤ q → h2 14 q = h' 14 q) → (pdc kd pd i = 1 → ∀ w, w < 4 → h2 14 (4 * i + w) = pwc kd rn pw (4 * i + w)) → WP l E M_RS_finishCommit 47 [(0, .inr 0), (1, .inl (nI i + nI 1))] [] h2 Q := by
        intro h2 f2 y1 y2 y3 y4 y5
        rw [nI_add]
        have efun : (fun b => if b < i + 1 then pdc kd pd b else pd b) = upN (fun b => if b < i then pdc kd pd b else pd b) i (pdc kd pd i) := by
          funext b
          unfold upN
          by_cases c : b = i
          · rw [if_pos c, c, if_pos (by omega)]
          · rw [if_neg c]
            show (if b < i + 1 then pdc kd pd b else pd b) = if b < i then pdc kd pd b else pd b
            by_cases c2 : b < i
            · rw [if_pos c2, if_pos (by omega)]
            · rw [if_neg c2, if_neg (by omega)]
        refine ih (i + 1) h2 (by omega) (f.tr f2) (fun b hb => ?_) (by rw [efun]; exact y3) (fun b hb hbi hk w hw4 => ?_) (fun b hb hbi hk w hw4 => ?_)
        · by_cases c : b = i
          · subst c; rw [if_pos (by omega)]; exact y2
          · rw [y1 b hb c, x1 b hb]
            by_cases c2 : b < i
            · rw [if_pos c2, if_pos (by omega)]
            · rw [if_neg c2, if_neg (by omega)]
        · by_cases c : b = i
          · subst c; exact y5 hk w hw4
          · rw [y4 _ (by omega)]; exact x3 b hb (by omega) hk w hw4
        · rw [y4 _ (by omega)]; exact x4 b hb (by omega) hk w hw4
      have ecnt := cnt_up (f := fun b => if b < i then pdc kd pd b else pd b) (b := i) (x := pdc kd pd i) (v := 1) 16 hi16
      rw [show (if i < i then pdc kd pd i else pd i) = pd i from if_neg (by omega)] at ecnt
      have hcl := cnt_le (fun b => if b < i then pdc kd pd b else pd b) 1 16
      refine k_RS_finishCommit_47 (fun c => absurd c c0) (fun _ => i16) (fun _ => by rw [ei, z11]; exact k01) (fun _ c c2 => ?_) (fun _ c c2 => ?_) (fun _ c => ?_)
      · rw [ei, z11, k0] at c
        have c2 : ¬ kd i = 2 := fun z => c2 (bb.mpr z)
        have ep : pdc kd pd i = pd i := by unfold pdc; rw [if_neg c, if_neg c2]
        rw [ep] at step ecnt
        refine step h' fr.rf (fun _ _ _ => rfl) z13 ?_ (fun _ _ => rfl) (fun hk w hw4 => ?_)
        · rw [x2]; congr 1; omega
        · rw [x4 i hi16 (Nat.le_refl i) hk w hw4]
          unfold pwc
          rw [show (4 * i + w) / 4 = i by omega, if_neg c]
      · rw [ei, z11, k0] at c
        have c2 := bb.mp c2
        have ep : pdc kd pd i = 0 := by unfold pdc; rw [if_neg c, if_pos c2]
        rw [ep] at step ecnt
        refine k_IM_drop_p_0 i16 (fun d => ?_) (fun _ => i16) (fun d => ?_)
        · rw [ei, z13, p0 hpi] at d
          refine k_RS_finishCommit_95 (step h' fr.rf (fun _ _ _ => rfl) (by rw [z13]; congr 1; omega) ?_ (fun _ _ => rfl) (fun hk => absurd hk (by decide)))
          rw [x2]; congr 1
          rw [if_neg d] at ecnt
          simp at ecnt
          omega
        · rw [ei, z13, p0 hpi] at d
          have d : pd i = 1 := by omega
          refine k_RS_finishCommit_95 ?_
          rw [ei]
          refine step _ ((fr.rf.hw rfl).hw rfl) (fun b hb hne => ?_) ?_ ?_ (fun q _ => ?_) (fun hk => absurd hk (by decide))
          · rw [hwa (by decide), hwk, upi, if_neg hne]
          · rw [hwa (by decide), hwk, upi, if_pos rfl]
          · rw [hwk, upi, if_pos rfl, x2]
            rw [if_pos d] at ecnt
            simp at ecnt
            rw [nsub (by omega)]
            congr 1
            omega
          · rw [hwa (by decide), hwa (by decide)]
      · rw [ei, z11, k0] at c
        have c : kd i = 1 := Classical.byContradiction c
        have ep : pdc kd pd i = 1 := by unfold pdc; rw [if_pos c]
        rw [ep] at step ecnt
        have e4 : nI i * nI 4 = nI (4 * i) := by rw [pk_mul, Nat.mul_comm]
        have c4 : (nI (4 * i)).toNatClampNeg = 4 * i := nI_clamp (by omega)
        have cc4 : (nI 4).toNatClampNeg = 4 := nI_clamp (by decide)
        have words : ∀ w, w < 4 → va_cpy (h' 12) (h' 14) (4 * i) (4 * i) 4 (4 * i + w) = pwc kd rn pw (4 * i + w) := by
          intro w hw4
          unfold va_cpy pwc
          rw [if_pos (by omega), show (4 * i + w) / 4 = i by omega, if_pos c, show 4 * i + (4 * i + w - 4 * i) = 4 * i + w by omega, z12]
          exact h12 i hi16 c w hw4
        refine k_IM_copyFrom_p_0 (by rw [e4]; exact nnn (by omega)) (by rw [e4]; exact nnn (by omega)) (by rw [e4, c4, cc4]; omega) (by rw [e4, c4, cc4]; omega) ?_
        have q13 : hc h' 12 14 (nI i * nI 4) (nI i * nI 4) (nI 4) 13 = h' 13 := hca (by decide)
        have q14 : hc h' 12 14 (nI i * nI 4) (nI i * nI 4) (nI 4) 14 = va_cpy (h' 12) (h' 14) (4 * i) (4 * i) 4 := by rw [hck, e4, c4, cc4]
        refine k_IM_hold_p_0 i16 (fun d => ?_) (fun _ => i16) (fun d => ?_)
        · rw [ei, q13, z13] at d
          have d : pd i = 1 := Classical.byContradiction (fun z => d ((p0 hpi).mpr z))
          refine k_IM_copyFrom_p_23 (k_RS_finishCommit_76 ?_)
          refine step _ (fr.rf.hc (fun _ => rfl)) (fun b hb hne => by rw [q13]) ?_ ?_ (fun q hq => ?_) (fun _ w hw4 => ?_)
          · rw [q13, z13, d]
          · rw [hca (by decide), x2]; congr 1
            rw [if_pos d] at ecnt
            simp at ecnt
            omega
          · rw [q14]; unfold va_cpy; rw [if_neg (by omega)]
          · rw [q14]; exact words w hw4
        · rw [ei, q13, z13, p0 hpi] at d
          refine k_IM_copyFrom_p_23 (k_RS_finishCommit_76 ?_)
          rw [ei]
          refine step _ (((fr.rf.hc (fun _ => rfl)).hw rfl).hw rfl) (fun b hb hne => ?_) ?_ ?_ (fun q hq => ?_) (fun _ w hw4 => ?_)
          · rw [hwa (by decide), hwk, upi, if_neg hne, q13]
          · rw [hwa (by decide), hwk, upi, if_pos rfl]
          · rw [hwk, upi, if_pos rfl, hca (by decide), x2, nI_add]
            congr 1
            rw [if_neg d] at ecnt
            simp at ecnt
            omega
          · rw [hwa (by decide), hwa (by decide), q14]; unfold va_cpy; rw [if_neg (by omega)]
          · rw [hwa (by decide), hwa (by decide), q14]; exact words w hw4
  refine key 16 0 h0 (by omega) fr.rf (fun b hb => ?_) ?_ (fun b _ hb => absurd hb (Nat.not_lt_zero _)) (fun b hb _ hk w hw4 => ?_)
  · rw [g0 13 b rfl, if_neg (by omega)]; exact h13 b hb
  · rw [g0 3 2 rfl, h3]
    rfl
  · rw [g0 14 _ rfl]; exact h14 b hb hk w hw4
/-- the end of a commit -/
theorem s_finish2 {dn tot len : Nat} {pt : Nat → Nat} {pq : Nat → Int32} (J : JR 2 dn tot pt pq h) (V : VC up num nx us kd rn pd pw h) (I : vi up num nx us kd pd) (hup : up = 1) (h4 : h 4 2 = nI len) (hl : us + len ≤ 23) (hq : ∀ h', fr pfin h h' → J0 h' → VC 1 (num + 1) ((nx + len) % 24) (us + len) k00 rn (pdc kd pd) (pwc kd rn pw) h' → Q none h') : MC l E M_RS_finishJob [.inr 0] h Q := by
  have j2 : h 6 2 = nI 2 := J.1
  refine k_RS_finishJob_0 (fun c => absurd j2 c) (fun c => absurd j2 c) (fun _ => ?_)
  have g : fr (fun k j => Nat.beq k 6 && (Nat.beq j 2 || Nat.beq j 3 || Nat.beq j 4)) h (hw (hw (hw h 6 2 (nI 0)) 6 3 (nI 0)) 6 4 (nI 0)) := ((fr.rf.hw rfl).hw rfl).hw rfl
  refine s_finishCommit (VC.fr V g (fun _ => rfl) rfl rfl (fun _ => rfl) (fun _ => rfl) (fun _ => rfl) (fun _ => rfl)) I hup (by rw [g 4 2 rfl]; exact h4) hl (fun h' f V' => ?_)
  refine k_RS_finishJob_24 (hq h' ((g.mono (fun k j q => (Bool.or_eq_false_iff.mp q).2)).tr (f.mono (fun k j q => (Bool.or_eq_false_iff.mp q).1))) ?_ V')
  refine ⟨?_, ?_, ?_⟩
  · rw [f 6 2 rfl, hwk, upi, if_neg (by decide), hwk, upi, if_neg (by decide), hwk, upi, if_pos rfl]; exact nI_0
  · rw [f 6 3 rfl, hwk, upi, if_neg (by decide), hwk, upi, if_pos rfl]; exact nI_0
  · rw [f 6 4 rfl, hwk, upi, if_pos rfl]; exact nI_0
/-- the end of a checkpoint -/
theorem s_finish3 {dn tot : Nat} {pt : Nat → Nat} {pq : Nat → Int32} (J : JR 3 dn tot pt pq h) (V : VC up num nx us kd rn pd pw h) (hup : up = 1) (hq : ∀ h', fr pfin h h' → J0 h' → VC 1 num nx 0 kd rn k00 pw h' → Q none h') : MC l E M_RS_finishJob [.inr 0] h Q := by
  have j2 : h 6 2 = nI 3 := J.1
  have n2 : ¬ nI 3 = nI 2 := by decide +kernel
  refine k_RS_finishJob_0 (fun _ c => absurd j2 c) (fun _ _ => ?_) (fun c => absurd (by rw [← j2]; exact c) n2)
  have g : fr (fun k j => Nat.beq k 6 && (Nat.beq j 2 || Nat.beq j 3 || Nat.beq j 4)) h (hw (hw (hw h 6 2 (nI 0)) 6 3 (nI 0)) 6 4 (nI 0)) := ((fr.rf.hw rfl).hw rfl).hw rfl
  refine s_clear_p (fun h1 f b1 b2 => ?_)
  refine k_RS_finishJob_39 ?_
  have g2 : fr pfin h h1 := (g.mono (fun k j q => (Bool.or_eq_false_iff.mp q).2)).tr ((f.up (L' := [0, 2, 3, 11, 13, 14]) rfl).mono (fun k j q => (Bool.or_eq_false_iff.mp q).1))
  obtain ⟨v6, hv⟩ := V
  obtain ⟨a8, a9, a10, h7, h2, h3, h11, h12, h13, h14⟩ := hv hup
  have t : ∀ k j, (Nat.beq k 6 && (Nat.beq j 2 || Nat.beq j 3 || Nat.beq j 4)) = false → (pc [3, 13]) k j = false → h1 k j = h k j := fun k j q1 q2 => (f k j q2).trans (g k j q1)
  refine hq _ (g2.hw rfl) ⟨?_, ?_, ?_⟩ ⟨?_, fun _ => ⟨?_, ?_, ?_, fun i hi => ?_, ?_, ?_, fun b hb => ?_, fun b hb hk w hw4 => ?_, fun b hb => ?_, fun b hb hk => absurd hk (by unfold k00; omega)⟩⟩
  · rw [hwa (by decide), f 6 2 rfl, hwk, upi, if_neg (by decide), hwk, upi, if_neg (by decide), hwk, upi, if_pos rfl]; exact nI_0
  · rw [hwa (by decide), f 6 3 rfl, hwk, upi, if_neg (by decide), hwk, upi, if_pos rfl]; exact nI_0
  · rw [hwa (by decide), f 6 4 rfl, hwk, upi, if_pos rfl]; exact nI_0
  · rw [hwk, upi, if_neg (by decide), t 0 6 rfl rfl, v6, hup]
  · rw [hwk, upi, if_neg (by decide), t 0 8 rfl rfl]; exact a8
  · rw [hwk, upi, if_neg (by decide), t 0 9 rfl rfl]; exact a9
  · rw [hwk, upi, if_pos rfl]
  · rw [hwk, upi, if_neg (by decide), t 0 7 rfl rfl]; exact h7 i hi
  · rw [hwa (by decide), t 2 2 rfl rfl]; exact h2
  · rw [cnt_0 (by decide), hwa (by decide)]; exact b2
  · rw [hwa (by decide), t 11 b rfl rfl]; exact h11 b hb
  · rw [hwa (by decide), t 12 _ rfl rfl]; exact h12 b hb hk w hw4
  · rw [hwa (by decide)]; exact b1 b hb
/-- the end of a recovery -/
theorem s_finish4 {dn tot num' p4 v4 : Nat} {pt : Nat → Nat} {pq : Nat → Int32} (J : JR 4 dn tot pt pq h) (e7 : h 5 7 = nI num') (e6 : h 5 6 = nI p4) (e8 : h 5 8 = nI v4) (hs : p4 + v4 < 100) (hq : ∀ h', fr pfin h h' → J0 h' → VC 1 num' ((p4 + v4) % 24) 0 k00 rn k00 pw h' → Q none h') : MC l E M_RS_finishJob [.inr 0] h Q := by
  have j2 : h 6 2 = nI 4 := J.1
  have n2 : ¬ nI 4 = nI 2 := by decide +kernel
  have n3 : ¬ nI 4 = nI 3 := by decide +kernel
  refine k_RS_finishJob_0 (fun _ _ => ?_) (fun _ c => absurd (by rw [← j2]; exact c) n3) (fun c => absurd (by rw [← j2]; exact c) n2)
  have g : fr (fun k j => Nat.beq k 6 && (Nat.beq j 2 || Nat.beq j 3 || Nat.beq j 4)) h (hw (hw (hw h 6 2 (nI 0)) 6 3 (nI 0)) 6 4 (nI 0)) := ((fr.rf.hw rfl).hw rfl).hw rfl
  rw [e7, e6, e8, nI_add, nrem (by omega)]
  refine s_comeUp (rn := rn) (pw := pw) (fun h' f V' => ?_)
  refine k_RS_finishJob_65 (hq h' ((g.mono (fun k j q => (Bool.or_eq_false_iff.mp q).2)).tr ((f.up (L' := [0, 2, 3, 11, 13, 14]) rfl).mono (fun k j q => (Bool.or_eq_false_iff.mp q).1))) ?_ V')
  refine ⟨?_, ?_, ?_⟩
  · rw [f 6 2 rfl, hwk, upi, if_neg (by decide), hwk, upi, if_neg (by decide), hwk, upi, if_pos rfl]; exact nI_0
  · rw [f 6 3 rfl, hwk, upi, if_neg (by decide), hwk, upi, if_pos rfl]; exact nI_0
  · rw [f 6 4 rfl, hwk, upi, if_pos rfl]; exact nI_0
end FINC
