/-! THE JOBS of the reference: their ends, and the loop of step -/
abbrev JM (job dn tot : Nat) (h : xh) : Prop := h 7 12 = nI job ∧ h 7 13 = nI dn ∧ h 7 14 = nI tot
/-- what an action of the reference may change -/
def pact : Nat → Nat → Bool := pm [25, 26, 27, 32, 33, 34] [1, 16, 17, 18, 19, 20]
theorem JM.fr {P : Nat → Nat → Bool} {job dn tot : Nat} {h h1 : xh} (J : JM job dn tot h) (f : fr P h h1) (e2 : P 7 12 = false) (e3 : P 7 13 = false) (e4 : P 7 14 = false) : JM job dn tot h1 := ⟨by rw [f 7 12 e2]; exact J.1, by rw [f 7 13 e3]; exact J.2.1, by rw [f 7 14 e4]; exact J.2.2⟩
section FINM
variable {l : Launch} {E : xE} {h : xh} {Q : Option Int32 → xh → Prop}
variable {up num nx us : Nat} {kd : Nat → Nat} {rn : Nat → Int32} {pd : Nat → Nat} {pw : Nat → Int32}
theorem m_committed {tot len : Nat} (V : VM up num nx us kd rn pd pw h) (I : vi up num nx us kd pd) (hup : up = 1) (h14 : h 7 14 = nI tot) (htl : tot = len + 2) (hl : us + len ≤ 23) (hq : ∀ h', fr (pm [28, 30, 31] [5, 6, 7]) h h' → VM 1 (num + 1) ((nx + len) % 24) (us + len) k00 rn (pdc kd pd) (pwc kd rn pw) h' → Q none h') : MC l E M_MD_committed [.inr 7] h Q := by
  obtain ⟨v4, hv⟩ := id V
  obtain ⟨a5, a6, a7, h28, h29, h30, h31⟩ := hv hup
  obtain ⟨hnx, hus, hnum, hkd, hpd, hcnt⟩ := I.2 hup
  refine k_MD_committed_0 ?_
  have et : nI tot - nI 2 = nI len := by rw [nsub (by omega)]; congr 1; omega
  rw [h14, et, a6, a7, a5, nI_add, nI_add, nI_add, nrem (by omega)]
  generalize hh : hw (hw (hw h 7 6 (nI ((nx + len) % 24))) 7 7 (nI (us + len))) 7 5 (nI (num + 1)) = h0
  have g0 : fr (pm [] [5, 6, 7]) h h0 := by rw [← hh]; exact ((fr.rf.hw rfl).hw rfl).hw rfl
  have e5 : h0 7 5 = nI (num + 1) := by rw [← hh, hwk, upi, if_pos rfl]
  have e6 : h0 7 6 = nI ((nx + len) % 24) := by rw [← hh, hwk, upi, if_neg (by decide), hwk, upi, if_neg (by decide), hwk, upi, if_pos rfl]
  have e7 : h0 7 7 = nI (us + len) := by rw [← hh, hwk, upi, if_neg (by decide), hwk, upi, if_pos rfl]
  have key : ∀ (j i : Nat) (h' : xh), i + j = 16 → fr (pm [28, 30, 31] []) h0 h' → (∀ b, b < 16 → h' 28 b = nI (if b < i then 0 else kd b)) → (∀ b, b < 16 → h' 30 b = nI (if b < i then pdc kd pd b else pd b)) → (∀ b, b < 16 → b < i → ∀ w, w < 4 → pdc kd pd b = 1 → h' 31 (4 * b + w) = pwc kd rn pw (4 * b + w)) → (∀ b, b < 16 → i ≤ b → ∀ w, w < 4 → h' 31 (4 * b + w) = h 31 (4 * b + w)) → WP l E M_MD_committed 42 [(0, .inr 7), (1, .inl (nI len)), (2, .inl (nI i))] [] h' Q := by
    intro j
    induction j with
    | zero =>
      intro i h' hi f x1 x2 x3 x4
      have ei : i = 16 := by omega
      subst ei
      have c0 : nI 16 ≤ nI 16 := nI_le (Nat.le_refl 16) (by decide)
      refine k_MD_committed_42 (fun _ => ?_) (fun c => absurd c0 c)
      refine hq h' ((g0.upm rfl rfl).tr (f.upm rfl rfl)) ⟨by rw [f 7 4 rfl, g0 7 4 rfl, v4, hup], fun _ => ⟨by rw [f 7 5 rfl]; exact e5, by rw [f 7 6 rfl]; exact e6, by rw [f 7 7 rfl]; exact e7, fun b hb => ?_, fun b hb hk => absurd hk (by unfold k00; omega), fun b hb => ?_, fun b hb hk w hw4 => x3 b hb hb w hw4 hk⟩⟩
      · rw [x1 b hb, if_pos hb]; rfl
      · rw [x2 b hb, if_pos hb]
    | succ j ih =>
      intro i h' hi f x1 x2 x3 x4
      have hi16 : i < 16 := by omega
      have c0 : ¬ nI 16 ≤ nI i := nI_ge hi16 (by decide)
      have i16 : vp_in (nI i) 16 := vp_in_nI hi16 (by decide)
      have ei : (nI i).toNatClampNeg = i := nI_clamp (by omega)
      refine k_MD_committed_42 (fun c => absurd c c0) (fun _ => ?_)
      have hpi := hpd i hi16
      have hki := hkd i hi16
      -- the four words
      have inner : ∀ (jj w : Nat) (h2 : xh), w + jj = 4 → fr (pm [31] []) h' h2 → (∀ q, q < w → h2 31 (4 * i + q) = if kd i = 1 then rn (4 * i + q) else h 31 (4 * i + q)) → (∀ q, w ≤ q → q < 4 → h2 31 (4 * i + q) = h 31 (4 * i + q)) → (∀ q, q < 4 * i ∨ 4 * i + 4 ≤ q → h2 31 q = h' 31 q) → WP l E M_MD_committed 50 [(0, .inr 7), (1, .inl (nI len)), (2, .inl (nI i)), (3, .inl (nI w))] [] h2 Q := by
        intro jj
        induction jj with
        | zero =>
          intro w h2 hw4 f2 y1 y2 y3
          have ew : w = 4 := by omega
          subst ew
          have c4 : nI 4 ≤ nI 4 := nI_le (Nat.le_refl 4) (by decide)
          have z28 : h2 28 ((nI i).toNatClampNeg) = nI (kd i) := by rw [ei, f2 28 i rfl, x1 i hi16, if_neg (by omega)]
          have z30 : h2 30 ((nI i).toNatClampNeg) = nI (pd i) := by rw [ei, f2 30 i rfl, x2 i hi16, if_neg (by omega)]
          have fin : ∀ v : Int32, v = nI (pdc kd pd i) → WP l E M_MD_committed 42 [(0, .inr 7), (1, .inl (nI len)), (2, .inl (nI i + nI 1))] [] (hw (hw h2 30 ((nI i).toNatClampNeg) v) 28 ((nI i).toNatClampNeg) (nI 0)) Q := by
            intro v ev
            rw [nI_add, ei, ev]
            refine ih (i + 1) _ (by omega) (((f.upm rfl rfl).tr (f2.upm rfl rfl)).hw rfl |>.hw rfl) (fun b hb => ?_) (fun b hb => ?_) (fun b hb hbi w hw4 hk => ?_) (fun b hb hbi w hw4 => ?_)
            · rw [hwk, upi]
              by_cases c : b = i
              · rw [if_pos c, if_pos (by omega)]
              · rw [if_neg c, hwa (by decide), f2 28 b rfl, x1 b hb]
                by_cases c2 : b < i
                · rw [if_pos c2, if_pos (by omega)]
                · rw [if_neg c2, if_neg (by omega)]
            · rw [hwa (by decide), hwk, upi]
              by_cases c : b = i
              · rw [if_pos c, if_pos (by omega), c]
              · rw [if_neg c, f2 30 b rfl, x2 b hb]
                by_cases c2 : b < i
                · rw [if_pos c2, if_pos (by omega)]
                · rw [if_neg c2, if_neg (by omega)]
            · rw [hwa (by decide), hwa (by decide)]
              by_cases c : b = i
              · subst c
                rw [y1 w hw4]
                unfold pwc
                rw [show (4 * b + w) / 4 = b by omega]
                by_cases c2 : kd b = 1
                · rw [if_pos c2, if_pos c2]
                · rw [if_neg c2, if_neg c2]
                  unfold pdc at hk
                  rw [if_neg c2] at hk
                  by_cases c3 : kd b = 2
                  · rw [if_pos c3] at hk; omega
                  · rw [if_neg c3] at hk
                    exact h31 b hb hk w hw4
              · rw [y3 _ (by omega)]; exact x3 b hb (by omega) w hw4 hk
            · rw [hwa (by decide), hwa (by decide), y3 _ (by omega)]; exact x4 b hb (by omega) w hw4
          refine k_MD_committed_50 (fun _ => i16) (fun _ _ => i16) (fun _ _ => i16) (fun _ c => ?_) (fun _ _ => i16) (fun _ _ _ => i16) (fun _ _ _ => i16) (fun _ c c2 => ?_) (fun _ _ _ => i16) (fun _ _ _ _ => i16) (fun _ _ _ _ => i16) (fun _ c c2 c3 => ?_) (fun _ _ _ _ => i16) (fun _ _ _ _ => i16) (fun _ c c2 c3 => ?_) (fun c => absurd c4 c) (fun c => absurd c4 c) (fun c => absurd c4 c) (fun c => absurd c4 c) (fun c => absurd c4 c) (fun c => absurd c4 c) (fun c => absurd c4 c)
          all_goals rw [z28] at c
          · have c := neq c (by omega) (by omega)
            exact fin _ (by unfold pdc; rw [if_pos c])
          · rw [z28] at c2
            have c : ¬ kd i = 1 := fun z => c (by rw [z])
            have c2 := nne0 c2
            exact fin _ (by unfold pdc; rw [if_neg c, if_pos (by omega)])
          · rw [z28] at c2
            rw [z30, p0 hpi] at c3
            have c : ¬ kd i = 1 := fun z => c (by rw [z])
            have c2 := n0 c2 (by omega)
            exact fin _ (by unfold pdc; rw [if_neg c, if_neg (by omega)]; congr 1; omega)
          · rw [z28] at c2
            rw [z30, p0 hpi] at c3
            have c : ¬ kd i = 1 := fun z => c (by rw [z])
            have c2 := n0 c2 (by omega)
            exact fin _ (by unfold pdc; rw [if_neg c, if_neg (by omega)]; congr 1; omega)
        | succ jj ihj =>
          intro w h2 hw4 f2 y1 y2 y3
          have c4 : ¬ nI 4 ≤ nI w := nI_ge (by omega) (by decide)
          have ewi : nI 4 * nI i + nI w = nI (4 * i + w) := by rw [pk_mul, nI_add]
          have i64 : vp_in (nI 4 * nI i + nI w) 64 := by rw [ewi]; exact vp_in_nI (by omega) (by decide)
          have z28 : h2 28 ((nI i).toNatClampNeg) = nI (kd i) := by rw [ei, f2 28 i rfl, x1 i hi16, if_neg (by omega)]
          have ec : (nI (4 * i + w)).toNatClampNeg = 4 * i + w := nI_clamp (by omega)
          have go : ∀ v : Int32, v = (if kd i = 1 then rn (4 * i + w) else h 31 (4 * i + w)) → WP l E M_MD_committed 50 [(0, .inr 7), (1, .inl (nI len)), (2, .inl (nI i)), (3, .inl (nI w + nI 1))] [] (hw h2 31 (4 * i + w) v) Q := by
            intro v ev
            rw [nI_add]
            refine ihj (w + 1) _ (by omega) (f2.hw rfl) (fun q hq => ?_) (fun q hq hq4 => ?_) (fun q hq => ?_)
            · rw [hwk, upi]
              by_cases c : q = w
              · subst c; rw [if_pos rfl]; exact ev
              · rw [if_neg (by omega)]; exact y1 q (by omega)
            · rw [hwk, upi, if_neg (by omega)]; exact y2 q (by omega) hq4
            · rw [hwk, upi, if_neg (by omega)]; exact y3 q hq
          refine k_MD_committed_50 (fun c => absurd c c4) (fun c => absurd c c4) (fun c => absurd c c4) (fun c => absurd c c4) (fun c => absurd c c4) (fun c => absurd c c4) (fun c => absurd c c4) (fun c => absurd c c4) (fun c => absurd c c4) (fun c => absurd c c4) (fun c => absurd c c4) (fun c => absurd c c4) (fun c => absurd c c4) (fun c => absurd c c4) (fun c => absurd c c4) (fun _ => i16) (fun _ _ => i64) (fun _ _ => i64) (fun _ c => ?_) (fun _ _ => i64) (fun _ _ => i64) (fun _ c => ?_)
          all_goals rw [z28] at c
          all_goals rw [ewi, ec]
          · refine go _ ?_
            rw [if_neg (fun z => c (by rw [z]))]
            exact y2 w (Nat.le_refl w) (by omega)
          · have c := neq c (by omega) (by omega)
            refine go _ ?_
            rw [if_pos c, f2 29 _ rfl, f 29 _ rfl, g0 29 _ rfl]
            exact h29 i hi16 c w (by omega)
      exact inner 4 0 h' (by omega) fr.rf (fun q hq => absurd hq (Nat.not_lt_zero _)) (fun q _ hq4 => x4 i hi16 (Nat.le_refl i) q hq4) (fun _ _ => rfl)
  refine key 16 0 h0 (by omega) fr.rf (fun b hb => ?_) (fun b hb => ?_) (fun b _ hb => absurd hb (Nat.not_lt_zero _)) (fun b hb _ w hw4 => ?_)
  · rw [g0 28 b rfl, if_neg (by omega)]; exact h28 b hb
  · rw [g0 30 b rfl, if_neg (by omega)]; exact h30 b hb
  · rw [g0 31 _ rfl]
theorem m_finish2 {dn tot len : Nat} (J : JM 2 dn tot h) (V : VM up num nx us kd rn pd pw h) (I : vi up num nx us kd pd) (hup : up = 1) (htl : tot = len + 2) (hl : us + len ≤ 23) (hq : ∀ h', fr (pm [28, 30, 31] [5, 6, 7, 12]) h h' → h' 7 12 = 0 → VM 1 (num + 1) ((nx + len) % 24) (us + len) k00 rn (pdc kd pd) (pwc kd rn pw) h' → Q none h') : MC l E M_MD_finish [.inr 7] h Q := by
  refine k_MD_finish_0 (fun c => absurd J.1 c) (fun c => absurd J.1 c) (fun _ => ?_)
  have g : fr (pm [] [12]) h (hw h 7 12 (nI 0)) := fr.rf.hw rfl
  refine m_committed (VM.fr V g rfl rfl rfl rfl (fun _ => rfl) (fun _ => rfl) (fun _ => rfl) (fun _ => rfl)) I hup (by rw [g 7 14 rfl]; exact J.2.2) htl hl (fun h' f V' => ?_)
  refine k_MD_finish_19 (hq h' ((g.upm rfl rfl).tr (f.upm rfl rfl)) ?_ V')
  rw [f 7 12 rfl, hwk, upi, if_pos rfl]; exact nI_0
theorem m_finish3 {dn tot : Nat} (J : JM 3 dn tot h) (V : VM up num nx us kd rn pd pw h) (hup : up = 1) (hq : ∀ h', fr (pm [30] [7, 12]) h h' → h' 7 12 = 0 → VM 1 num nx 0 kd rn k00 pw h' → Q none h') : MC l E M_MD_finish [.inr 7] h Q := by
  have n2 : ¬ nI 3 = nI 2 := by decide +kernel
  refine k_MD_finish_0 (fun _ c => absurd J.1 c) (fun _ _ => ?_) (fun c => absurd (J.1.symm.trans c) n2)
  refine k_MD_checkpointed_0 ?_
  obtain ⟨v4, hv⟩ := V
  obtain ⟨a5, a6, a7, h28, h29, h30, h31⟩ := hv hup
  have key : ∀ (j i : Nat) (h' : xh), i + j = 16 → fr (pm [30] []) (hw (hw h 7 12 (nI 0)) 7 7 (nI 0)) h' → (∀ b, b < i → h' 30 b = nI 0) → WP l E M_MD_checkpointed 7 [(0, .inr 7), (1, .inl (nI i))] [] h' (fun r h' => WP l E M_MD_finish 31 [(0, .inr 7), (1, .inl (h 7 12))] (rpush r []) h' Q) := by
    intro j
    induction j with
    | zero =>
      intro i h' hi f x
      have ei : i = 16 := by omega
      subst ei
      have c0 : nI 16 ≤ nI 16 := nI_le (Nat.le_refl 16) (by decide)
      refine k_MD_checkpointed_7 (fun _ => ?_) (fun c => absurd c0 c) (fun c => absurd c0 c)
      refine k_MD_finish_31 ?_
      have g : fr (pm [30] [7, 12]) h (hw (hw h 7 12 (nI 0)) 7 7 (nI 0)) := (fr.rf.hw rfl).hw rfl
      have t : ∀ j, j ≠ 7 → j ≠ 12 → h' 7 j = h 7 j := fun j q1 q2 => by rw [f 7 j rfl, hwk, upi, if_neg q1, hwk, upi, if_neg q2]
      refine hq h' (g.tr (f.upm rfl rfl)) ?_ ⟨by rw [t 4 (by decide) (by decide), v4, hup], fun _ => ⟨by rw [t 5 (by decide) (by decide)]; exact a5, by rw [t 6 (by decide) (by decide)]; exact a6, ?_, fun b hb => ?_, fun b hb hk w hw4 => ?_, fun b hb => x b hb, fun b hb hk => absurd hk (by unfold k00; omega)⟩⟩
      · rw [f 7 12 rfl, hwk, upi, if_neg (by decide), hwk, upi, if_pos rfl]; exact nI_0
      · rw [f 7 7 rfl, hwk, upi, if_pos rfl]
      · rw [f 28 b rfl, hwa (by decide), hwa (by decide)]; exact h28 b hb
      · rw [f 29 _ rfl, hwa (by decide), hwa (by decide)]; exact h29 b hb hk w hw4
    | succ j ih =>
      intro i h' hi f x
      have c0 : ¬ nI 16 ≤ nI i := nI_ge (by omega) (by decide)
      refine k_MD_checkpointed_7 (fun c => absurd c c0) (fun _ => vp_in_nI (by omega) (by decide)) (fun _ => ?_)
      rw [nI_add, nI_clamp (by omega)]
      refine ih (i + 1) _ (by omega) (f.hw rfl) (fun b hb => ?_)
      rw [hwk, upi]
      by_cases c : b = i
      · rw [if_pos c]
      · rw [if_neg c]; exact x b (by omega)
  exact key 16 0 _ (by omega) fr.rf (fun b hb => absurd hb (Nat.not_lt_zero _))
theorem m_finish4 {dn tot num' nx' : Nat} {σ : xD} (J : JM 4 dn tot h) (D : DMt σ h) (e1 : vw σ.1 σ.2.2.1 σ.2.2.2 16 1 σ.2.1 = nI num') (e2 : vw σ.1 σ.2.2.1 σ.2.2.2 16 2 σ.2.1 = nI nx') (hq : ∀ h', fr (pm [28, 30] [4, 5, 6, 7, 12]) h h' → h' 7 12 = 0 → VM 1 num' nx' 0 k00 rn k00 pw h' → Q none h') : MC l E M_MD_finish [.inr 7] h Q := by
  have n2 : ¬ nI 4 = nI 2 := by decide +kernel
  have n3 : ¬ nI 4 = nI 3 := by decide +kernel
  refine k_MD_finish_0 (fun _ _ => ?_) (fun _ c => absurd (J.1.symm.trans c) n3) (fun c => absurd (J.1.symm.trans c) n2)
  refine k_MD_recovered_0 ?_
  have g1 : fr (pm [] [4, 5, 6, 7, 12]) h (hw (hw h 7 12 (nI 0)) 7 4 (nI 1)) := (fr.rf.hw rfl).hw rfl
  refine m_read (DM.fr D g1 rfl (fun _ => rfl) (fun _ => rfl) (fun _ => rfl)) (by decide) (by decide) ?_
  refine k_MD_recovered_13 ?_
  rw [e1]
  have g2 : fr (pm [] [4, 5, 6, 7, 12]) h (hw (hw (hw h 7 12 (nI 0)) 7 4 (nI 1)) 7 5 (nI num')) := g1.hw rfl
  refine m_read (DM.fr D g2 rfl (fun _ => rfl) (fun _ => rfl) (fun _ => rfl)) (by decide) (by decide) ?_
  refine k_MD_recovered_24 ?_
  rw [e2]
  generalize hh : hw (hw (hw (hw (hw h 7 12 (nI 0)) 7 4 (nI 1)) 7 5 (nI num')) 7 6 (nI nx')) 7 7 (nI 0) = h0
  have g : fr (pm [] [4, 5, 6, 7, 12]) h h0 := by rw [← hh]; exact (g2.hw rfl).hw rfl
  have e : ∀ j, h0 7 j = if j = 7 then nI 0 else if j = 6 then nI nx' else if j = 5 then nI num' else if j = 4 then nI 1 else if j = 12 then nI 0 else h 7 j := by
    intro j
    rw [← hh, hwk, upi, hwk, upi, hwk, upi, hwk, upi, hwk, upi]
  have key : ∀ (j i : Nat) (h' : xh), i + j = 16 → fr (pm [28, 30] []) h0 h' → (∀ b, b < i → h' 28 b = nI 0) → (∀ b, b < i → h' 30 b = nI 0) → WP l E M_MD_recovered 34 [(0, .inr 7), (1, .inl (nI i))] [] h' (fun r h' => WP l E M_MD_finish 38 [(0, .inr 7), (1, .inl (h 7 12))] (rpush r []) h' Q) := by
    intro j
    induction j with
    | zero =>
      intro i h' hi f x y
      have ei : i = 16 := by omega
      subst ei
      have c0 : nI 16 ≤ nI 16 := nI_le (Nat.le_refl 16) (by decide)
      refine k_MD_recovered_34 (fun _ => ?_) (fun c => absurd c0 c) (fun c => absurd c0 c) (fun c => absurd c0 c)
      refine k_MD_finish_38 ?_
      refine hq h' ((g.upm rfl rfl).tr (f.upm rfl rfl)) ?_ ⟨by rw [f 7 4 rfl, e]; rfl, fun _ => ⟨by rw [f 7 5 rfl, e]; rfl, by rw [f 7 6 rfl, e]; rfl, by rw [f 7 7 rfl, e]; rfl, fun b hb => x b hb, fun b hb hk => absurd hk (by unfold k00; omega), fun b hb => y b hb, fun b hb hk => absurd hk (by unfold k00; omega)⟩⟩
      rw [f 7 12 rfl, e]; exact nI_0
    | succ j ih =>
      intro i h' hi f x y
      have c0 : ¬ nI 16 ≤ nI i := nI_ge (by omega) (by decide)
      have i16 : vp_in (nI i) 16 := vp_in_nI (by omega) (by decide)
      refine k_MD_recovered_34 (fun c => absurd c c0) (fun _ => i16) (fun _ => i16) (fun _ => ?_)
      rw [nI_add, nI_clamp (by omega)]
      refine ih (i + 1) _ (by omega) ((f.hw rfl).hw rfl) (fun b hb => ?_) (fun b hb => ?_)
      · rw [hwa (by decide), hwk, upi]
        by_cases c : b = i
        · rw [if_pos c]
        · rw [if_neg c]; exact x b (by omega)
      · rw [hwk, upi]
        by_cases c : b = i
        · rw [if_pos c]
        · rw [if_neg c, hwa (by decide)]; exact y b (by omega)
  exact key 16 0 _ (by omega) fr.rf (fun b hb => absurd hb (Nat.not_lt_zero _)) (fun b hb => absurd hb (Nat.not_lt_zero _))
/-- the method that does an action -/
def mact (job : Nat) : xM := if job = 2 then M_MD_commitAction else if job = 3 then M_MD_checkpointAction else M_MD_recoveryAction
/-- what step may change, its end apart -/
def pstep : Nat → Nat → Bool := pm [25, 26, 27, 32, 33, 34] [1, 13, 16, 17, 18, 19, 20]
theorem m_steps {job tot : Nat} {pt : Nat → Nat} {pq : Nat → Int32} {OK : Nat → xD → Prop} {x : Nat} (hj : job = 2 ∨ job = 3 ∨ job = 4) (ht : tot < 2 ^ 30) (hx : x ≤ 10)
    (HA : ∀ (k : Nat) (σ : xD) (h' : xh) (Q' : Option Int32 → xh → Prop), k < tot → OK k σ → JM job k tot h' → DMt σ h' → VM up num nx us kd rn pd pw h' → (∀ h2, fr pact h' h2 → DMt (ac tot pt pq k σ) h2 → OK (k + 1) (ac tot pt pq k σ) → Q' none h2) → MC l E (mact job) [.inr 7, .inl (nI k)] h' Q') :
    ∀ (j i dn : Nat) (σ : xD) (h' : xh), dn + j = tot → 0 < j → i < x → OK dn σ → JM job dn tot h' → DMt σ h' → VM up num nx us kd rn pd pw h' →
      (dn + (x - i) < tot → ∀ h2, fr pstep h' h2 → JM job (dn + (x - i)) tot h2 → DMt (acs tot pt pq dn (x - i) σ) h2 → OK (dn + (x - i)) (acs tot pt pq dn (x - i) σ) → Q (some (nI x)) h2) →
      (tot ≤ dn + (x - i) → ∀ h2, fr pstep h' h2 → JM job tot tot h2 → DMt (acs tot pt pq dn (tot - dn) σ) h2 → OK tot (acs tot pt pq dn (tot - dn) σ) → MC l E M_MD_finish [.inr 7] h2 (fun r h3 => r = none ∧ h3 7 12 = 0 ∧ Q (some (nI (i + (tot - dn)))) h3)) →
      WP l E M_MD_step 22 [(0, .inr 7), (1, .inl (nI x)), (2, .inl (nI i))] [] h' Q := by
  intro j
  induction j with
  | zero => intro i dn σ h' _ h0; exact absurd h0 (Nat.not_lt_zero _)
  | succ j ih =>
    intro i dn σ h' hd _ hix ok J D V K1 K2
    have hjl : job ≤ 4 := by omega
    have hj0 : job ≠ 0 := by omega
    have c0 : ¬ nI x ≤ nI i := nI_ge hix (by omega)
    have cj : ¬ h' 7 12 = 0 := by rw [J.1]; exact nI_ne0 (by omega) (by omega)
    -- behind the action
    have fin : ∀ h2 : xh, fr pact h' h2 → DMt (ac tot pt pq dn σ) h2 → OK (dn + 1) (ac tot pt pq dn σ) →
        ((h2 7 13 + nI 1 ≠ h2 7 14 → WP l E M_MD_step 22 [(0, .inr 7), (1, .inl (nI x)), (2, .inl (nI i + nI 1))] [] (hw h2 7 13 (h2 7 13 + nI 1)) Q) ∧
         (h2 7 13 + nI 1 = h2 7 14 → MC l E M_MD_finish [.inr 7] (hw h2 7 13 (h2 7 13 + nI 1)) (fun r h' => WP l E M_MD_step 109 [(0, .inr 7), (1, .inl (nI x)), (2, .inl (nI i + nI 1))] (rpush r []) h' Q))) := by
      intro h2 f D2 ok2
      have z13 : h2 7 13 = nI dn := by rw [f 7 13 rfl]; exact J.2.1
      have z14 : h2 7 14 = nI tot := by rw [f 7 14 rfl]; exact J.2.2
      rw [z13, z14, nI_add, nI_add]
      have fs : fr pstep h' (hw h2 7 13 (nI (dn + 1))) := ((f.upm (L' := [25, 26, 27, 32, 33, 34]) (S' := [1, 13, 16, 17, 18, 19, 20]) rfl rfl)).hw rfl
      have f1 : fr (pm [] [13]) h2 (hw h2 7 13 (nI (dn + 1))) := fr.rf.hw rfl
      have J2 : JM job (dn + 1) tot (hw h2 7 13 (nI (dn + 1))) := ⟨by rw [hwk, upi, if_neg (by decide), f 7 12 rfl]; exact J.1, by rw [hwk, upi, if_pos rfl], by rw [hwk, upi, if_neg (by decide)]; exact z14⟩
      have D3 : DMt (ac tot pt pq dn σ) (hw h2 7 13 (nI (dn + 1))) := DM.fr D2 f1 rfl (fun _ => rfl) (fun _ => rfl) (fun _ => rfl)
      have V2 : VM up num nx us kd rn pd pw (hw h2 7 13 (nI (dn + 1))) := VM.fr (VM.fr V f rfl rfl rfl rfl (fun _ => rfl) (fun _ => rfl) (fun _ => rfl) (fun _ => rfl)) f1 rfl rfl rfl rfl (fun _ => rfl) (fun _ => rfl) (fun _ => rfl) (fun _ => rfl)
      refine ⟨fun c => ?_, fun c => ?_⟩
      · have hne : dn + 1 ≠ tot := fun z => c (by rw [z])
        rcases Nat.lt_or_ge (i + 1) x with q | q
        · refine ih (i + 1) (dn + 1) _ _ (by omega) (by omega) q ok2 J2 D3 V2 (fun h5 h6 f6 J6 D6 ok6 => ?_) (fun h5 h6 f6 J6 D6 ok6 => ?_)
          · have es : acs tot pt pq dn (x - i) σ = acs tot pt pq (dn + 1) (x - (i + 1)) (ac tot pt pq dn σ) := by
              rw [show x - i = (x - (i + 1)) + 1 by omega]; rfl
            refine K1 (by omega) h6 (fs.tr f6) ?_ ?_ ?_
            · rw [show dn + (x - i) = dn + 1 + (x - (i + 1)) by omega]; exact J6
            · rw [es]; exact D6
            · rw [es, show dn + (x - i) = dn + 1 + (x - (i + 1)) by omega]; exact ok6
          · have es : acs tot pt pq dn (tot - dn) σ = acs tot pt pq (dn + 1) (tot - (dn + 1)) (ac tot pt pq dn σ) := by
              rw [show tot - dn = (tot - (dn + 1)) + 1 by omega]; rfl
            have := K2 (by omega) h6 (fs.tr f6) J6 (by rw [es]; exact D6) (by rw [es]; exact ok6)
            rw [show i + (tot - dn) = i + 1 + (tot - (dn + 1)) by omega] at this
            exact this
        · have ex : i + 1 = x := by omega
          rw [ex]
          have es : acs tot pt pq dn (x - i) σ = ac tot pt pq dn σ := by
            rw [show x - i = 0 + 1 by omega]; rfl
          refine k_MD_step_22 (fun _ => ?_) (fun z => absurd (nI_le (Nat.le_refl x) (by omega)) z) (fun z => absurd (nI_le (Nat.le_refl x) (by omega)) z) (fun z => absurd (nI_le (Nat.le_refl x) (by omega)) z) (fun z => absurd (nI_le (Nat.le_refl x) (by omega)) z)
          refine K1 (by omega) _ fs ?_ ?_ ?_
          · rw [show dn + (x - i) = dn + 1 by omega]; exact J2
          · rw [es]; exact D3
          · rw [es, show dn + (x - i) = dn + 1 by omega]; exact ok2
      · have he : dn + 1 = tot := neq c (by omega) (by omega)
        have es : acs tot pt pq dn (tot - dn) σ = ac tot pt pq dn σ := by
          rw [show tot - dn = 0 + 1 by omega]; rfl
        have := K2 (by omega) _ fs (by rw [he] at J2 ⊢; exact J2) (by rw [es]; exact D3) (by rw [es]; rw [he] at ok2; exact ok2)
        refine WP.mono this (fun r h3 z => ?_)
        obtain ⟨z0, z1, z2⟩ := z
        subst z0
        rw [show i + (tot - dn) = i + 1 by omega] at z2
        refine k_MD_step_109 ?_
        exact k_MD_step_22 (fun _ => z2) (fun _ _ => z2) (fun _ c => absurd z1 c) (fun _ c => absurd z1 c) (fun _ c => absurd z1 c)
    rcases hj with rfl | rfl | rfl
    · refine k_MD_step_22 (fun c => absurd c c0) (fun _ c => absurd c cj) (fun _ _ c => absurd J.1 c) (fun _ _ c => absurd J.1 c) (fun _ _ _ => ?_)
      rw [J.2.1]
      refine HA dn σ h' _ (by omega) ok J D V (fun h2 f D2 ok2 => ?_)
      exact k_MD_step_50 (fin h2 f D2 ok2).1 (fin h2 f D2 ok2).2
    · have n2 : ¬ nI 3 = nI 2 := by decide +kernel
      refine k_MD_step_22 (fun c => absurd c c0) (fun _ c => absurd c cj) (fun _ _ _ c => absurd J.1 c) (fun _ _ _ _ => ?_) (fun _ _ c => absurd (J.1.symm.trans c) n2)
      rw [J.2.1]
      refine HA dn σ h' _ (by omega) ok J D V (fun h2 f D2 ok2 => ?_)
      exact k_MD_step_69 (fin h2 f D2 ok2).1 (fin h2 f D2 ok2).2
    · have n2 : ¬ nI 4 = nI 2 := by decide +kernel
      have n3 : ¬ nI 4 = nI 3 := by decide +kernel
      refine k_MD_step_22 (fun c => absurd c c0) (fun _ c => absurd c cj) (fun _ _ _ _ => ?_) (fun _ _ _ c => absurd (J.1.symm.trans c) n3) (fun _ _ c => absurd (J.1.symm.trans c) n2)
      rw [J.2.1]
      refine HA dn σ h' _ (by omega) ok J D V (fun h2 f D2 ok2 => ?_)
      exact k_MD_step_80 (fin h2 f D2 ok2).1 (fin h2 f D2 ok2).2
end FINM
