/-! CHECKPOINT -/
/-- the k-th block of kind v -/
def nb (f : Nat → Nat) (v k : Nat) : Nat → Nat
  | 0 => 0
  | n + 1 => if f n = v ∧ cnt f v n = k then n else nb f v k n
theorem cnt_mono {f : Nat → Nat} {v a : Nat} : ∀ b, a ≤ b → cnt f v a ≤ cnt f v b
  | 0, h => by rw [show a = 0 by omega]; exact Nat.le_refl _
  | b + 1, h => by
    rcases Nat.lt_or_ge a (b + 1) with q | q
    · have := cnt_mono (f := f) (v := v) b (show a ≤ b by omega)
      show _ ≤ if f b = v then cnt f v b + 1 else cnt f v b
      split <;> omega
    · rw [show a = b + 1 by omega]; exact Nat.le_refl _
theorem cnt_s {f : Nat → Nat} {v b : Nat} (h : f b = v) : cnt f v (b + 1) = cnt f v b + 1 := by
  show (if f b = v then cnt f v b + 1 else cnt f v b) = _
  rw [if_pos h]
theorem cnt_ns {f : Nat → Nat} {v b : Nat} (h : ¬ f b = v) : cnt f v (b + 1) = cnt f v b := by
  show (if f b = v then cnt f v b + 1 else cnt f v b) = _
  rw [if_neg h]
theorem nb_at {f : Nat → Nat} {v b : Nat} (hb : f b = v) : ∀ n, b < n → nb f v (cnt f v b) n = b
  | 0, h => absurd h (Nat.not_lt_zero _)
  | n + 1, h => by
    unfold nb
    rcases Nat.lt_or_ge b n with q | q
    · have := cnt_mono (f := f) (v := v) n (show b + 1 ≤ n by omega)
      rw [cnt_s hb] at this
      rw [if_neg (fun z => by omega)]
      exact nb_at hb n q
    · have e : b = n := by omega
      subst e
      rw [if_pos ⟨hb, rfl⟩]
theorem nb_ok {f : Nat → Nat} {v k : Nat} : ∀ n, k < cnt f v n → nb f v k n < n ∧ f (nb f v k n) = v ∧ cnt f v (nb f v k n) = k
  | 0, h => absurd h (Nat.not_lt_zero _)
  | n + 1, h => by
    unfold nb
    by_cases c : f n = v ∧ cnt f v n = k
    · rw [if_pos c]; exact ⟨by omega, c.1, c.2⟩
    · rw [if_neg c]
      have hk : k < cnt f v n := by
        unfold cnt at h
        by_cases c2 : f n = v
        · rw [if_pos c2] at h
          have : cnt f v n ≠ k := fun z => c ⟨c2, z⟩
          omega
        · rw [if_neg c2] at h; exact h
      have := nb_ok (f := f) (v := v) n hk
      exact ⟨by omega, this.2.1, this.2.2⟩
/-- the head's words -/
def hdw (num nx w : Nat) : Int32 := if w = 0 then nI 77001 else if w = 1 then nI num else if w = 2 then nI nx else nI 0
def pt3 (pd : Nat → Nat) : Nat → Nat := fun k => if k = cnt pd 1 16 + 1 then 16 else nb pd 1 k 16
def pq3 (pd : Nat → Nat) (pw : Nat → Int32) (num nx : Nat) : Nat → Int32 := fun i => if i / 4 = cnt pd 1 16 + 1 then hdw num nx (i % 4) else pw (4 * nb pd 1 (i / 4) 16 + i % 4)
theorem pt3_lt {pd : Nat → Nat} {k : Nat} (h : k < cnt pd 1 16 ∨ k = cnt pd 1 16 + 1) : pt3 pd k < 41 := by
  unfold pt3
  rcases h with h | h
  · rw [if_neg (by omega)]
    have := (nb_ok 16 h).1
    omega
  · rw [if_pos h]; omega
/-- what beginning a job changes in the class -/
def pjob : Nat → Nat → Bool := fun k j => (pc [4, 5, 15, 16, 17, 18, 19, 20, 21, 22, 23, 24]) k j || (Nat.beq k 6 && (Nat.beq j 2 || Nat.beq j 3 || Nat.beq j 4))
def pjw : Nat → Nat → Bool := fun k j => (pc [23, 24]) k j || (Nat.beq k 6 && Nat.beq j 3)
theorem pjw_in {h h1 : xh} (f : fr pjw h h1) : fr pjob h h1 := f.mono (fun k j q => by
  unfold pjob at q
  unfold pjw
  rw [Bool.or_eq_false_iff] at q ⊢
  refine ⟨?_, ?_⟩
  · have := q.1
    unfold pc at this ⊢
    cases h1 : Nat.beq k 23 <;> cases h2 : Nat.beq k 24 <;> simp_all
  · have := q.2
    cases h1 : Nat.beq k 6 <;> cases h2 : Nat.beq j 3 <;> simp_all)
section CHKC
variable {l : Launch} {E : xE} {h : xh} {Q : Option Int32 → xh → Prop}
variable {up num nx us : Nat} {kd : Nat → Nat} {rn : Nat → Int32} {pd : Nat → Nat} {pw : Nat → Int32}
theorem c_checkpoint_no (V : VC up num nx us kd rn pd pw h) (hu : up = 0 ∨ up = 1) (hb : up = 0 ∨ ¬ h 6 2 = 0) (hq : Q (some (-1)) h) : MC l E M_RS_checkpoint [.inr 0] h Q := by
  refine k_RS_checkpoint_0 (fun _ => hq) (fun a1 a2 => ?_) (fun _ _ => hq)
  have hup := up1 V.1 hu a1
  rcases hb with e | e
  · omega
  · exact absurd a2 e
theorem c_checkpoint_yes (V : VC up num nx us kd rn pd pw h) (hup : up = 1) (hp : ∀ b, b < 16 → pd b ≤ 1) (hj : h 6 2 = 0)
    (hq : ∀ h', fr pjob h h' → JR 3 0 (cnt pd 1 16 + 3) (pt3 pd) (pq3 pd pw num nx) h' → Q (some (nI (cnt pd 1 16))) h') : MC l E M_RS_checkpoint [.inr 0] h Q := by
  obtain ⟨v6, hv⟩ := id V
  obtain ⟨a8, a9, a10, h7, h2, h3, h11, h12, h13, h14⟩ := hv hup
  have u0 : ¬ h 0 6 = 0 := by rw [v6, hup]; decide +kernel
  have hnp := cnt_le pd 1 16
  refine k_RS_checkpoint_0 (fun c => absurd c u0) (fun _ _ => ?_) (fun _ c => absurd hj c)
  generalize hh : hw (hw (hw h 6 2 (nI 3)) 6 3 (nI 0)) 6 4 (nI 0) = h0
  have g0 : fr pjob h h0 := by rw [← hh]; exact ((fr.rf.hw rfl).hw rfl).hw rfl
  have e2 : h0 6 2 = nI 3 := by rw [← hh, hwk, upi, if_neg (by decide), hwk, upi, if_neg (by decide), hwk, upi, if_pos rfl]
  have e3 : h0 6 3 = nI 0 := by rw [← hh, hwk, upi, if_neg (by decide), hwk, upi, if_pos rfl]
  have e4 : h0 6 4 = nI 0 := by rw [← hh, hwk, upi, if_pos rfl]
  have key : ∀ (j i : Nat) (h' : xh), i + j = 16 → fr pjw h0 h' → h' 6 3 = nI (cnt pd 1 i) → pl (cnt pd 1 i) (pt3 pd) (pq3 pd pw num nx) (h' 23) (h' 24) → WP l E M_RS_checkpoint 19 [(0, .inr 0), (1, .inl (nI i))] [] h' Q := by
    intro j
    induction j with
    | zero =>
      intro i h' hi f x1 x2
      have ei : i = 16 := by omega
      subst ei
      have c0 : nI 16 ≤ nI 16 := nI_le (Nat.le_refl 16) (by decide)
      refine k_RS_checkpoint_19 (fun _ => ?_) (fun c => absurd c0 c) (fun c => absurd c0 c) (fun c => absurd c0 c) (fun c => absurd c0 c) (fun c => absurd c0 c) (fun c => absurd c0 c) (fun c => absurd c0 c) (fun c => absurd c0 c)
      have z8 : h' 0 8 = nI num := by rw [f 0 8 rfl, g0 0 8 rfl]; exact a8
      have z9 : h' 0 9 = nI nx := by rw [f 0 9 rfl, g0 0 9 rfl]; exact a9
      rw [z8, z9]
      refine s_planHead x1 (by omega) (fun h2 f2 b1 b2 b3 b4 b5 b6 b7 b8 b9 b10 => ?_)
      refine k_RS_checkpoint_98 ?_
      have z3 : h2 3 2 = nI (cnt pd 1 16) := by rw [f2 3 2 rfl, f 3 2 rfl, g0 3 2 rfl]; exact h3
      rw [z3]
      refine hq h2 (g0.tr (pjw_in (f.tr f2))) ⟨by rw [f2 6 2 rfl, f 6 2 rfl]; exact e2, b1, by rw [f2 6 4 rfl, f 6 4 rfl]; exact e4, by omega, by omega, by omega, ?_⟩
      refine plan_end x2 (fun k hk k1 k2 => pt3_lt (by omega)) b2 b3 ?_ (fun w hw4 => ?_) b9 b10
      · rw [b4]; unfold pt3; rw [if_pos rfl]
      · have hd : (4 * (cnt pd 1 16 + 1) + w) / 4 = cnt pd 1 16 + 1 := by omega
        have hm : (4 * (cnt pd 1 16 + 1) + w) % 4 = w := by omega
        unfold pq3
        rw [hd, hm, if_pos rfl]
        unfold hdw
        rcases (show w = 0 ∨ w = 1 ∨ w = 2 ∨ w = 3 by omega) with rfl | rfl | rfl | rfl
        · exact b5
        · exact b6
        · exact b7
        · exact b8
    | succ j ih =>
      intro i h' hi f x1 x2
      have hi16 : i < 16 := by omega
      have c0 : ¬ nI 16 ≤ nI i := nI_ge hi16 (by decide)
      have ei : (nI i).toNatClampNeg = i := nI_clamp (by omega)
      have i16 : vp_in (nI i) 16 := vp_in_nI hi16 (by decide)
      have hpi := hp i hi16
      have z13 : h' 13 ((nI i).toNatClampNeg) = nI (pd i) := by rw [ei, f 13 i rfl, g0 13 i rfl]; exact h13 i hi16
      have ew : ∀ w, nI i * nI 4 + nI w = nI (4 * i + w) := fun w => by rw [pk_mul, nI_add, show i * 4 + w = 4 * i + w by omega]
      have i64 : ∀ w, w < 4 → vp_in (nI i * nI 4 + nI w) 64 := fun w hw4 => by rw [ew]; exact vp_in_nI (by omega) (by decide)
      have ec : ∀ w, w < 4 → (nI i * nI 4 + nI w).toNatClampNeg = 4 * i + w := fun w hw4 => by rw [ew]; exact nI_clamp (by omega)
      refine k_RS_checkpoint_19 (fun c => absurd c c0) (fun _ => i16) (fun _ => by rw [z13]; exact b01 hpi) (fun _ c => ?_) (fun _ _ => i64 0 (by omega)) (fun _ _ => i64 1 (by omega)) (fun _ _ => i64 2 (by omega)) (fun _ _ => i64 3 (by omega)) (fun _ c => ?_)
      · rw [z13, p0 hpi] at c
        rw [nI_add]
        refine ih (i + 1) h' (by omega) f ?_ ?_
        · rw [cnt_ns c]; exact x1
        · rw [cnt_ns c]; exact x2
      · rw [z13, p0 hpi] at c
        have c : pd i = 1 := by omega
        have hci := cnt_mono (f := pd) (v := 1) 16 (show i + 1 ≤ 16 by omega)
        rw [cnt_s c] at hci
        have z14 : ∀ w, w < 4 → h' 14 (4 * i + w) = pw (4 * i + w) := fun w hw4 => by rw [f 14 _ rfl, g0 14 _ rfl]; exact h14 i hi16 c w hw4
        rw [ec 0 (by omega), ec 1 (by omega), ec 2 (by omega), ec 3 (by omega), z14 0 (by omega), z14 1 (by omega), z14 2 (by omega), z14 3 (by omega)]
        refine s_addWrite x1 (by omega) (fun h2 f2 b1 b2 b3 b4 b5 b6 b7 b8 => ?_)
        refine k_RS_checkpoint_80 ?_
        rw [nI_add]
        refine ih (i + 1) h2 (by omega) (f.tr f2) (by rw [cnt_s c]; exact b1) ?_
        rw [cnt_s c]
        intro k hk
        by_cases ek : k = cnt pd 1 i
        · subst ek
          have en := nb_at (f := pd) (v := 1) c 16 hi16
          refine ⟨?_, fun w hw4 => ?_⟩
          · rw [b2]; unfold pt3; rw [if_neg (by omega), en]
          · have hd : (4 * cnt pd 1 i + w) / 4 = cnt pd 1 i := by omega
            have hm : (4 * cnt pd 1 i + w) % 4 = w := by omega
            unfold pq3
            rw [hd, hm, if_neg (by omega), en]
            rcases (show w = 0 ∨ w = 1 ∨ w = 2 ∨ w = 3 by omega) with rfl | rfl | rfl | rfl
            · exact b4
            · exact b5
            · exact b6
            · exact b7
        · have := x2 k (by omega)
          refine ⟨by rw [b3 k ek]; exact this.1, fun w hw4 => ?_⟩
          rw [b8 _ (by omega)]
          exact this.2 w hw4
  exact key 16 0 h0 (by omega) fr.rf e3 (fun k hk => absurd hk (Nat.not_lt_zero _))
/-! the reference -/
theorem m_say {x1 x2 x3 x4 : Int32} (hq : ∀ h', fr (pm [32] []) h h' → h' 32 0 = x1 → h' 32 1 = x2 → h' 32 2 = x3 → h' 32 3 = x4 → Q none h') : MC l E M_MD_say [.inr 7, .inl x1, .inl x2, .inl x3, .inl x4] h Q := by
  refine k_MD_say_0 ?_
  have e : ∀ w, w < 4 → (nI w).toNatClampNeg = w := fun w hw4 => nI_clamp (by omega)
  rw [e 0 (by omega), e 1 (by omega), e 2 (by omega), e 3 (by omega)]
  refine hq _ ((((fr.rf.hw rfl).hw rfl).hw rfl).hw rfl) ?_ ?_ ?_ ?_
  · rw [hwk, upi, if_neg (by decide), hwk, upi, if_neg (by decide), hwk, upi, if_neg (by decide), hwk, upi, if_pos rfl]
  · rw [hwk, upi, if_neg (by decide), hwk, upi, if_neg (by decide), hwk, upi, if_pos rfl]
  · rw [hwk, upi, if_neg (by decide), hwk, upi, if_pos rfl]
  · rw [hwk, upi, if_pos rfl]
theorem m_countPending (h30 : ∀ b, b < 16 → h 30 b = nI (pd b)) (hp : ∀ b, b < 16 → pd b ≤ 1) (hq : Q (some (nI (cnt pd 1 16))) h) : MC l E M_MD_countPending [.inr 7] h Q := by
  refine k_MD_countPending_0 ?_
  have key : ∀ (j i : Nat), i + j = 16 → WP l E M_MD_countPending 4 [(0, .inr 7), (1, .inl (nI (cnt pd 1 i))), (2, .inl (nI i))] [] h Q := by
    intro j
    induction j with
    | zero =>
      intro i hi
      have ei : i = 16 := by omega
      subst ei
      have c0 : nI 16 ≤ nI 16 := nI_le (Nat.le_refl 16) (by decide)
      exact k_MD_countPending_4 (fun _ => hq) (fun c => absurd c0 c) (fun c => absurd c0 c) (fun c => absurd c0 c)
    | succ j ih =>
      intro i hi
      have hi16 : i < 16 := by omega
      have c0 : ¬ nI 16 ≤ nI i := nI_ge hi16 (by decide)
      have z : h 30 ((nI i).toNatClampNeg) = nI (pd i) := by rw [nI_clamp (by omega)]; exact h30 i hi16
      have := ih (i + 1) (by omega)
      refine k_MD_countPending_4 (fun c => absurd c c0) (fun _ => vp_in_nI hi16 (by decide)) (fun _ c => ?_) (fun _ c => ?_)
      · rw [z, p0 (hp i hi16)] at c
        rw [cnt_ns c] at this
        rw [nI_add]; exact this
      · rw [z, p0 (hp i hi16)] at c
        have c : pd i = 1 := by have := hp i hi16; omega
        rw [cnt_s c] at this
        rw [nI_add, nI_add]; exact this
  exact key 16 0 (by omega)
theorem m_checkpoint_no (V : VM up num nx us kd rn pd pw h) (hu : up = 0 ∨ up = 1) (hb : up = 0 ∨ ¬ h 7 12 = 0) (hq : Q (some (-1)) h) : MC l E M_MD_checkpoint [.inr 7] h Q := by
  refine k_MD_checkpoint_0 (fun _ => hq) (fun _ _ => hq) (fun a1 a2 => ?_)
  have hup := up1 V.1 hu a1
  rcases hb with e | e
  · omega
  · exact absurd a2 e
theorem m_checkpoint_yes (V : VM up num nx us kd rn pd pw h) (hup : up = 1) (hp : ∀ b, b < 16 → pd b ≤ 1) (hj : h 7 12 = 0)
    (hq : ∀ h', fr (pm [] [12, 13, 14]) h h' → JM 3 0 (cnt pd 1 16 + 3) h' → Q (some (nI (cnt pd 1 16))) h') : MC l E M_MD_checkpoint [.inr 7] h Q := by
  obtain ⟨v4, hv⟩ := id V
  obtain ⟨a5, a6, a7, h28, h29, h30, h31⟩ := hv hup
  have u0 : ¬ h 7 4 = 0 := by rw [v4, hup]; decide +kernel
  refine k_MD_checkpoint_0 (fun c => absurd c u0) (fun _ c => absurd hj c) (fun _ _ => ?_)
  refine m_countPending (pd := pd) (fun b hb => by rw [hwa (by decide), hwa (by decide)]; exact h30 b hb) hp ?_
  refine k_MD_checkpoint_24 ?_
  rw [nI_add, nsub (by omega), show cnt pd 1 16 + 3 - 3 = cnt pd 1 16 by omega]
  refine hq _ (((fr.rf.hw rfl).hw rfl).hw rfl) ⟨?_, ?_, ?_⟩
  · rw [hwk, upi, if_neg (by decide), hwk, upi, if_neg (by decide), hwk, upi, if_pos rfl]
  · rw [hwk, upi, if_neg (by decide), hwk, upi, if_pos rfl]
  · rw [hwk, upi, if_pos rfl]
/-- an action of the checkpoint -/
theorem m_act3 {k : Nat} {σ : xD} (hup : up = 1) (hp : ∀ b, b < 16 → pd b ≤ 1) (hk : k < cnt pd 1 16 + 3) (hb : bnd 12 (cnt pd 1 16 + 3) k σ) (J : JM 3 k (cnt pd 1 16 + 3) h) (D : DMt σ h) (V : VM up num nx us kd rn pd pw h) (hq : ∀ h2, fr pact h h2 → DMt (ac (cnt pd 1 16 + 3) (pt3 pd) (pq3 pd pw num nx) k σ) h2 → Q none h2) : MC l E M_MD_checkpointAction [.inr 7, .inl (nI k)] h Q := by
  obtain ⟨v4, hv⟩ := id V
  obtain ⟨a5, a6, a7, h28, h29, h30, h31⟩ := hv hup
  have hnp := cnt_le pd 1 16
  have e14 : h 7 14 - nI 3 = nI (cnt pd 1 16) := by rw [J.2.2, nsub (by omega)]; congr 1
  refine k_MD_checkpointAction_0 (fun c c2 => ?_) (fun c c2 => ?_) (fun c => ?_)
  all_goals rw [e14] at c
  · -- a flush
    have c := nle c (by omega) (by omega)
    rw [e14, nI_add] at c2
    have c2 : k ≠ cnt pd 1 16 + 1 := fun z => c2 (by rw [z])
    refine m_flush D (fun h2 f D2 => ?_)
    refine k_MD_checkpointAction_161 (hq h2 (f.upm rfl rfl) ?_)
    unfold ac
    rw [if_pos (by omega)]
    exact D2
  · -- the head
    rw [e14, nI_add] at c2
    have c2 := neq c2 (by omega) (by omega)
    rw [a5, a6]
    refine m_say (fun h1 f1 b0 b1 b2 b3 => ?_)
    refine k_MD_checkpointAction_148 ?_
    have hn0 : σ.2.1 = 0 := hb.2.2.1 (by omega)
    refine m_writeOut (DM.fr D f1 rfl (fun _ => rfl) (fun _ => rfl) (fun _ => rfl)) (by omega) (by decide) (fun h2 f2 D2 => ?_)
    refine k_MD_checkpointAction_154 (hq h2 ((f1.upm rfl rfl).tr (f2.upm rfl rfl)) ?_)
    unfold ac
    rw [if_neg (by omega)]
    obtain ⟨g1, g2, g3, g4, g5⟩ := D2
    have ept : pt3 pd k = 16 := by unfold pt3; rw [if_pos c2]
    show dv (h2 7 1) (h2 25) (h2 26) (h2 27) σ.1 (σ.2.1 + 1) (esw σ.2.2.1 σ.2.1 (pt3 pd k)) (eww σ.2.2.2 σ.2.1 (fun j => pq3 pd pw num nx (4 * k + j)))
    rw [ept]
    refine ⟨g1, g2, g3, g4, fun i hi => ?_⟩
    rw [g5 i hi]
    unfold eww
    by_cases c3 : 4 * σ.2.1 ≤ i
    · rw [if_pos c3, if_pos c3]
      generalize hw' : i - 4 * σ.2.1 = w
      have hw4 : w < 4 := by omega
      have hd : (4 * k + w) / 4 = cnt pd 1 16 + 1 := by omega
      have hm : (4 * k + w) % 4 = w := by omega
      show h1 32 w = pq3 pd pw num nx (4 * k + w)
      unfold pq3
      rw [hd, hm, if_pos rfl]
      unfold hdw
      rcases (show w = 0 ∨ w = 1 ∨ w = 2 ∨ w = 3 by omega) with rfl | rfl | rfl | rfl
      · exact b0
      · exact b1
      · exact b2
      · exact b3
    · rw [if_neg c3, if_neg c3]
  · -- an image
    have c := nnle c (by omega)
    rw [e14]
    obtain ⟨n1, n2, n3⟩ := nb_ok (f := pd) (v := 1) (k := k) 16 c
    have key : ∀ (j i : Nat) (h' : xh), i + j = 16 → fr (pm [32] [16]) h h' → (k < cnt pd 1 i → h' 7 16 = nI (nb pd 1 k 16) ∧ ∀ w, w < 4 → h' 32 w = pw (4 * nb pd 1 k 16 + w)) → WP l E M_MD_checkpointAction 17 [(0, .inr 7), (1, .inl (nI k)), (2, .inl (nI (cnt pd 1 16))), (3, .inl (nI (cnt pd 1 i))), (4, .inl (nI i))] [] h' Q := by
      intro j
      induction j with
      | zero =>
        intro i h' hi f x
        have ei : i = 16 := by omega
        subst ei
        have c0 : nI 16 ≤ nI 16 := nI_le (Nat.le_refl 16) (by decide)
        obtain ⟨x1, x2⟩ := x c
        refine k_MD_checkpointAction_17 (fun _ => ?_) (fun c => absurd c0 c) (fun c => absurd c0 c) (fun c => absurd c0 c) (fun c => absurd c0 c) (fun c => absurd c0 c) (fun c => absurd c0 c) (fun c => absurd c0 c) (fun c => absurd c0 c) (fun c => absurd c0 c) (fun c => absurd c0 c) (fun c => absurd c0 c) (fun c => absurd c0 c)
        rw [x1]
        have hnn : σ.2.1 ≤ 12 + k := hb.1 (by omega)
        refine m_writeOut (DM.fr D f rfl (fun _ => rfl) (fun _ => rfl) (fun _ => rfl)) (by omega) (by omega) (fun h2 f2 D2 => ?_)
        refine k_MD_checkpointAction_123 (hq h2 ((f.upm rfl rfl).tr (f2.upm rfl rfl)) ?_)
        unfold ac
        rw [if_neg (by omega)]
        obtain ⟨g1, g2, g3, g4, g5⟩ := D2
        have ept : pt3 pd k = nb pd 1 k 16 := by unfold pt3; rw [if_neg (by omega)]
        show dv (h2 7 1) (h2 25) (h2 26) (h2 27) σ.1 (σ.2.1 + 1) (esw σ.2.2.1 σ.2.1 (pt3 pd k)) (eww σ.2.2.2 σ.2.1 (fun j => pq3 pd pw num nx (4 * k + j)))
        rw [ept]
        refine ⟨g1, g2, g3, g4, fun i hi => ?_⟩
        rw [g5 i hi]
        unfold eww
        by_cases c3 : 4 * σ.2.1 ≤ i
        · rw [if_pos c3, if_pos c3]
          generalize hw' : i - 4 * σ.2.1 = w
          have hw4 : w < 4 := by omega
          have hd : (4 * k + w) / 4 = k := by omega
          have hm : (4 * k + w) % 4 = w := by omega
          show h' 32 w = pq3 pd pw num nx (4 * k + w)
          unfold pq3
          rw [hd, hm, if_neg (by omega)]
          exact x2 w hw4
        · rw [if_neg c3, if_neg c3]
      | succ j ih =>
        intro i h' hi f x
        have hi16 : i < 16 := by omega
        have c0 : ¬ nI 16 ≤ nI i := nI_ge hi16 (by decide)
        have ei : (nI i).toNatClampNeg = i := nI_clamp (by omega)
        have i16 : vp_in (nI i) 16 := vp_in_nI hi16 (by decide)
        have hpi := hp i hi16
        have hci := cnt_le pd 1 i
        have z30 : h' 30 ((nI i).toNatClampNeg) = nI (pd i) := by rw [ei, f 30 i rfl]; exact h30 i hi16
        have e4 : nI 4 * nI i = nI (4 * i) := pk_mul 4 i
        have ew : ∀ w, nI 4 * nI i + nI w = nI (4 * i + w) := fun w => by rw [e4, nI_add]
        have i64 : ∀ w, w < 4 → vp_in (nI 4 * nI i + nI w) 64 := fun w hw4 => by rw [ew]; exact vp_in_nI (by omega) (by decide)
        have ec : ∀ w, w < 4 → (nI 4 * nI i + nI w).toNatClampNeg = 4 * i + w := fun w hw4 => by rw [ew]; exact nI_clamp (by omega)
        have ec0 : (nI 4 * nI i).toNatClampNeg = 4 * i := by rw [e4]; exact nI_clamp (by omega)
        have stepN : ¬ pd i = 1 → WP l E M_MD_checkpointAction 17 [(0, .inr 7), (1, .inl (nI k)), (2, .inl (nI (cnt pd 1 16))), (3, .inl (nI (cnt pd 1 i))), (4, .inl (nI i + nI 1))] [] h' Q := by
          intro c
          rw [nI_add]
          have := ih (i + 1) h' (by omega) f
          rw [cnt_ns c] at this
          exact this x
        have stepY : pd i = 1 → ∀ h2, fr (pm [32] [16]) h h2 → (k < cnt pd 1 i + 1 → h2 7 16 = nI (nb pd 1 k 16) ∧ ∀ w, w < 4 → h2 32 w = pw (4 * nb pd 1 k 16 + w)) → WP l E M_MD_checkpointAction 17 [(0, .inr 7), (1, .inl (nI k)), (2, .inl (nI (cnt pd 1 16))), (3, .inl (nI (cnt pd 1 i) + nI 1)), (4, .inl (nI i + nI 1))] [] h2 Q := by
          intro c h2 f2 x2
          rw [nI_add, nI_add]
          have := ih (i + 1) h2 (by omega) f2
          rw [cnt_s c] at this
          exact this x2
        refine k_MD_checkpointAction_17 (fun c => absurd c c0) (fun _ => i16) (fun _ _ => i16) (fun _ c1 _ => ?_) (fun _ c1 c2 => absurd c1 c2) (fun _ _ _ => i16) (fun _ c1 _ c3 => absurd c3 c1) (fun _ c1 c2 _ => ?_) (fun _ _ _ => ?_) (fun _ _ _ => i64 1 (by omega)) (fun _ _ _ => i64 2 (by omega)) (fun _ _ _ => i64 3 (by omega)) (fun _ c1 c2 => ?_)
        · rw [z30, p0 hpi] at c1
          exact stepN c1
        · rw [z30, p0 hpi] at c1
          have c1 : pd i = 1 := by omega
          have c2 : cnt pd 1 i ≠ k := fun z => c2 (by rw [z])
          exact stepY c1 h' f (fun q => x (by omega))
        · rw [e4]; exact vp_in_nI (by omega) (by decide)
        · rw [z30, p0 hpi] at c1
          have c1 : pd i = 1 := by omega
          have c2 := neq c2 (by omega) (by omega)
          have en : nb pd 1 k 16 = i := by rw [← c2]; exact nb_at c1 16 hi16
          have z31 : ∀ w, w < 4 → h' 31 (4 * i + w) = pw (4 * i + w) := fun w hw4 => by rw [f 31 _ rfl]; exact h31 i hi16 c1 w hw4
          rw [ec0, ec 1 (by omega), ec 2 (by omega), ec 3 (by omega)]
          refine m_say (fun h1 f1 b0 b1 b2 b3 => ?_)
          have z30' : h1 30 ((nI i).toNatClampNeg) = nI (pd i) := by rw [f1 30 _ rfl]; exact z30
          refine k_MD_checkpointAction_85 i16 (fun d => ?_) (fun _ => ?_)
          · rw [z30', p0 hpi] at d; exact absurd c1 d
          · refine stepY c1 _ ((f.tr (f1.upm rfl rfl)).hw rfl) (fun _ => ⟨?_, fun w hw4 => ?_⟩)
            · rw [hwk, upi, if_pos rfl, en]
            · rw [hwa (by decide), en]
              rcases (show w = 0 ∨ w = 1 ∨ w = 2 ∨ w = 3 by omega) with rfl | rfl | rfl | rfl
              · rw [b0]; exact z31 0 (by omega)
              · rw [b1]; exact z31 1 (by omega)
              · rw [b2]; exact z31 2 (by omega)
              · rw [b3]; exact z31 3 (by omega)
    exact key 16 0 h (by omega) fr.rf (fun q => absurd q (Nat.not_lt_zero _))
end CHKC
