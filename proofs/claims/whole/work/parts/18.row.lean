/-! COMMIT: the row, as pure data, and the class's Row -/
def mx (h w : Int32) : Int32 := (((h ^^^ w) * nI 40503) + nI 7) ^^^ (ushr (((h ^^^ w) * nI 40503) + nI 7) (nI 15))
def mx4 (s : Int32) (f : Nat → Int32) : Int32 := mx (mx (mx (mx s (f 0)) (f 1)) (f 2)) (f 3)
def w4 (a b c d : Int32) (w : Nat) : Int32 := if w = 0 then a else if w = 1 then b else if w = 2 then c else d
def fv (rn : Nat → Int32) (b : Nat) : Nat := b + if rn (4 * b) = nI 77001 then 16 else 0
def gwd (kd : Nat → Nat) (rn : Nat → Int32) (g c : Nat) : Nat → Int32
  | 0 => nI c
  | j + 1 => gwd kd rn g c j + (nI (fv rn (nb kd 1 (4 * g + j) 16)) <<< (nI (3 + 5 * j) &&& 31))
def gc (m g : Nat) : Nat := if m - 4 * g < 4 then m - 4 * g else 4
def rvw (kd : Nat → Nat) : Nat → Int32
  | 0 => nI 0
  | b + 1 => if kd b = 2 then rvw kd b ||| (nI 1 <<< (nI b &&& 31)) else rvw kd b
def imw (rn : Nat → Int32) (b w : Nat) : Int32 := if w = 0 then (if rn (4 * b) = nI 77001 then nI 0 else rn (4 * b)) else rn (4 * b + w)
/-- how many sectors the groups have -/
def gl (kd : Nat → Nat) : Nat := cnt kd 1 16 + (cnt kd 1 16 + 3) / 4
def bod (kd : Nat → Nat) (rn : Nat → Int32) (num i w : Nat) : Int32 :=
  if i < gl kd then (if i % 5 = 0 then w4 (nI 77001) (nI 1) (nI num) (gwd kd rn (i / 5) (gc (cnt kd 1 16) (i / 5)) (gc (cnt kd 1 16) (i / 5))) w else imw rn (nb kd 1 (i / 5 * 4 + i % 5 - 1) 16) w)
  else w4 (nI 77001) (nI 2) (nI num) (rvw kd 16) w
def hs (kd : Nat → Nat) (rn : Nat → Int32) (num : Nat) : Nat → Int32
  | 0 => nI num
  | i + 1 => mx4 (hs kd rn num i) (bod kd rn num i)
/-- one less than the row's length -/
def rl1 (kd : Nat → Nat) : Nat := gl kd + if 0 < cnt kd 2 16 then 1 else 0
def rw4 (kd : Nat → Nat) (rn : Nat → Int32) (num i w : Nat) : Int32 := if i = rl1 kd then w4 (nI 77001) (nI 3) (nI num) (hs kd rn num (rl1 kd)) w else bod kd rn num i w
theorem rvw_bits {kd : Nat → Nat} : ∀ n, n ≤ 16 → ∀ i, i < 32 → bt (rvw kd n) i = (decide (i < n) && decide (kd i = 2))
  | 0, _, i, hi => by
    show bt (nI 0) i = _
    rw [bt0 i hi]
    simp
  | n + 1, hn, i, hi => by
    have ih := rvw_bits (kd := kd) n (by omega) i hi
    unfold rvw
    by_cases c : kd n = 2
    · rw [if_pos c, b_or, ih, b_pow n (by omega) i hi]
      by_cases e : i = n
      · subst e; simp [c]
      · have : (i < n + 1) = (i < n) := propext ⟨fun _ => by omega, fun _ => by omega⟩
        simp [e, this]
    · rw [if_neg c, ih]
      by_cases e : i = n
      · subst e; simp [c]
      · have : (i < n + 1) = (i < n) := propext ⟨fun _ => by omega, fun _ => by omega⟩
        simp [this]
theorem rvw_eq {kd : Nat → Nat} {x : Int32} (h : ∀ i, i < 32 → bt x i = (decide (i < 16) && decide (kd i = 2))) : x = rvw kd 16 := b_ext (fun i hi => by rw [h i hi, rvw_bits 16 (Nat.le_refl 16) i hi])
theorem cnt_pos {f : Nat → Nat} {v : Nat} : ∀ n, 0 < cnt f v n ↔ ∃ b, b < n ∧ f b = v
  | 0 => ⟨fun h => absurd h (Nat.not_lt_zero _), fun ⟨b, h, _⟩ => absurd h (Nat.not_lt_zero _)⟩
  | n + 1 => by
    unfold cnt
    by_cases c : f n = v
    · rw [if_pos c]
      exact ⟨fun _ => ⟨n, by omega, c⟩, fun _ => by omega⟩
    · rw [if_neg c, cnt_pos n]
      exact ⟨fun ⟨b, h1, h2⟩ => ⟨b, by omega, h2⟩, fun ⟨b, h1, h2⟩ => ⟨b, by have : b ≠ n := fun e => c (by rw [← e]; exact h2); omega, h2⟩⟩
theorem rvw_0 {kd : Nat → Nat} : rvw kd 16 = 0 ↔ cnt kd 2 16 = 0 := by
  constructor
  · intro h
    rcases Nat.eq_zero_or_pos (cnt kd 2 16) with q | q
    · exact q
    · obtain ⟨b, hb, hk⟩ := (cnt_pos 16).mp q
      have := rvw_bits (kd := kd) 16 (Nat.le_refl 16) b (by omega)
      rw [h, b_0] at this
      simp [hb, hk] at this
  · intro h
    refine b_ext (fun i hi => ?_)
    rw [rvw_bits 16 (Nat.le_refl 16) i hi, b_0]
    have : ¬ (i < 16 ∧ kd i = 2) := fun ⟨q1, q2⟩ => by
      have := (cnt_pos (f := kd) (v := 2) 16).mpr ⟨i, q1, q2⟩
      omega
    simp
    intro q1 q2
    exact this ⟨q1, q2⟩
section ROWC
variable {l : Launch} {E : xE} {h : xh} {Q : Option Int32 → xh → Prop}
variable {up num nx us : Nat} {kd : Nat → Nat} {rn : Nat → Int32} {pd : Nat → Nat} {pw : Nat → Int32}
theorem s_add {p : Nat} {s x1 x2 x3 x4 : Int32} (hp : h 4 2 = nI p) (h12 : p < 12) (hs3 : h 4 3 = s) (hq : ∀ h', fr (pc [4, 15]) h h' → h' 4 2 = nI (p + 1) → h' 4 3 = mx4 s (w4 x1 x2 x3 x4) → (∀ w, w < 4 → h' 15 (4 * p + w) = w4 x1 x2 x3 x4 w) → (∀ i, i < 4 * p ∨ 4 * p + 4 ≤ i → h' 15 i = h 15 i) → Q none h') : MC l E M_RW_add [.inr 4, .inl x1, .inl x2, .inl x3, .inl x4] h Q := by
  have e0 : nI p * nI 4 = nI (4 * p) := by rw [pk_mul, Nat.mul_comm]
  have ec : ∀ w, w < 4 → (nI (4 * p + w)).toNatClampNeg = 4 * p + w := fun w hw4 => nI_clamp (by omega)
  have ec0 : (nI (4 * p)).toNatClampNeg = 4 * p := nI_clamp (by omega)
  refine k_RW_add_0 (fun _ => ?_) (fun _ => ?_) (fun _ => ?_) (fun _ => ?_) (fun _ => ?_) (fun c => absurd (by rw [hp]; exact nI_lt h12 (by decide)) c)
  · rw [hp, e0]; exact vp_in_nI (by omega) (by decide)
  · rw [hp, e0, nI_add]; exact vp_in_nI (by omega) (by decide)
  · rw [hp, e0, nI_add]; exact vp_in_nI (by omega) (by decide)
  · rw [hp, e0, nI_add]; exact vp_in_nI (by omega) (by decide)
  · show Q none (hw (hw (hw (hw (hw (hw h 15 (((h 4 2) * nI 4).toNatClampNeg) x1) 15 ((((h 4 2) * nI 4) + nI 1).toNatClampNeg) x2) 15 ((((h 4 2) * nI 4) + nI 2).toNatClampNeg) x3) 15 ((((h 4 2) * nI 4) + nI 3).toNatClampNeg) x4) 4 3 (mx (mx (mx (mx (h 4 3) x1) x2) x3) x4)) 4 2 ((h 4 2) + nI 1))
    rw [hp, hs3, e0, nI_add, nI_add, nI_add, nI_add, ec 1 (by omega), ec 2 (by omega), ec 3 (by omega), ec0]
    refine hq _ ((((((fr.rf.hw rfl).hw rfl).hw rfl).hw rfl).hw rfl).hw rfl) ?_ ?_ (fun w hw4 => ?_) (fun i hi => ?_)
    · rw [hwk, upi, if_pos rfl]
    · rw [hwk, upi, if_neg (by decide), hwk, upi, if_pos rfl]; rfl
    · rw [hwa (by decide), hwa (by decide)]
      rcases (show w = 0 ∨ w = 1 ∨ w = 2 ∨ w = 3 by omega) with rfl | rfl | rfl | rfl
      · rw [hwk, upi, if_neg (by omega), hwk, upi, if_neg (by omega), hwk, upi, if_neg (by omega), hwk, upi, if_pos (by omega)]; rfl
      · rw [hwk, upi, if_neg (by omega), hwk, upi, if_neg (by omega), hwk, upi, if_pos rfl]; rfl
      · rw [hwk, upi, if_neg (by omega), hwk, upi, if_pos rfl]; rfl
      · rw [hwk, upi, if_pos rfl]; rfl
    · rw [hwa (by decide), hwa (by decide), hwk, upi, if_neg (by omega), hwk, upi, if_neg (by omega), hwk, upi, if_neg (by omega), hwk, upi, if_neg (by omega)]
theorem bod_hd {g : Nat} (hg : 5 * g < gl kd) (w : Nat) : bod kd rn num (5 * g) w = w4 (nI 77001) (nI 1) (nI num) (gwd kd rn g (gc (cnt kd 1 16) g) (gc (cnt kd 1 16) g)) w := by
  unfold bod
  rw [if_pos hg, if_pos (by omega), show 5 * g / 5 = g by omega]
theorem bod_im {g j : Nat} (hj : j < 4) (hg : 5 * g + 1 + j < gl kd) (w : Nat) : bod kd rn num (5 * g + 1 + j) w = imw rn (nb kd 1 (4 * g + j) 16) w := by
  unfold bod
  rw [if_pos hg, if_neg (by omega), show (5 * g + 1 + j) / 5 * 4 + (5 * g + 1 + j) % 5 - 1 = 4 * g + j by omega]
theorem s_addGroup {g c : Nat} (hkd : ∀ b, b < 16 → kd b ≤ 2) (h12 : ∀ b, b < 16 → kd b = 1 → ∀ w, w < 4 → h 12 (4 * b + w) = rn (4 * b + w)) (hm : cnt kd 1 16 ≤ 8) (hg : g ≤ 1) (hc1 : 1 ≤ c) (hc4 : c ≤ 4) (hcm : 4 * g + c ≤ cnt kd 1 16) (hgc : gc (cnt kd 1 16) g = c) (h42 : h 4 2 = nI (5 * g)) (h43 : h 4 3 = hs kd rn num (5 * g)) (h16 : ∀ j, j < c → h 16 j = nI (nb kd 1 (4 * g + j) 16))
    (hq : ∀ h', fr (pc [4, 15]) h h' → h' 4 2 = nI (5 * g + 1 + c) → h' 4 3 = hs kd rn num (5 * g + 1 + c) → (∀ i, 5 * g ≤ i → i < 5 * g + 1 + c → ∀ w, w < 4 → h' 15 (4 * i + w) = bod kd rn num i w) → (∀ q, q < 4 * (5 * g) → h' 15 q = h 15 q) → Q none h') : MC l E M_RW_addGroup [.inr 4, .inr 2, .inl (nI c), .inl (nI num)] h Q := by
  have hgl : 5 * g + 1 + c ≤ gl kd := by unfold gl; omega
  have nbk : ∀ j, j < c → nb kd 1 (4 * g + j) 16 < 16 ∧ kd (nb kd 1 (4 * g + j) 16) = 1 := fun j hj => by
    have := nb_ok (f := kd) (v := 1) (k := 4 * g + j) 16 (by omega)
    exact ⟨this.1, this.2.1⟩
  -- the images
  have key2 : ∀ (x4 : Int32) (j i : Nat) (h' : xh), i + j = c → fr (pc [4, 15]) h h' → h' 4 2 = nI (5 * g + 1 + i) → h' 4 3 = hs kd rn num (5 * g + 1 + i) → (∀ q, 5 * g ≤ q → q < 5 * g + 1 + i → ∀ w, w < 4 → h' 15 (4 * q + w) = bod kd rn num q w) → (∀ q, q < 4 * (5 * g) → h' 15 q = h 15 q) → WP l E M_RW_addGroup 78 [(0, .inr 4), (1, .inr 2), (2, .inl (nI c)), (3, .inl (nI num)), (4, .inl x4), (5, .inl (nI i))] [] h' Q := by
    intro x4 j
    induction j with
    | zero =>
      intro i h' hi f y1 y2 y3 y4
      have ei : i = c := by omega
      subst ei
      have c0 : nI i ≤ nI i := nI_le (Nat.le_refl i) (by omega)
      exact k_RW_addGroup_78 (fun _ => hq h' f y1 y2 y3 y4) (fun z => absurd c0 z) (fun z => absurd c0 z) (fun z => absurd c0 z) (fun z => absurd c0 z) (fun z => absurd c0 z) (fun z => absurd c0 z) (fun z => absurd c0 z) (fun z => absurd c0 z) (fun z => absurd c0 z) (fun z => absurd c0 z)
    | succ j ih =>
      intro i h' hi f y1 y2 y3 y4
      have c0 : ¬ nI c ≤ nI i := nI_ge (by omega) (by omega)
      have ei : (nI i).toNatClampNeg = i := nI_clamp (by omega)
      obtain ⟨n1, n2⟩ := nbk i (by omega)
      have z16 : h' 16 ((nI i).toNatClampNeg) = nI (nb kd 1 (4 * g + i) 16) := by rw [ei, f 16 i rfl]; exact h16 i (by omega)
      generalize hB : nb kd 1 (4 * g + i) 16 = B at z16 n1 n2
      have ew : ∀ w, nI B * nI 4 + nI w = nI (4 * B + w) := fun w => by rw [pk_mul, nI_add, show B * 4 + w = 4 * B + w by omega]
      have i64 : ∀ w, w < 4 → vp_in (h' 16 ((nI i).toNatClampNeg) * nI 4 + nI w) 64 := fun w hw4 => by rw [z16, ew]; exact vp_in_nI (by omega) (by decide)
      have z12 : ∀ w, w < 4 → h' 12 ((h' 16 ((nI i).toNatClampNeg) * nI 4 + nI w).toNatClampNeg) = rn (4 * B + w) := fun w hw4 => by
        rw [z16, ew, nI_clamp (by omega), f 12 _ rfl]
        exact h12 B n1 n2 w hw4
      have fin : ∀ (a : Int32) (x6 x7 : Int32), a = imw rn B 0 → MC l E M_RW_add [.inr 4, .inl a, .inl (rn (4 * B + 1)), .inl (rn (4 * B + 2)), .inl (rn (4 * B + 3))] h' (fun r h' => WP l E M_RW_addGroup 140 [(0, .inr 4), (1, .inr 2), (2, .inl (nI c)), (3, .inl (nI num)), (4, .inl x4), (5, .inl (nI i)), (6, .inl x6), (7, .inl x7)] (rpush r []) h' Q) := by
        intro a x6 x7 ea
        refine s_add y1 (by omega) y2 (fun h2 f2 b1 b2 b3 b4 => ?_)
        refine k_RW_addGroup_140 ?_
        rw [nI_add]
        have eb : ∀ w, w < 4 → w4 a (rn (4 * B + 1)) (rn (4 * B + 2)) (rn (4 * B + 3)) w = bod kd rn num (5 * g + 1 + i) w := by
          intro w hw4
          rw [bod_im (by omega) (by omega), hB]
          unfold w4
          rcases (show w = 0 ∨ w = 1 ∨ w = 2 ∨ w = 3 by omega) with rfl | rfl | rfl | rfl
          · exact ea
          · rfl
          · rfl
          · rfl
        refine ih (i + 1) h2 (by omega) (f.tr f2) (by rw [b1]; congr 1) ?_ (fun q h1 h2' w hw4 => ?_) (fun q hq => ?_)
        · rw [b2, show 5 * g + 1 + (i + 1) = 5 * g + 1 + i + 1 by omega]
          show _ = mx4 (hs kd rn num (5 * g + 1 + i)) (bod kd rn num (5 * g + 1 + i))
          unfold mx4
          rw [eb 0 (by omega), eb 1 (by omega), eb 2 (by omega), eb 3 (by omega)]
        · by_cases e : q = 5 * g + 1 + i
          · subst e; rw [b3 w hw4]; exact eb w hw4
          · rw [b4 _ (by omega)]; exact y3 q h1 (by omega) w hw4
        · rw [b4 _ (by omega)]; exact y4 q hq
      refine k_RW_addGroup_78 (fun z => absurd z c0) (fun _ => vp_in_nI (by omega) (by decide)) (fun _ => i64 0 (by omega)) (fun _ _ => i64 1 (by omega)) (fun _ _ => i64 2 (by omega)) (fun _ _ => i64 3 (by omega)) (fun _ d => ?_) (fun _ _ => i64 1 (by omega)) (fun _ _ => i64 2 (by omega)) (fun _ _ => i64 3 (by omega)) (fun _ d => ?_)
      all_goals rw [z12 0 (by omega)] at d
      all_goals rw [z12 0 (by omega), z12 1 (by omega), z12 2 (by omega), z12 3 (by omega)]
      · refine fin _ _ _ ?_
        unfold imw
        rw [Nat.add_zero] at d
        rw [if_pos rfl, if_neg d, Nat.add_zero]
      · refine fin _ _ _ ?_
        unfold imw
        rw [Nat.add_zero] at d
        rw [if_pos rfl, if_pos d]
  -- the group's word
  have key1 : ∀ (j i : Nat), i + j = c → WP l E M_RW_addGroup 6 [(0, .inr 4), (1, .inr 2), (2, .inl (nI c)), (3, .inl (nI num)), (4, .inl (gwd kd rn g c i)), (5, .inl (nI i))] [] h Q := by
    intro j
    induction j with
    | zero =>
      intro i hi
      have ei : i = c := by omega
      subst ei
      have c0 : nI i ≤ nI i := nI_le (Nat.le_refl i) (by omega)
      refine k_RW_addGroup_6 (fun _ => ?_) (fun z => absurd c0 z) (fun z => absurd c0 z) (fun z => absurd c0 z) (fun z => absurd c0 z) (fun z => absurd c0 z) (fun z => absurd c0 z)
      refine s_add h42 (by omega) h43 (fun h2 f2 b1 b2 b3 b4 => ?_)
      refine k_RW_addGroup_75 ?_
      have eb : ∀ w, w < 4 → w4 (nI 77001) (nI 1) (nI num) (gwd kd rn g i i) w = bod kd rn num (5 * g) w := by
        intro w hw4
        rw [bod_hd (by omega), hgc]
      refine key2 _ i 0 h2 (by omega) f2 b1 ?_ (fun q h1 h2' w hw4 => ?_) (fun q hq => b4 q (by omega))
      · rw [b2]
        show _ = mx4 (hs kd rn num (5 * g)) (bod kd rn num (5 * g))
        unfold mx4
        rw [eb 0 (by omega), eb 1 (by omega), eb 2 (by omega), eb 3 (by omega)]
      · rw [show q = 5 * g by omega, b3 w hw4]; exact eb w hw4
    | succ j ih =>
      intro i hi
      have c0 : ¬ nI c ≤ nI i := nI_ge (by omega) (by omega)
      have ei : (nI i).toNatClampNeg = i := nI_clamp (by omega)
      obtain ⟨n1, n2⟩ := nbk i (by omega)
      have z16 : h 16 ((nI i).toNatClampNeg) = nI (nb kd 1 (4 * g + i) 16) := by rw [ei]; exact h16 i (by omega)
      have ew : ∀ B w, nI B * nI 4 + nI w = nI (4 * B + w) := fun B w => by rw [pk_mul, nI_add, show B * 4 + w = 4 * B + w by omega]
      have i4 : vp_in (nI i) 4 := vp_in_nI (by omega) (by decide)
      have z12 : h 12 ((h 16 ((nI i).toNatClampNeg) * nI 4 + nI 0).toNatClampNeg) = rn (4 * nb kd 1 (4 * g + i) 16) := by
        rw [z16, ew, nI_clamp (by omega)]
        exact h12 _ n1 n2 0 (by omega)
      have esh : nI 3 + nI 5 * nI i = nI (3 + 5 * i) := by rw [pk_mul, nI_add]
      refine k_RW_addGroup_6 (fun z => absurd z c0) (fun _ => i4) (fun _ => by rw [z16, ew]; exact vp_in_nI (by omega) (by decide)) (fun _ _ => i4) (fun _ d => ?_) (fun _ _ => i4) (fun _ d => ?_)
      all_goals rw [z12] at d
      all_goals rw [z16, esh, nI_add, nI_add]
      · have := ih (i + 1) (by omega)
        unfold gwd at this
        unfold fv at this
        rw [if_neg d] at this
        exact this
      · have := ih (i + 1) (by omega)
        unfold gwd at this
        unfold fv at this
        rw [if_pos d] at this
        exact this
  exact k_RW_addGroup_0 (key1 c 0 (by omega))
theorem s_build (V : VC up num nx us kd rn pd pw h) (I : vi up num nx us kd pd) (hup : up = 1) (hq : ∀ h', fr (pc [4, 15, 16]) h h' → h' 4 2 = nI (rl1 kd + 1) → (∀ i, i < rl1 kd + 1 → ∀ w, w < 4 → h' 15 (4 * i + w) = rw4 kd rn num i w) → Q none h') : MC l E M_RW_build [.inr 4, .inr 2, .inl (rvw kd 16), .inl (nI num)] h Q := by
  obtain ⟨v6, hv⟩ := id V
  obtain ⟨a8, a9, a10, h7, h2, h3, h11, h12, h13, h14⟩ := hv hup
  obtain ⟨hnx, hus, hnum, hkd, hpd, hm⟩ := I.2 hup
  refine k_RW_build_0 ?_
  -- behind the groups
  have tail : ∀ (x4 x5 : Int32) (h' : xh), fr (pc [4, 15, 16]) h h' → h' 4 2 = nI (gl kd) → h' 4 3 = hs kd rn num (gl kd) → (∀ i, i < gl kd → ∀ w, w < 4 → h' 15 (4 * i + w) = bod kd rn num i w) →
      ((rvw kd 16 = 0 → MC l E M_RW_add [.inr 4, .inl (nI 77001), .inl (nI 3), .inl (nI num), .inl (h' 4 3)] h' (fun r h' => WP l E M_RW_build 105 [(0, .inr 4), (1, .inr 2), (2, .inl (rvw kd 16)), (3, .inl (nI num)), (4, .inl x4), (5, .inl x5)] (rpush r []) h' Q)) ∧
       (¬ rvw kd 16 = 0 → MC l E M_RW_add [.inr 4, .inl (nI 77001), .inl (nI 2), .inl (nI num), .inl (rvw kd 16)] h' (fun r h' => WP l E M_RW_build 93 [(0, .inr 4), (1, .inr 2), (2, .inl (rvw kd 16)), (3, .inl (nI num)), (4, .inl x4), (5, .inl x5)] (rpush r []) h' Q))) := by
    intro x4 x5 h' f y1 y2 y3
    have hgl : gl kd ≤ 10 := by unfold gl; omega
    have last : ∀ (h2 : xh), fr (pc [4, 15, 16]) h h2 → h2 4 2 = nI (rl1 kd) → rl1 kd < 12 → h2 4 3 = hs kd rn num (rl1 kd) → (∀ i, i < rl1 kd → ∀ w, w < 4 → h2 15 (4 * i + w) = bod kd rn num i w) → MC l E M_RW_add [.inr 4, .inl (nI 77001), .inl (nI 3), .inl (nI num), .inl (h2 4 3)] h2 (fun r h' => WP l E M_RW_build 105 [(0, .inr 4), (1, .inr 2), (2, .inl (rvw kd 16)), (3, .inl (nI num)), (4, .inl x4), (5, .inl x5)] (rpush r []) h' Q) := by
      intro h2 f2 z1 zl z2 z3
      refine s_add z1 zl z2 (fun h3 f3 b1 b2 b3 b4 => ?_)
      refine k_RW_build_105 (hq h3 (f2.tr (f3.up rfl)) b1 (fun i hi w hw4 => ?_))
      unfold rw4
      by_cases e : i = rl1 kd
      · subst e; rw [if_pos rfl, b3 w hw4, z2]
      · rw [if_neg e, b4 _ (by omega)]; exact z3 i (by omega) w hw4
    refine ⟨fun d => ?_, fun d => ?_⟩
    · have hz := rvw_0.mp d
      have er : rl1 kd = gl kd := by unfold rl1; rw [if_neg (by omega)]; rfl
      refine last h' f (by rw [er]; exact y1) (by omega) (by rw [er]; exact y2) (by rw [er]; exact y3)
    · have hz : 0 < cnt kd 2 16 := Nat.pos_of_ne_zero (fun z => d (rvw_0.mpr z))
      have er : rl1 kd = gl kd + 1 := by unfold rl1; rw [if_pos hz]
      refine s_add y1 (by omega) y2 (fun h3 f3 b1 b2 b3 b4 => ?_)
      refine k_RW_build_93 ?_
      have eb : ∀ w, bod kd rn num (gl kd) w = w4 (nI 77001) (nI 2) (nI num) (rvw kd 16) w := fun w => by unfold bod; rw [if_neg (by omega)]
      refine last h3 (f.tr (f3.up rfl)) (by rw [er]; exact b1) (by omega) ?_ (fun i hi w hw4 => ?_)
      · rw [er, b2]
        show _ = mx4 (hs kd rn num (gl kd)) (bod kd rn num (gl kd))
        unfold mx4
        rw [eb 0, eb 1, eb 2, eb 3]
      · by_cases e : i = gl kd
        · subst e; rw [b3 w hw4, eb w]
        · rw [b4 _ (by omega)]; exact y3 i (by omega) w hw4
  have key : ∀ (j i : Nat) (h' : xh), i + j = 16 → fr (pc [4, 15, 16]) h h' → h' 4 2 = nI (5 * (cnt kd 1 i / 4)) → h' 4 3 = hs kd rn num (5 * (cnt kd 1 i / 4)) → (∀ q, q < 5 * (cnt kd 1 i / 4) → ∀ w, w < 4 → h' 15 (4 * q + w) = bod kd rn num q w) → (∀ q, q < cnt kd 1 i % 4 → h' 16 q = nI (nb kd 1 (4 * (cnt kd 1 i / 4) + q) 16)) → WP l E M_RW_build 16 [(0, .inr 4), (1, .inr 2), (2, .inl (rvw kd 16)), (3, .inl (nI num)), (4, .inl (nI (cnt kd 1 i % 4))), (5, .inl (nI i))] [] h' Q := by
    intro j
    induction j with
    | zero =>
      intro i h' hi f y1 y2 y3 y4
      have ei : i = 16 := by omega
      subst ei
      have c0 : nI 16 ≤ nI 16 := nI_le (Nat.le_refl 16) (by decide)
      generalize hM : cnt kd 1 16 = M at y1 y2 y3 y4 hm
      have hglM : gl kd = M + (M + 3) / 4 := by unfold gl; rw [hM]
      refine k_RW_build_16 (fun _ d1 d2 => ?_) (fun _ d1 d2 => ?_) (fun _ d1 => ?_) (fun z => absurd c0 z) (fun z => absurd c0 z) (fun z => absurd c0 z) (fun z => absurd c0 z) (fun z => absurd c0 z) (fun z => absurd c0 z) (fun z => absurd c0 z)
      · have d1 : M % 4 = 0 := by
          rcases Nat.eq_zero_or_pos (M % 4) with q | q
          · exact q
          · exact absurd d1 (nI_nle q (by omega))
        have eg : 5 * (M / 4) = gl kd := by omega
        rw [eg] at y1 y2 y3
        exact (tail _ _ h' f y1 y2 y3).1 d2
      · have d1 : M % 4 = 0 := by
          rcases Nat.eq_zero_or_pos (M % 4) with q | q
          · exact q
          · exact absurd d1 (nI_nle q (by omega))
        have eg : 5 * (M / 4) = gl kd := by omega
        rw [eg] at y1 y2 y3
        exact (tail _ _ h' f y1 y2 y3).2 d2
      · have d1 : 0 < M % 4 := by
          rcases Nat.eq_zero_or_pos (M % 4) with q | q
          · exact absurd (by rw [q]; exact nI_le (Nat.le_refl 0) (by decide)) d1
          · exact q
        refine s_addGroup (kd := kd) (rn := rn) (num := num) (g := M / 4) hkd (fun b hb hk w hw4 => by rw [f 12 _ rfl]; exact h12 b hb hk w hw4) (by omega) (by omega) (by omega) (by omega) (by omega) (by rw [hM]; unfold gc; rw [if_pos (by omega)]; omega) y1 y2 y4 (fun h2 f2 b1 b2 b3 b4 => ?_)
        have eg : 5 * (M / 4) + 1 + M % 4 = gl kd := by omega
        rw [eg] at b1 b2 b3
        have t := tail (nI (M % 4)) (nI 16) h2 (f.tr (f2.up rfl)) b1 b2 (fun q hq w hw4 => by
          rcases Nat.lt_or_ge q (5 * (M / 4)) with z | z
          · rw [b4 _ (by omega)]; exact y3 q z w hw4
          · exact b3 q z hq w hw4)
        exact k_RW_build_80 t.1 t.2
    | succ j ih =>
      intro i h' hi f y1 y2 y3 y4
      have hi16 : i < 16 := by omega
      have c0 : ¬ nI 16 ≤ nI i := nI_ge hi16 (by decide)
      have ei : (nI i).toNatClampNeg = i := nI_clamp (by omega)
      have i16 : vp_in (nI i) 16 := vp_in_nI hi16 (by decide)
      have z11 : h' 11 ((nI i).toNatClampNeg) = nI (if kd i = 1 then 1 else 0) := by rw [ei, f 11 i rfl]; exact h11 i hi16
      have hci := cnt_mono (f := kd) (v := 1) 16 (show i + 1 ≤ 16 by omega)
      refine k_RW_build_16 (fun z => absurd z c0) (fun z => absurd z c0) (fun z => absurd z c0) (fun _ => i16) (fun _ => by rw [z11]; exact k01) (fun _ d _ => ?_) (fun _ _ d2 => ?_) (fun _ _ => vp_in_nI (by omega) (by decide)) (fun _ d d2 => ?_) (fun _ d d2 => ?_)
      · rw [z11, k0] at d
        rw [nI_add]
        have := ih (i + 1) h' (by omega) f
        rw [cnt_ns d] at this
        exact this y1 y2 y3 y4
      · have := neq d2 (by omega) (by omega)
        omega
      · rw [z11, k0] at d
        have d : kd i = 1 := Classical.byContradiction d
        rw [cnt_s d] at hci
        rw [nI_add] at d2
        have d2 : cnt kd 1 i % 4 + 1 ≠ 4 := fun z => d2 (by rw [z])
        rw [nI_add, nI_add, nI_clamp (by omega)]
        have := ih (i + 1) (hw h' 16 (cnt kd 1 i % 4) (nI i)) (by omega) (f.hw rfl)
        rw [cnt_s d, show (cnt kd 1 i + 1) / 4 = cnt kd 1 i / 4 by omega, show (cnt kd 1 i + 1) % 4 = cnt kd 1 i % 4 + 1 by omega, hwa (by decide), hwa (by decide)] at this
        refine this y1 y2 y3 (fun q hq => ?_)
        rw [hwk, upi]
        by_cases e : q = cnt kd 1 i % 4
        · rw [if_pos e, e, show 4 * (cnt kd 1 i / 4) + cnt kd 1 i % 4 = cnt kd 1 i by omega, nb_at d 16 hi16]
        · rw [if_neg e]; exact y4 q (by omega)
      · rw [z11, k0] at d
        have d : kd i = 1 := Classical.byContradiction d
        rw [cnt_s d] at hci
        rw [nI_add] at d2
        have d2 : cnt kd 1 i % 4 + 1 = 4 := neq d2 (by omega) (by omega)
        rw [nI_add, d2, nI_clamp (by omega)]
        have f1 : fr (pc [4, 15, 16]) h (hw h' 16 (cnt kd 1 i % 4) (nI i)) := f.hw rfl
        refine s_addGroup (kd := kd) (rn := rn) (num := num) (g := cnt kd 1 i / 4) (c := 4) hkd (fun b hb hk w hw4 => by rw [f1 12 _ rfl]; exact h12 b hb hk w hw4) hm (by omega) (by omega) (by omega) (by omega) (by unfold gc; rw [if_neg (by omega)]) (by rw [hwa (by decide)]; exact y1) (by rw [hwa (by decide)]; exact y2) (fun q hq => ?_) (fun h2 f2 b1 b2 b3 b4 => ?_)
        · rw [hwk, upi]
          by_cases e : q = cnt kd 1 i % 4
          · rw [if_pos e, e, show 4 * (cnt kd 1 i / 4) + cnt kd 1 i % 4 = cnt kd 1 i by omega, nb_at d 16 hi16]
          · rw [if_neg e]; exact y4 q (by omega)
        · refine k_RW_build_58 ?_
          rw [nI_add]
          have := ih (i + 1) h2 (by omega) (f1.tr (f2.up rfl))
          rw [cnt_s d, show (cnt kd 1 i + 1) / 4 = cnt kd 1 i / 4 + 1 by omega, show (cnt kd 1 i + 1) % 4 = 0 by omega, show 5 * (cnt kd 1 i / 4 + 1) = 5 * (cnt kd 1 i / 4) + 1 + 4 by omega] at this
          refine this b1 b2 (fun q hq w hw4 => ?_) (fun q hq => absurd hq (Nat.not_lt_zero _))
          rcases Nat.lt_or_ge q (5 * (cnt kd 1 i / 4)) with z | z
          · rw [b4 _ (by omega), hwa (by decide)]; exact y3 q z w hw4
          · exact b3 q z hq w hw4
  have q0 : cnt kd 1 0 = 0 := rfl
  have q1 : 5 * (cnt kd 1 0 / 4) = 0 := by simp [q0]
  refine key 16 0 _ (by omega) ((fr.rf.hw rfl).hw rfl) ?_ ?_ (fun q hq => absurd hq (by rw [q1]; omega)) (fun q hq => absurd hq (by rw [q0]; omega))
  · rw [hwk, upi, if_neg (by decide), hwk, upi, if_pos rfl, q1]
  · rw [hwk, upi, if_pos rfl, q1]; rfl
end ROWC
