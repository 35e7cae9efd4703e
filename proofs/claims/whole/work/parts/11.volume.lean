/-! THE VOLUME, as pure data: up, number, next, used, kinds of the blocks, running words, pending or not, pending words -/
def upN (f : Nat → Nat) (b v : Nat) : Nat → Nat := fun k => if k = b then v else f k
def cnt (f : Nat → Nat) (v : Nat) : Nat → Nat
  | 0 => 0
  | n + 1 => if f n = v then cnt f v n + 1 else cnt f v n
theorem cnt_le (f : Nat → Nat) (v : Nat) : ∀ n, cnt f v n ≤ n
  | 0 => Nat.le_refl 0
  | n + 1 => by
    unfold cnt
    have := cnt_le f v n
    split <;> omega
theorem cnt_out {f : Nat → Nat} {b x v : Nat} : ∀ n, n ≤ b → cnt (upN f b x) v n = cnt f v n
  | 0, _ => rfl
  | n + 1, h => by
    have e : upN f b x n = f n := by unfold upN; rw [if_neg (by omega)]
    unfold cnt
    rw [cnt_out n (by omega), e]
theorem cnt_up {f : Nat → Nat} {b x v : Nat} : ∀ n, b < n → cnt (upN f b x) v n + (if f b = v then 1 else 0) = cnt f v n + (if x = v then 1 else 0)
  | 0, h => absurd h (Nat.not_lt_zero _)
  | n + 1, h => by
    unfold cnt
    rcases Nat.lt_or_ge b n with q | q
    · have := cnt_up (f := f) (x := x) (v := v) n q
      have e : upN f b x n = f n := by unfold upN; rw [if_neg (by omega)]
      rw [e]
      split <;> omega
    · have e1 : b = n := by omega
      subst e1
      rw [cnt_out b (Nat.le_refl b)]
      have e : upN f b x b = x := by unfold upN; rw [if_pos rfl]
      rw [e]
      split <;> split <;> omega
def gv (d : Nat → Int32) (n : Nat) (es : Nat → Nat) (ew : Nat → Int32) (kd : Nat → Nat) (rn : Nat → Int32) (pd : Nat → Nat) (pw : Nat → Int32) (b w : Nat) : Int32 :=
  if kd b = 1 then rn (4 * b + w) else if pd b = 1 then pw (4 * b + w) else vw d es ew b w n
def rnp (rn : Nat → Int32) (b w : Nat) (v : Int32) (g : Nat → Int32) : Nat → Int32 := fun i => if i = 4 * b + w then v else if 4 * b ≤ i ∧ i < 4 * b + 4 then g (i - 4 * b) else rn i
def vc (up num nx us : Nat) (kd : Nat → Nat) (rn : Nat → Int32) (pd : Nat → Nat) (pw : Nat → Int32) (a : Nat → Int32) (c2 c3 : Int32) (f11 f12 f13 f14 : Nat → Int32) : Prop :=
  a 6 = nI up ∧ (up = 1 → a 8 = nI num ∧ a 9 = nI nx ∧ a 10 = nI us ∧ (∀ i, i < 32 → bt (a 7) i = (decide (i < 16) && decide (kd i = 2))) ∧ c2 = nI (cnt kd 1 16) ∧ c3 = nI (cnt pd 1 16) ∧ (∀ b, b < 16 → f11 b = nI (if kd b = 1 then 1 else 0)) ∧ (∀ b, b < 16 → kd b = 1 → ∀ w, w < 4 → f12 (4 * b + w) = rn (4 * b + w)) ∧ (∀ b, b < 16 → f13 b = nI (pd b)) ∧ (∀ b, b < 16 → pd b = 1 → ∀ w, w < 4 → f14 (4 * b + w) = pw (4 * b + w)))
abbrev VC (up num nx us : Nat) (kd : Nat → Nat) (rn : Nat → Int32) (pd : Nat → Nat) (pw : Nat → Int32) (h : xh) : Prop := vc up num nx us kd rn pd pw (h 0) (h 2 2) (h 3 2) (h 11) (h 12) (h 13) (h 14)
def vm (up num nx us : Nat) (kd : Nat → Nat) (rn : Nat → Int32) (pd : Nat → Nat) (pw : Nat → Int32) (a4 a5 a6 a7 : Int32) (f28 f29 f30 f31 : Nat → Int32) : Prop :=
  a4 = nI up ∧ (up = 1 → a5 = nI num ∧ a6 = nI nx ∧ a7 = nI us ∧ (∀ b, b < 16 → f28 b = nI (kd b)) ∧ (∀ b, b < 16 → kd b = 1 → ∀ w, w < 4 → f29 (4 * b + w) = rn (4 * b + w)) ∧ (∀ b, b < 16 → f30 b = nI (pd b)) ∧ (∀ b, b < 16 → pd b = 1 → ∀ w, w < 4 → f31 (4 * b + w) = pw (4 * b + w)))
abbrev VM (up num nx us : Nat) (kd : Nat → Nat) (rn : Nat → Int32) (pd : Nat → Nat) (pw : Nat → Int32) (h : xh) : Prop := vm up num nx us kd rn pd pw (h 7 4) (h 7 5) (h 7 6) (h 7 7) (h 28) (h 29) (h 30) (h 31)
/-- what always holds of the pure data -/
def vi (up num nx us : Nat) (kd pd : Nat → Nat) : Prop := (up = 0 ∨ up = 1) ∧ (up = 1 → nx < 24 ∧ us ≤ 23 ∧ num < 2 ^ 30 ∧ (∀ b, b < 16 → kd b ≤ 2) ∧ (∀ b, b < 16 → pd b ≤ 1) ∧ cnt kd 1 16 ≤ 8)
theorem VC.fr {P : Nat → Nat → Bool} {up num nx us : Nat} {kd : Nat → Nat} {rn : Nat → Int32} {pd : Nat → Nat} {pw : Nat → Int32} {h h1 : xh} (V : VC up num nx us kd rn pd pw h) (f : fr P h h1) (e0 : ∀ j, P 0 j = false) (e2 : P 2 2 = false) (e3 : P 3 2 = false) (e11 : ∀ j, P 11 j = false) (e12 : ∀ j, P 12 j = false) (e13 : ∀ j, P 13 j = false) (e14 : ∀ j, P 14 j = false) : VC up num nx us kd rn pd pw h1 := by
  show vc up num nx us kd rn pd pw (h1 0) (h1 2 2) (h1 3 2) (h1 11) (h1 12) (h1 13) (h1 14)
  rw [f.cell 0 e0, f 2 2 e2, f 3 2 e3, f.cell 11 e11, f.cell 12 e12, f.cell 13 e13, f.cell 14 e14]
  exact V
theorem VM.fr {P : Nat → Nat → Bool} {up num nx us : Nat} {kd : Nat → Nat} {rn : Nat → Int32} {pd : Nat → Nat} {pw : Nat → Int32} {h h1 : xh} (V : VM up num nx us kd rn pd pw h) (f : fr P h h1) (e4 : P 7 4 = false) (e5 : P 7 5 = false) (e6 : P 7 6 = false) (e7 : P 7 7 = false) (e28 : ∀ j, P 28 j = false) (e29 : ∀ j, P 29 j = false) (e30 : ∀ j, P 30 j = false) (e31 : ∀ j, P 31 j = false) : VM up num nx us kd rn pd pw h1 := by
  show vm up num nx us kd rn pd pw (h1 7 4) (h1 7 5) (h1 7 6) (h1 7 7) (h1 28) (h1 29) (h1 30) (h1 31)
  rw [f 7 4 e4, f 7 5 e5, f 7 6 e6, f 7 7 e7, f.cell 28 e28, f.cell 29 e29, f.cell 30 e30, f.cell 31 e31]
  exact V
theorem b01 {z : Nat} (h : z ≤ 1) : nI z = 0 ∨ nI z = 1 := by
  rcases (show z = 0 ∨ z = 1 by omega) with rfl | rfl
  · exact Or.inl nI_0
  · exact Or.inr (by decide +kernel)
theorem k01 {kd : Nat → Nat} {b : Nat} : nI (if kd b = 1 then 1 else 0) = 0 ∨ nI (if kd b = 1 then 1 else 0) = 1 := b01 (by split <;> omega)
theorem k0 {kd : Nat → Nat} {b : Nat} : nI (if kd b = 1 then 1 else 0) = 0 ↔ ¬ kd b = 1 := by
  constructor
  · intro h c
    rw [if_pos c] at h
    exact absurd h (by decide +kernel)
  · intro c
    rw [if_neg c]; exact nI_0
theorem p0 {z : Nat} (h : z ≤ 1) : nI z = 0 ↔ ¬ z = 1 := by
  constructor
  · intro e c
    subst c
    exact absurd e (by decide +kernel)
  · intro c
    rw [show z = 0 by omega]; exact nI_0
theorem b_pow : ∀ b, b < 16 → ∀ i, i < 32 → bt (nI 1 <<< (nI b &&& 31)) i = decide (i = b) := by decide +kernel
theorem b_all : ∀ i, i < 32 → bt (-1) i = true := by decide +kernel
section VOLC
variable {l : Launch} {E : xE} {d : Nat → Int32} {n : Nat} {es : Nat → Nat} {ew : Nat → Int32} {h : xh} {Q : Option Int32 → xh → Prop}
variable {up num nx us : Nat} {kd : Nat → Nat} {rn : Nat → Int32} {pd : Nat → Nat} {pw : Nat → Int32}
theorem s_volumeWord {b w : Nat} (D : DC d n es ew h) (V : VC up num nx us kd rn pd pw h) (hup : up = 1) (hb : b < 16) (hw4 : w < 4) (hp : pd b ≤ 1) (hq : Q (some (gv d n es ew kd rn pd pw b w)) h) : MC l E M_RS_volumeWord [.inr 0, .inl (nI b), .inl (nI w)] h Q := by
  obtain ⟨-, hv⟩ := V
  obtain ⟨-, -, -, -, -, -, h11, h12, h13, h14⟩ := hv hup
  have eb : (nI b).toNatClampNeg = b := nI_clamp (by omega)
  have ei : nI b * nI 4 + nI w = nI (4 * b + w) := by rw [pk_mul, nI_add, show b * 4 + w = 4 * b + w by omega]
  have ec : (nI (4 * b + w)).toNatClampNeg = 4 * b + w := nI_clamp (by omega)
  have i16 : vp_in (nI b) 16 := vp_in_nI hb (by decide)
  have i64 : vp_in (nI b * nI 4 + nI w) 64 := by rw [ei]; exact vp_in_nI (by omega) (by decide)
  unfold gv at hq
  refine k_RS_volumeWord_0 i16 (by rw [eb, h11 b hb]; exact k01) (fun _ => i16) (fun _ => by rw [eb, h13 b hb]; exact b01 hp) (fun c1 c2 => ?_) (fun _ _ => i64) (fun c1 c2 => ?_) (fun _ => i64) (fun c1 => ?_)
  · rw [eb, h11 b hb, k0] at c1
    rw [eb, h13 b hb, p0 hp] at c2
    rw [if_neg c1, if_neg c2] at hq
    exact s_newest D (by omega) hw4 (k_RS_volumeWord_53 hq)
  · rw [eb, h11 b hb, k0] at c1
    rw [eb, h13 b hb, p0 hp] at c2
    have c2 : pd b = 1 := by omega
    rw [if_neg c1, if_pos c2] at hq
    rw [ei, ec, h14 b hb c2 w hw4]
    exact hq
  · rw [eb, h11 b hb, k0] at c1
    have c1 : kd b = 1 := Classical.byContradiction c1
    rw [if_pos c1] at hq
    rw [ei, ec, h12 b hb c1 w hw4]
    exact hq
theorem s_beginImage {b : Nat} (D : DC d n es ew h) (V : VC up num nx us kd rn pd pw h) (hup : up = 1) (hb : b < 16) (hp : pd b ≤ 1) (hk : ¬ kd b = 1) (hq : ∀ h', fr (fun k j => (pc [2, 11, 12]) k j || (Nat.beq k 0 && Nat.beq j 7)) h h' → (∀ w, w < 4 → h' 12 (4 * b + w) = gv d n es ew kd rn pd pw b w) → (∀ i, (i < 4 * b ∨ 4 * b + 4 ≤ i) → h' 12 i = h 12 i) → (∀ q, q < 16 → h' 11 q = nI (if upN kd b 1 q = 1 then 1 else 0)) → (∀ i, i < 32 → bt (h' 0 7) i = (decide (i < 16) && decide (upN kd b 1 i = 2))) → h' 2 2 = nI (cnt (upN kd b 1) 1 16) → Q none h') : MC l E M_RS_beginImage [.inr 0, .inl (nI b)] h Q := by
  refine k_RS_beginImage_0 ?_
  have eb : (nI b).toNatClampNeg = b := nI_clamp (by omega)
  have key : ∀ (j i : Nat) (h' : xh), i + j = 4 → fr (pc [12]) h h' → (∀ w, w < i → h' 12 (4 * b + w) = gv d n es ew kd rn pd pw b w) → (∀ q, (q < 4 * b ∨ 4 * b + 4 ≤ q) → h' 12 q = h 12 q) → WP l E M_RS_beginImage 2 [(0, .inr 0), (1, .inl (nI b)), (2, .inl (nI i))] [] h' Q := by
    intro j
    induction j with
    | zero =>
      intro i h' hi f hx hy
      have ei : i = 4 := by omega
      subst ei
      have c0 : nI 4 ≤ nI 4 := nI_le (Nat.le_refl 4) (by decide)
      refine k_RS_beginImage_2 (fun _ => ?_) (fun c => absurd c0 c)
      obtain ⟨-, hv⟩ := V
      obtain ⟨-, -, -, h7, h2, -, h11, h12, h13, h14⟩ := hv hup
      have e11 : h' 11 b = 0 := by rw [f 11 b rfl, h11 b hb]; exact k0.mpr hk
      refine k_IM_hold_r_0 (vp_in_nI hb (by decide)) (fun c => absurd (by rw [eb]; exact e11) c) (fun _ => vp_in_nI hb (by decide)) (fun _ => ?_)
      refine k_RS_beginImage_36 ?_
      rw [eb]
      refine hq _ (fun k j q => ?_) (fun w hw4 => ?_) (fun i hi => ?_) (fun q hq => ?_) (fun i hi => ?_) ?_
      · have g : fr (fun k j => (pc [2, 11, 12]) k j || (Nat.beq k 0 && Nat.beq j 7)) h (hw (hw (hw h' 11 b (nI 1)) 2 2 (h' 2 2 + nI 1)) 0 7 ((hw (hw h' 11 b (nI 1)) 2 2 (h' 2 2 + nI 1)) 0 7 &&& (nI 1 <<< (nI b &&& 31) ^^^ -1))) := by
          refine (((f.mono (fun k j q => ?_)).hw rfl).hw rfl).hw rfl
          have q1 := (Bool.or_eq_false_iff.mp q).1
          unfold pc at q1 ⊢
          cases hk2 : Nat.beq k 12 <;> simp_all
        exact g k j q
      · rw [hwa (by decide), hwa (by decide), hwa (by decide)]; exact hx w hw4
      · rw [hwa (by decide), hwa (by decide), hwa (by decide)]; exact hy i hi
      · rw [hwa (by decide), hwa (by decide), hwk, upi]
        unfold upN
        by_cases c : q = b
        · rw [if_pos c, if_pos c, if_pos rfl]
        · rw [if_neg c, if_neg c, f 11 q rfl]; exact h11 q hq
      · rw [hwk, upi, if_pos rfl, b_and, b_xor, hwa (by decide), hwa (by decide), f 0 7 rfl, h7 i hi, b_pow b hb i hi, b_all i hi]
        unfold upN
        by_cases c : i = b
        · simp [c]
        · simp [c]
      · rw [hwa (by decide), hwk, upi, if_pos rfl, f 2 2 rfl, h2, nI_add]
        have := cnt_up (f := kd) (b := b) (x := 1) (v := 1) 16 hb
        rw [if_neg hk, if_pos rfl] at this
        rw [show cnt (upN kd b 1) 1 16 = cnt kd 1 16 + 1 by omega]
    | succ j ih =>
      intro i h' hi f hx hy
      have c0 : ¬ nI 4 ≤ nI i := nI_ge (by omega) (by decide)
      refine k_RS_beginImage_2 (fun c => absurd c c0) (fun _ => ?_)
      -- the volume's word, in the changed heap
      have D' : DC d n es ew h' := DC.fr D f rfl (fun _ => rfl) (fun _ => rfl) (fun _ => rfl)
      have V' : VC up num nx us kd rn pd pw h' := by
        obtain ⟨v6, hv⟩ := V
        obtain ⟨a8, a9, a10, h7, h2, h3, h11, h12, h13, h14⟩ := hv hup
        refine ⟨by rw [f 0 6 rfl]; exact v6, fun _ => ⟨by rw [f 0 8 rfl]; exact a8, by rw [f 0 9 rfl]; exact a9, by rw [f 0 10 rfl]; exact a10, fun i hi => by rw [f 0 7 rfl]; exact h7 i hi, by rw [f 2 2 rfl]; exact h2, by rw [f 3 2 rfl]; exact h3, fun q hq => by rw [f 11 q rfl]; exact h11 q hq, fun q hq hq1 w hw4 => ?_, fun q hq => by rw [f 13 q rfl]; exact h13 q hq, fun q hq hq1 w hw4 => by rw [f 14 _ rfl]; exact h14 q hq hq1 w hw4⟩⟩
        have : q ≠ b := fun e => hk (by rw [← e]; exact hq1)
        rw [hy _ (by omega)]
        exact h12 q hq hq1 w hw4
      refine s_volumeWord D' V' hup hb (by omega) hp ?_
      have ei : nI b * nI 4 + nI i = nI (4 * b + i) := by rw [pk_mul, nI_add, show b * 4 + i = 4 * b + i by omega]
      refine k_RS_beginImage_19 (by rw [ei]; exact vp_in_nI (by omega) (by decide)) ?_
      rw [ei, nI_add, nI_clamp (by omega)]
      refine ih (i + 1) _ (by omega) (f.hw rfl) (fun w hw4 => ?_) (fun q hq => ?_)
      · rw [hwk, upi]
        by_cases c : w = i
        · subst c; rw [if_pos rfl]
        · rw [if_neg (by omega)]; exact hx w (by omega)
      · rw [hwk, upi, if_neg (by omega)]; exact hy q hq
  exact key 4 0 h (by omega) fr.rf (fun w h => absurd h (Nat.not_lt_zero _)) (fun _ _ => rfl)
/-- put, refused -/
theorem c_put_no {x1 x2 x3 : Int32} (V : VC up num nx us kd rn pd pw h) (hu : up = 0 ∨ up = 1) (hb : up = 0 ∨ ¬ h 6 2 = 0 ∨ x1 < 0 ∨ nI 16 ≤ x1 ∨ x2 < 0 ∨ nI 4 ≤ x2 ∨ ∃ b, b < 16 ∧ x1 = nI b ∧ ¬ kd b = 1 ∧ 8 ≤ cnt kd 1 16) (hq : Q (some (nI 0)) h) : MC l E M_RS_put [.inr 0, .inl x1, .inl x2, .inl x3] h Q := by
  obtain ⟨v6, hv⟩ := V
  have g : ∀ {A : Prop}, ¬ h 0 6 = 0 → h 6 2 = 0 → ¬ x1 < 0 → ¬ nI 16 ≤ x1 → ¬ x2 < 0 → ¬ nI 4 ≤ x2 → (∀ b, b < 16 → x1 = nI b → ¬ kd b = 1 → 8 ≤ cnt kd 1 16 → up = 1 → A) → A := by
    intro A a1 a2 a3 a4 a5 a6 k
    have hup : up = 1 := by
      rcases hu with e | e
      · exact absurd (by rw [v6, e]; exact nI_0) a1
      · exact e
    rcases hb with e | e | e | e | e | e | ⟨b, hb, e, e1, e2⟩
    · omega
    · exact absurd a2 e
    · exact absurd e a3
    · exact absurd e a4
    · exact absurd e a5
    · exact absurd e a6
    · exact k b hb e e1 e2 hup
  refine k_RS_put_0 (fun _ => hq) (fun _ _ _ => hq) (fun _ _ _ _ => hq) (fun _ _ _ _ _ => hq) (fun _ _ _ _ _ _ => hq) (fun a1 a2 a3 a4 a5 a6 => ?_) (fun a1 a2 a3 a4 a5 a6 => ?_) (fun a1 a2 a3 a4 a5 a6 a7 => ?_) (fun a1 a2 a3 a4 a5 a6 a7 => ?_) (fun a1 a2 a3 a4 a5 a6 a7 a8 => ?_) (fun _ _ _ _ _ _ _ _ => hq) (fun _ _ => hq)
  · exact g a1 a2 a3 a4 a5 a6 (fun b hb e _ _ _ => by rw [e]; exact vp_in_nI hb (by decide))
  · exact g a1 a2 a3 a4 a5 a6 (fun b hb e _ _ hup => by
      rw [e, nI_clamp (by omega), (hv hup).2.2.2.2.2.2.1 b hb]; exact k01)
  · exact g a1 a2 a3 a4 a5 a6 (fun b hb e e1 _ hup => by
      rw [e, nI_clamp (by omega), (hv hup).2.2.2.2.2.2.1 b hb] at a7
      exact absurd (k0.mpr e1) a7)
  · exact g a1 a2 a3 a4 a5 a6 (fun b hb e e1 _ hup => by
      rw [e, nI_clamp (by omega), (hv hup).2.2.2.2.2.2.1 b hb] at a7
      exact absurd (k0.mpr e1) a7)
  · exact g a1 a2 a3 a4 a5 a6 (fun b hb e e1 e2 hup => by
      rw [(hv hup).2.2.2.2.1] at a8
      exact absurd a8 (nI_nlt e2 (by have := cnt_le kd 1 16; omega)))
/-- put, done -/
theorem c_put_yes {b w : Nat} {v : Int32} (D : DC d n es ew h) (V : VC up num nx us kd rn pd pw h) (hup : up = 1) (hj : h 6 2 = 0) (hb : b < 16) (hw4 : w < 4) (hp : pd b ≤ 1) (hok : kd b = 1 ∨ cnt kd 1 16 < 8)
    (hq : ∀ h', fr (fun k j => (pc [2, 11, 12]) k j || (Nat.beq k 0 && Nat.beq j 7)) h h' → VC up num nx us (upN kd b 1) (rnp rn b w v (gv d n es ew kd rn pd pw b)) pd pw h' → Q (some (nI 1)) h') : MC l E M_RS_put [.inr 0, .inl (nI b), .inl (nI w), .inl v] h Q := by
  obtain ⟨v6, hv⟩ := id V
  obtain ⟨a8, a9, a10, h7, h2, h3, h11, h12, h13, h14⟩ := hv hup
  have u0 : ¬ h 0 6 = 0 := by rw [v6, hup]; decide +kernel
  have p1 : ¬ nI b < 0 := nnn (by omega)
  have p2 : ¬ nI 16 ≤ nI b := nI_ge hb (by decide)
  have p3 : ¬ nI w < 0 := nnn (by omega)
  have p4 : ¬ nI 4 ≤ nI w := nI_ge hw4 (by decide)
  have eb : (nI b).toNatClampNeg = b := nI_clamp (by omega)
  have ei : nI b * nI 4 + nI w = nI (4 * b + w) := by rw [pk_mul, nI_add, show b * 4 + w = 4 * b + w by omega]
  have ec : (nI (4 * b + w)).toNatClampNeg = 4 * b + w := nI_clamp (by omega)
  have i16 : vp_in (nI b) 16 := vp_in_nI hb (by decide)
  have i64 : vp_in (nI b * nI 4 + nI w) 64 := by rw [ei]; exact vp_in_nI (by omega) (by decide)
  refine k_RS_put_0 (fun c => absurd c u0) (fun _ _ c => absurd c p1) (fun _ _ _ c => absurd c p2) (fun _ _ _ _ c => absurd c p3) (fun _ _ _ _ _ c => absurd c p4) (fun _ _ _ _ _ _ => i16) (fun _ _ _ _ _ _ => by rw [eb, h11 b hb]; exact k01) (fun _ _ _ _ _ _ _ => i64) (fun _ _ _ _ _ _ c => ?_) (fun _ _ _ _ _ _ c c2 => ?_) (fun _ _ _ _ _ _ c c2 => ?_) (fun _ c => absurd hj c)
  · rw [eb, h11 b hb] at c
    have ck : kd b = 1 := Classical.byContradiction (fun z => c (k0.mpr z))
    have eu : upN kd b 1 = kd := by
      funext q
      unfold upN
      by_cases e : q = b
      · rw [if_pos e, e, ck]
      · rw [if_neg e]
    rw [ei, ec]
    refine hq _ (fr.rf.hw rfl) ?_
    rw [eu]
    refine ⟨by rw [hwa (by decide)]; exact v6, fun _ => ⟨by rw [hwa (by decide)]; exact a8, by rw [hwa (by decide)]; exact a9, by rw [hwa (by decide)]; exact a10, by rw [hwa (by decide)]; exact h7, by rw [hwa (by decide)]; exact h2, by rw [hwa (by decide)]; exact h3, by rw [hwa (by decide)]; exact h11, fun q hq q1 w' hw' => ?_, by rw [hwa (by decide)]; exact h13, by rw [hwa (by decide)]; exact h14⟩⟩
    rw [hwk, upi]
    unfold rnp
    by_cases e : 4 * q + w' = 4 * b + w
    · rw [if_pos e, if_pos e]
    · rw [if_neg e, if_neg e, h12 q hq q1 w' hw']
      by_cases e2 : 4 * b ≤ 4 * q + w' ∧ 4 * q + w' < 4 * b + 4
      · rw [if_pos e2]
        unfold gv
        rw [if_pos ck, show 4 * b + (4 * q + w' - 4 * b) = 4 * q + w' by omega]
      · rw [if_neg e2]
  · rw [eb, h11 b hb, k0] at c
    refine s_beginImage D V hup hb hp c (fun h' f g1 g2 g3 g4 g5 => ?_)
    refine k_RS_put_47 i64 ?_
    rw [ei, ec]
    refine hq _ (f.hw rfl) ?_
    refine ⟨by rw [hwa (by decide), f 0 6 rfl]; exact v6, fun _ => ⟨by rw [hwa (by decide), f 0 8 rfl]; exact a8, by rw [hwa (by decide), f 0 9 rfl]; exact a9, by rw [hwa (by decide), f 0 10 rfl]; exact a10, by rw [hwa (by decide)]; exact g4, by rw [hwa (by decide)]; exact g5, by rw [hwa (by decide), f 3 2 rfl]; exact h3, by rw [hwa (by decide)]; exact g3, fun q hq q1 w' hw' => ?_, fun q hq => by rw [hwa (by decide), f 13 q rfl]; exact h13 q hq, fun q hq q1 w' hw' => by rw [hwa (by decide), f 14 _ rfl]; exact h14 q hq q1 w' hw'⟩⟩
    rw [hwk, upi]
    unfold rnp
    by_cases e : 4 * q + w' = 4 * b + w
    · rw [if_pos e, if_pos e]
    · rw [if_neg e, if_neg e]
      by_cases e2 : 4 * b ≤ 4 * q + w' ∧ 4 * q + w' < 4 * b + 4
      · rw [if_pos e2]
        have := g1 (4 * q + w' - 4 * b) (by omega)
        rw [show 4 * b + (4 * q + w' - 4 * b) = 4 * q + w' by omega] at this
        exact this
      · rw [if_neg e2, g2 _ (by omega)]
        have : q ≠ b := fun z => e2 (by omega)
        unfold upN at q1
        rw [if_neg this] at q1
        exact h12 q hq q1 w' hw'
  · rw [eb, h11 b hb, k0] at c
    rw [h2] at c2
    rcases hok with e | e
    · exact absurd e c
    · exact absurd (nI_lt e (by decide)) c2
end VOLC
