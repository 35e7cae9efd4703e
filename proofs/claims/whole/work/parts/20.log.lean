/-! THE LOG, as pure data: L at w is word w of the sector at places behind the reading's start -/
abbrev own (L : Nat → Nat → Int32) (q a k : Nat) : Prop := a < 24 ∧ L a 0 = nI 77001 ∧ L a 1 = nI k ∧ L a 2 = nI q
def cn (L : Nat → Nat → Int32) (a : Nat) : Nat := (L a 3).toBitVec.toNat % 8
abbrev gok (L : Nat → Nat → Int32) (q a : Nat) : Prop := own L q a 1 ∧ 1 ≤ cn L a ∧ cn L a ≤ 4 ∧ a + cn L a < 24
def msn (L : Nat → Nat → Int32) (s : Int32) (a : Nat) : Nat → Int32
  | 0 => s
  | k + 1 => mx4 (msn L s a k) (L (a + k))
def pgA (L : Nat → Nat → Int32) (q : Nat) : Nat → Nat → Nat
  | 0, a => a
  | f + 1, a => if gok L q a then pgA L q f (a + (1 + cn L a)) else a
def pgH (L : Nat → Nat → Int32) (q : Nat) : Nat → Nat → Int32 → Int32
  | 0, _, s => s
  | f + 1, a, s => if gok L q a then pgH L q f (a + (1 + cn L a)) (msn L s a (1 + cn L a)) else s
def pgI (L : Nat → Nat → Int32) (q : Nat) : Nat → Nat → List (Nat × Nat)
  | 0, _ => []
  | f + 1, a => if gok L q a then (List.range (cn L a)).map (fun j => (a, j)) ++ pgI L q f (a + (1 + cn L a)) else []
def tA (L : Nat → Nat → Int32) (q a : Nat) : Nat := if own L q (pgA L q 24 a) 2 then pgA L q 24 a + 1 else pgA L q 24 a
def tH (L : Nat → Nat → Int32) (q a : Nat) : Int32 := if own L q (pgA L q 24 a) 2 then mx4 (pgH L q 24 a (nI q)) (L (pgA L q 24 a)) else pgH L q 24 a (nI q)
def tR (L : Nat → Nat → Int32) (q a : Nat) : Int32 := if own L q (pgA L q 24 a) 2 then L (pgA L q 24 a) 3 else nI 0
abbrev tv (L : Nat → Nat → Int32) (q a : Nat) : Prop := own L q (tA L q a) 3 ∧ L (tA L q a) 3 = tH L q a
def stt (L : Nat → Nat → Int32) (q0 : Nat) : Nat → Nat
  | 0 => 0
  | t + 1 => tA L (q0 + t) (stt L q0 t) + 1
def nvf (L : Nat → Nat → Int32) (q0 : Nat) : Nat → Nat → Nat
  | 0, t => t
  | f + 1, t => if tv L (q0 + t) (stt L q0 t) then nvf L q0 f (t + 1) else t
def NV (L : Nat → Nat → Int32) (q0 : Nat) : Nat := nvf L q0 25 0
abbrev xI3 : Type := Nat × Nat × Nat
def img (L : Nat → Nat → Int32) (q0 : Nat) : Nat → List xI3
  | 0 => []
  | t + 1 => img L q0 t ++ (pgI L (q0 + t) 24 (stt L q0 t)).map (fun x => (x.1, x.2, t))
def rvk (L : Nat → Nat → Int32) (q0 b : Nat) : Nat → Nat
  | 0 => 0
  | t + 1 => if bt (tR L (q0 + t) (stt L q0 t)) b = true then t + 1 else rvk L q0 b t
def bk (L : Nat → Nat → Int32) (x : xI3) : Nat := (ushr (L x.1 3) (nI (3 + 5 * x.2.1))).toBitVec.toNat % 16
def hid (L : Nat → Nat → Int32) (x : xI3) : Bool := bt (L x.1 3) (7 + 5 * x.2.1)
def iw (L : Nat → Nat → Int32) (x : xI3) (w : Nat) : Int32 := if w = 0 then (if hid L x = true then nI 77001 else L (x.1 + 1 + x.2.1) 0) else L (x.1 + 1 + x.2.1) w
def kpr (L : Nat → Nat → Int32) (q0 : Nat) (x : xI3) : Bool := decide (rvk L q0 (bk L x) (NV L q0) ≤ x.2.2 + 1)
def RL (L : Nat → Nat → Int32) (q0 : Nat) : List xI3 := (img L q0 (NV L q0)).filter (kpr L q0)
theorem cn_and (L : Nat → Nat → Int32) (a : Nat) : L a 3 &&& nI 7 = nI (cn L a) := pk_and (L a 3) 3 (by decide +kernel)
theorem bk_and (L : Nat → Nat → Int32) (x : xI3) : ushr (L x.1 3) (nI (3 + 5 * x.2.1)) &&& nI 15 = nI (bk L x) := pk_and (ushr (L x.1 3) (nI (3 + 5 * x.2.1))) 4 (by decide +kernel)
theorem bk_lt (L : Nat → Nat → Int32) (x : xI3) : bk L x < 16 := Nat.mod_lt _ (by decide)
theorem b_16 : ∀ i, i < 32 → bt (nI 16) i = decide (i = 4) := by decide +kernel
theorem and16 (y : Int32) : y &&& nI 16 = 0 ↔ bt y 4 = false := by
  constructor
  · intro e
    have h : bt (y &&& nI 16) 4 = bt 0 4 := by rw [e]
    rw [b_and, b_16 4 (by decide), b_0] at h
    simpa using h
  · intro e
    refine b_ext (fun i hi => ?_)
    rw [b_and, b_16 i hi, b_0]
    by_cases c : i = 4
    · subst c; rw [e]; rfl
    · simp [c]
theorem pgA_ge {L : Nat → Nat → Int32} {q : Nat} : ∀ f a, a ≤ pgA L q f a
  | 0, a => Nat.le_refl a
  | f + 1, a => by
    unfold pgA
    split
    · have := pgA_ge (L := L) (q := q) f (a + (1 + cn L a)); omega
    · exact Nat.le_refl a
theorem pgA_le {L : Nat → Nat → Int32} {q : Nat} : ∀ f a, a ≤ 24 → pgA L q f a ≤ 24
  | 0, a, h => h
  | f + 1, a, h => by
    unfold pgA
    split
    · next g => exact pgA_le (L := L) (q := q) f (a + (1 + cn L a)) (by have := g.2.2.2; omega)
    · exact h
theorem pgA_end {L : Nat → Nat → Int32} {q : Nat} : ∀ f a, 24 ≤ f + a → ¬ gok L q (pgA L q f a)
  | 0, a, h => fun g => by
    have h1 : a < 24 := g.1.1
    omega
  | f + 1, a, h => by
    unfold pgA
    split
    · exact pgA_end f (a + (1 + cn L a)) (by omega)
    · next c => exact c
theorem pgI_len {L : Nat → Nat → Int32} {q : Nat} : ∀ f a, a + (pgI L q f a).length ≤ pgA L q f a
  | 0, a => by simp [pgI, pgA]
  | f + 1, a => by
    unfold pgI pgA
    split
    · have := pgI_len (L := L) (q := q) f (a + (1 + cn L a))
      simp only [List.length_append, List.length_map, List.length_range]
      omega
    · simp
theorem tA_ge {L : Nat → Nat → Int32} {q a : Nat} : a ≤ tA L q a ∧ pgA L q 24 a ≤ tA L q a := by
  have := pgA_ge (L := L) (q := q) 24 a
  unfold tA
  split <;> omega
theorem stt_ge {L : Nat → Nat → Int32} {q0 : Nat} : ∀ t, t ≤ stt L q0 t
  | 0 => Nat.le_refl 0
  | t + 1 => by
    have := stt_ge (L := L) (q0 := q0) t
    have h2 := (tA_ge (L := L) (q := q0 + t) (a := stt L q0 t)).1
    show t + 1 ≤ tA L (q0 + t) (stt L q0 t) + 1
    omega
theorem img_len {L : Nat → Nat → Int32} {q0 : Nat} : ∀ t, (img L q0 t).length ≤ stt L q0 t
  | 0 => Nat.le_refl 0
  | t + 1 => by
    have := img_len (L := L) (q0 := q0) t
    have h1 := pgI_len (L := L) (q := q0 + t) 24 (stt L q0 t)
    have h2 := (tA_ge (L := L) (q := q0 + t) (a := stt L q0 t)).2
    show (img L q0 t ++ (pgI L (q0 + t) 24 (stt L q0 t)).map (fun x => (x.1, x.2, t))).length ≤ tA L (q0 + t) (stt L q0 t) + 1
    rw [List.length_append, List.length_map]
    omega
theorem tv_lt {L : Nat → Nat → Int32} {q a : Nat} (h : tv L q a) : tA L q a < 24 := h.1.1
theorem nvf_ok {L : Nat → Nat → Int32} {q0 : Nat} : ∀ f t, t + f = 25 → (∀ u, u < t → tv L (q0 + u) (stt L q0 u)) → (∀ u, u < nvf L q0 f t → tv L (q0 + u) (stt L q0 u)) ∧ ¬ tv L (q0 + nvf L q0 f t) (stt L q0 (nvf L q0 f t))
  | 0, t, h, hv => by
    exfalso
    have h1 := tv_lt (hv 24 (by omega))
    have h2 := (tA_ge (L := L) (q := q0 + 24) (a := stt L q0 24)).1
    have h3 := stt_ge (L := L) (q0 := q0) 24
    omega
  | f + 1, t, h, hv => by
    unfold nvf
    split
    · next c =>
      refine nvf_ok f (t + 1) (by omega) (fun u hu => ?_)
      rcases Nat.lt_or_ge u t with q | q
      · exact hv u q
      · rw [show u = t by omega]; exact c
    · next c => exact ⟨hv, c⟩
theorem NV_ok {L : Nat → Nat → Int32} {q0 : Nat} : (∀ u, u < NV L q0 → tv L (q0 + u) (stt L q0 u)) ∧ ¬ tv L (q0 + NV L q0) (stt L q0 (NV L q0)) := nvf_ok 25 0 (by omega) (fun u h => absurd h (Nat.not_lt_zero _))
theorem NV_uniq {L : Nat → Nat → Int32} {q0 n : Nat} (h1 : ∀ u, u < n → tv L (q0 + u) (stt L q0 u)) (h2 : ¬ tv L (q0 + n) (stt L q0 n)) : n = NV L q0 := by
  obtain ⟨g1, g2⟩ := NV_ok (L := L) (q0 := q0)
  rcases Nat.lt_trichotomy n (NV L q0) with q | q | q
  · exact absurd (g1 n q) h2
  · exact q
  · exact absurd (h1 _ q) g2
theorem stt_le {L : Nat → Nat → Int32} {q0 t : Nat} (h : ∀ u, u < t → tv L (q0 + u) (stt L q0 u)) : stt L q0 t ≤ 24 := by
  cases t with
  | zero => exact Nat.zero_le _
  | succ t =>
    have := tv_lt (h t (by omega))
    show tA L (q0 + t) (stt L q0 t) + 1 ≤ 24
    omega
theorem NV_le {L : Nat → Nat → Int32} {q0 : Nat} : NV L q0 ≤ 24 := by
  have h1 := stt_le (NV_ok (L := L) (q0 := q0)).1
  have h2 := stt_ge (L := L) (q0 := q0) (NV L q0)
  omega
theorem RL_len {L : Nat → Nat → Int32} {q0 : Nat} : (RL L q0).length ≤ 24 := by
  have h1 := stt_le (NV_ok (L := L) (q0 := q0)).1
  have h2 := img_len (L := L) (q0 := q0) (NV L q0)
  have h3 : (RL L q0).length ≤ (img L q0 (NV L q0)).length := List.length_filter_le _ _
  omega
theorem rvk_le {L : Nat → Nat → Int32} {q0 b : Nat} : ∀ t, rvk L q0 b t ≤ t
  | 0 => Nat.le_refl 0
  | t + 1 => by
    have := rvk_le (L := L) (q0 := q0) (b := b) t
    unfold rvk
    split <;> omega
/-- the class's reader: what its cells hold -/
def lgC (L : Nat → Nat → Int32) (f : Nat → Int32) : Prop := ∀ a, a < 24 → ∀ w, w < 4 → f (4 * a + w) = L a w
def ia (L : Nat → Nat → Int32) (X : List xI3) (f18 f19 f20 f21 : Nat → Int32) : Prop := ∀ i, i < X.length → f18 i = nI ((X.getD i (0, 0, 0)).1 + 1 + (X.getD i (0, 0, 0)).2.1) ∧ f19 i = nI (bk L (X.getD i (0, 0, 0))) ∧ f20 i = nI (if hid L (X.getD i (0, 0, 0)) = true then 1 else 0) ∧ f21 i = nI (X.getD i (0, 0, 0)).2.2
abbrev IA (L : Nat → Nat → Int32) (X : List xI3) (h : xh) : Prop := ia L X (h 18) (h 19) (h 20) (h 21)
theorem getD_l {X : List xI3} {x d : xI3} {i : Nat} (h : i < X.length) : (X ++ [x]).getD i d = X.getD i d := by
  simp [List.getD_eq_getElem?_getD, List.getElem?_append_left h]
theorem getD_r {X : List xI3} {x d : xI3} : (X ++ [x]).getD X.length d = x := by
  simp [List.getD_eq_getElem?_getD]
/-- what the reader's steps may change -/
def plr (S : List Nat) : Nat → Nat → Bool := fun k j => (pc [18, 19, 20, 21]) k j || (Nat.beq k 5 && S.elem j)
theorem fr.upr {S S' : List Nat} {h h1 : xh} (a : fr (plr S) h h1) (e : S.all (fun x => S'.elem x) = true) : fr (plr S') h h1 := by
  intro k j q
  refine a k j ?_
  unfold plr at q ⊢
  rw [Bool.or_eq_false_iff] at q ⊢
  refine ⟨q.1, ?_⟩
  cases hb : Nat.beq k 5 with
  | false => rfl
  | true =>
    rw [hb] at q
    cases hs : S.elem j with
    | false => rfl
    | true =>
      have := List.all_eq_true.mp e j (by simpa using hs)
      rw [this] at q
      exact absurd q.2 (by decide)
def p5 (S : List Nat) : Nat → Nat → Bool := fun k j => Nat.beq k 5 && S.elem j
theorem fr.lr {S S' : List Nat} {h h1 : xh} (a : fr (p5 S) h h1) (e : S.all (fun x => S'.elem x) = true) : fr (plr S') h h1 := by
  intro k j q
  refine a k j ?_
  unfold plr at q
  unfold p5
  rw [Bool.or_eq_false_iff] at q
  cases hb : Nat.beq k 5 with
  | false => rfl
  | true =>
    rw [hb] at q
    cases hs : S.elem j with
    | false => rfl
    | true =>
      have := List.all_eq_true.mp e j (by simpa using hs)
      rw [this] at q
      exact absurd q.2 (by decide)
section RDC
variable {l : Launch} {E : xE} {h : xh} {Q : Option Int32 → xh → Prop} {L : Nat → Nat → Int32}
theorem s_isOwn {q a k : Nat} (hL : lgC L (h 17)) (h7 : h 5 7 = nI q) (h10 : h 5 10 = nI a) (ha : a ≤ 24) (hq : Q (some (nI (if own L q a k then 1 else 0))) h) : MC l E M_LR_isOwn [.inr 5, .inl (nI k)] h Q := by
  have ew : ∀ w, nI a * nI 4 + nI w = nI (4 * a + w) := fun w => by rw [pk_mul, nI_add, show a * 4 + w = 4 * a + w by omega]
  have z : ∀ w, w < 4 → a < 24 → h 17 ((h 5 10 * nI 4 + nI w).toNatClampNeg) = L a w := fun w hw4 h24 => by rw [h10, ew, nI_clamp (by omega)]; exact hL a h24 w hw4
  have iv : ∀ w, w < 4 → a < 24 → vp_in (h 5 10 * nI 4 + nI w) 96 := fun w hw4 h24 => by rw [h10, ew]; exact vp_in_nI (by omega) (by decide)
  have lt : ¬ nI 24 ≤ h 5 10 → a < 24 := fun c => by rw [h10] at c; exact nnle c (by omega)
  have no : ¬ own L q a k → Q (some (nI 0)) h := fun c => by rw [if_neg c] at hq; exact hq
  refine k_LR_isOwn_0 (fun c => no (fun o => ?_)) (fun c => iv 0 (by omega) (lt c)) (fun c c2 => no (fun o => ?_)) (fun c _ => iv 1 (by omega) (lt c)) (fun c _ c2 => no (fun o => ?_)) (fun c _ _ => iv 2 (by omega) (lt c)) (fun c _ _ c2 => no (fun o => ?_)) (fun c c2 c3 c4 => ?_)
  · rw [h10] at c
    have := nle c (by omega) (by omega)
    have := o.1
    omega
  · rw [z 0 (by omega) (lt c)] at c2; exact c2 o.2.1
  · rw [z 1 (by omega) (lt c)] at c2; exact c2 o.2.2.1
  · rw [z 2 (by omega) (lt c), h7] at c2; exact c2 o.2.2.2
  · rw [z 0 (by omega) (lt c)] at c2
    rw [z 1 (by omega) (lt c)] at c3
    rw [z 2 (by omega) (lt c), h7] at c4
    rw [if_pos ⟨lt c, c2, c3, c4⟩] at hq
    exact hq
theorem s_passSector {a : Nat} {s : Int32} (hL : lgC L (h 17)) (h10 : h 5 10 = nI a) (ha : a < 24) (h11 : h 5 11 = s) (hq : ∀ h', fr (p5 [10, 11]) h h' → h' 5 10 = nI (a + 1) → h' 5 11 = mx4 s (L a) → Q none h') : MC l E M_LR_passSector [.inr 5] h Q := by
  refine k_LR_passSector_0 ?_
  have st : ∀ (w : Nat) (h' : xh), w < 4 → fr (p5 [11]) h h' → WP l E M_LR_passSector 2 [(0, .inr 5), (1, .inl (nI (w + 1)))] [] (hw h' 5 11 (mx (h' 5 11) (L a w))) Q → WP l E M_LR_passSector 2 [(0, .inr 5), (1, .inl (nI w))] [] h' Q := by
    intro w h' hw4 f k
    have c4 : ¬ nI 4 ≤ nI w := nI_ge hw4 (by decide)
    have z10 : h' 5 10 = nI a := by rw [f 5 10 rfl]; exact h10
    have ew : nI a * nI 4 + nI w = nI (4 * a + w) := by rw [pk_mul, nI_add, show a * 4 + w = 4 * a + w by omega]
    refine k_LR_passSector_2 (fun c => absurd c c4) (fun _ => by rw [z10, ew]; exact vp_in_nI (by omega) (by decide)) (fun _ => ?_)
    rw [z10, ew, nI_clamp (by omega), f 17 _ rfl, hL a ha w hw4, nI_add]
    exact k
  refine st 0 h (by omega) fr.rf (st 1 _ (by omega) (fr.rf.hw rfl) (st 2 _ (by omega) ((fr.rf.hw rfl).hw rfl) (st 3 _ (by omega) (((fr.rf.hw rfl).hw rfl).hw rfl) ?_)))
  have c4 : nI 4 ≤ nI 4 := nI_le (Nat.le_refl 4) (by decide)
  refine k_LR_passSector_2 (fun _ => ?_) (fun c => absurd c4 c) (fun c => absurd c4 c)
  generalize hh : hw (hw (hw (hw h 5 11 (mx (h 5 11) (L a 0))) 5 11 (mx (hw h 5 11 (mx (h 5 11) (L a 0)) 5 11) (L a 1))) 5 11 (mx (hw (hw h 5 11 (mx (h 5 11) (L a 0))) 5 11 (mx (hw h 5 11 (mx (h 5 11) (L a 0)) 5 11) (L a 1)) 5 11) (L a 2))) 5 11 (mx (hw (hw (hw h 5 11 (mx (h 5 11) (L a 0))) 5 11 (mx (hw h 5 11 (mx (h 5 11) (L a 0)) 5 11) (L a 1))) 5 11 (mx (hw (hw h 5 11 (mx (h 5 11) (L a 0))) 5 11 (mx (hw h 5 11 (mx (h 5 11) (L a 0)) 5 11) (L a 1)) 5 11) (L a 2)) 5 11) (L a 3)) = h4
  have f4 : fr (p5 [10, 11]) h h4 := by rw [← hh]; exact (((fr.rf.hw rfl).hw rfl).hw rfl).hw rfl
  have f5 : fr (p5 [11]) h h4 := by rw [← hh]; exact (((fr.rf.hw rfl).hw rfl).hw rfl).hw rfl
  have e11 : h4 5 11 = mx4 s (L a) := by
    rw [← hh, hwk, upi, if_pos rfl, hwk, upi, if_pos rfl, hwk, upi, if_pos rfl, hwk, upi, if_pos rfl, h11]
    rfl
  refine hq _ (f4.hw rfl) ?_ ?_
  · rw [hwk, upi, if_pos rfl, f5 5 10 rfl, h10, nI_add]
  · rw [hwk, upi, if_neg (by decide)]; exact e11
theorem s_noteImage {a t hdr j : Nat} {X : List xI3} (h10 : h 5 10 = nI a) (h12 : h 5 12 = nI X.length) (hX : X.length < 24) (hA : IA L X h) (ea : a = hdr + 1 + j) (hj : j < 4) (hq : ∀ h', fr (plr [12]) h h' → h' 5 12 = nI (X.length + 1) → IA L (X ++ [(hdr, j, t)]) h' → Q none h') : MC l E M_LR_noteImage [.inr 5, .inl (ushr (L hdr 3) (nI (3 + 5 * j))), .inl (nI t)] h Q := by
  have el : (nI X.length).toNatClampNeg = X.length := nI_clamp (by omega)
  have iv : vp_in (h 5 12) 24 := by rw [h12]; exact vp_in_nI hX (by decide)
  have eb : ushr (L hdr 3) (nI (3 + 5 * j)) &&& nI 15 = nI (bk L (hdr, j, t)) := bk_and L (hdr, j, t)
  have eh : ushr (L hdr 3) (nI (3 + 5 * j)) &&& nI 16 = 0 ↔ hid L (hdr, j, t) = false := by
    rw [and16]
    unfold ushr hid
    rw [b_ushr (3 + 5 * j) (by omega), show 3 + 5 * j + 4 = 7 + 5 * j by omega]
  have fin : ∀ v : Int32, v = nI (if hid L (hdr, j, t) = true then 1 else 0) → Q none (hw (hw (hw (hw (hw h 18 ((h 5 12).toNatClampNeg) (h 5 10)) 19 ((h 5 12).toNatClampNeg) (ushr (L hdr 3) (nI (3 + 5 * j)) &&& nI 15)) 20 ((h 5 12).toNatClampNeg) v) 21 ((h 5 12).toNatClampNeg) (nI t)) 5 12 ((h 5 12) + nI 1)) := by
    intro v ev
    rw [h12, el, h10, eb, nI_add]
    refine hq _ (((((fr.rf.hw rfl).hw rfl).hw rfl).hw rfl).hw rfl) ?_ (fun i hi => ?_)
    · rw [hwk, upi, if_pos rfl]
    · rw [List.length_append] at hi
      simp only [List.length_cons, List.length_nil] at hi
      have e18 : (hw (hw (hw (hw (hw h 18 X.length (nI a)) 19 X.length (nI (bk L (hdr, j, t)))) 20 X.length v) 21 X.length (nI t)) 5 12 (nI (X.length + 1))) 18 = upd (h 18) X.length (nI a) := by rw [hwa (by decide), hwa (by decide), hwa (by decide), hwa (by decide), hwk]
      have e19 : (hw (hw (hw (hw (hw h 18 X.length (nI a)) 19 X.length (nI (bk L (hdr, j, t)))) 20 X.length v) 21 X.length (nI t)) 5 12 (nI (X.length + 1))) 19 = upd (h 19) X.length (nI (bk L (hdr, j, t))) := by rw [hwa (by decide), hwa (by decide), hwa (by decide), hwk, hwa (by decide)]
      have e20 : (hw (hw (hw (hw (hw h 18 X.length (nI a)) 19 X.length (nI (bk L (hdr, j, t)))) 20 X.length v) 21 X.length (nI t)) 5 12 (nI (X.length + 1))) 20 = upd (h 20) X.length v := by rw [hwa (by decide), hwa (by decide), hwk, hwa (by decide), hwa (by decide)]
      have e21 : (hw (hw (hw (hw (hw h 18 X.length (nI a)) 19 X.length (nI (bk L (hdr, j, t)))) 20 X.length v) 21 X.length (nI t)) 5 12 (nI (X.length + 1))) 21 = upd (h 21) X.length (nI t) := by rw [hwa (by decide), hwk, hwa (by decide), hwa (by decide), hwa (by decide)]
      rw [e18, e19, e20, e21, upi, upi, upi, upi]
      by_cases c : i = X.length
      · rw [if_pos c, if_pos c, if_pos c, if_pos c, c, getD_r]
        exact ⟨by rw [ea], rfl, ev, rfl⟩
      · rw [if_neg c, if_neg c, if_neg c, if_neg c, getD_l (by omega)]
        exact hA i (by omega)
  refine k_LR_noteImage_0 (fun _ => iv) (fun _ => iv) (fun _ _ => iv) (fun _ _ => iv) (fun _ c => ?_) (fun _ _ => iv) (fun _ _ => iv) (fun _ c => ?_) (fun c => absurd (by rw [h12]; exact nI_lt hX (by decide)) c)
  · refine fin _ ?_
    rw [eh] at c
    rw [c]
    rfl
  · refine fin _ ?_
    rw [eh] at c
    have : hid L (hdr, j, t) = true := by cases hc : hid L (hdr, j, t) <;> simp_all
    rw [if_pos this]
theorem s_passGroups {q a t : Nat} {s : Int32} {X : List xI3} (hL : lgC L (h 17)) (h7 : h 5 7 = nI q) (h10 : h 5 10 = nI a) (ha : a ≤ 24) (h11 : h 5 11 = s) (h12 : h 5 12 = nI X.length) (hX : X.length ≤ a) (hA : IA L X h) (hq : ∀ h', fr (plr [10, 11, 12]) h h' → h' 5 10 = nI (pgA L q 24 a) → h' 5 11 = pgH L q 24 a s → h' 5 12 = nI (X ++ (pgI L q 24 a).map (fun x => (x.1, x.2, t))).length → IA L (X ++ (pgI L q 24 a).map (fun x => (x.1, x.2, t))) h' → Q none h') : MC l E M_LR_passGroups [.inr 5, .inl (nI t)] h Q := by
  refine k_LR_passGroups_0 ?_
  have key : ∀ (f g a' : Nat) (s' : Int32) (X' : List xI3) (h' : xh), g + f = 24 → fr (plr [10, 11, 12]) h h' → h' 5 10 = nI a' → a' ≤ 24 → h' 5 11 = s' → h' 5 12 = nI X'.length → X'.length ≤ a' → IA L X' h' → pgA L q f a' = pgA L q 24 a → pgH L q f a' s' = pgH L q 24 a s → X' ++ (pgI L q f a').map (fun x => (x.1, x.2, t)) = X ++ (pgI L q 24 a).map (fun x => (x.1, x.2, t)) → WP l E M_LR_passGroups 2 [(0, .inr 5), (1, .inl (nI t)), (2, .inl (nI g))] [] h' Q := by
    intro f
    induction f with
    | zero =>
      intro g a' s' X' h' hg f0 y1 y2 y3 y4 y5 y6 y7 y8 y9
      have eg : g = 24 := by omega
      subst eg
      have c0 : nI 24 ≤ nI 24 := nI_le (Nat.le_refl 24) (by decide)
      refine k_LR_passGroups_2 (fun _ => ?_) (fun c => absurd c0 c)
      have e9 : X' = X ++ (pgI L q 24 a).map (fun x => (x.1, x.2, t)) := by rw [← y9]; simp [pgI]
      refine hq h' f0 (by rw [← y7]; exact y1) (by rw [← y8]; exact y3) (by rw [← e9]; exact y4) (by rw [← e9]; exact y6)
    | succ f ih =>
      intro g a' s' X' h' hg f0 y1 y2 y3 y4 y5 y6 y7 y8 y9
      have c0 : ¬ nI 24 ≤ nI g := nI_ge (by omega) (by decide)
      have hL' : lgC L (h' 17) := by rw [f0.cell 17 (fun _ => rfl)]; exact hL
      have z7 : h' 5 7 = nI q := by rw [f0 5 7 rfl]; exact h7
      have y7 : (if gok L q a' then pgA L q f (a' + (1 + cn L a')) else a') = pgA L q 24 a := y7
      have y8 : (if gok L q a' then pgH L q f (a' + (1 + cn L a')) (msn L s' a' (1 + cn L a')) else s') = pgH L q 24 a s := y8
      have y9 : X' ++ (if gok L q a' then (List.range (cn L a')).map (fun j => (a', j)) ++ pgI L q f (a' + (1 + cn L a')) else []).map (fun x => (x.1, x.2, t)) = X ++ (pgI L q 24 a).map (fun x => (x.1, x.2, t)) := y9
      -- no further group
      have stop : ¬ gok L q a' → Q none h' := by
        intro c
        rw [if_neg c] at y7 y8 y9
        have e9 : X' = X ++ (pgI L q 24 a).map (fun x => (x.1, x.2, t)) := by rw [← y9]; simp
        exact hq h' f0 (by rw [← y7]; exact y1) (by rw [← y8]; exact y3) (by rw [← e9]; exact y4) (by rw [← e9]; exact y6)
      refine k_LR_passGroups_2 (fun c => absurd c c0) (fun _ => ?_)
      refine s_isOwn hL' z7 y1 y2 ?_
      have ew : nI a' * nI 4 + nI 3 = nI (4 * a' + 3) := by rw [pk_mul, nI_add, show a' * 4 + 3 = 4 * a' + 3 by omega]
      by_cases ow : own L q a' 1
      · have h24 : a' < 24 := ow.1
        have z3 : h' 17 ((h' 5 10 * nI 4 + nI 3).toNatClampNeg) = L a' 3 := by rw [y1, ew, nI_clamp (by omega)]; exact hL' a' h24 3 (by omega)
        have ne : ¬ nI 1 = 0 := by decide +kernel
        rw [if_pos ow]
        have hc8 : cn L a' < 8 := Nat.mod_lt _ (by decide)
        refine k_LR_passGroups_13 (fun c => absurd c ne) (fun _ => by rw [y1, ew]; exact vp_in_nI (by omega) (by decide)) (fun _ c => stop (fun g => ?_)) (fun _ _ c => stop (fun g => ?_)) (fun _ c1 c2 c3 => ?_) (fun _ _ _ c => stop (fun g => ?_))
        · rw [z3, cn_and] at c
          have := nlt c (by omega) (by omega)
          have := g.2.1
          omega
        · rw [z3, cn_and] at c
          have := nlt c (by omega) (by omega)
          have := g.2.2.1
          omega
        · rw [z3, cn_and] at c1 c2 c3
          rw [y1, nI_add] at c3
          have c1 := nnlt c1 (by omega)
          have c2 := nnlt c2 (by omega)
          have c3 := nlt c3 (by omega) (by omega)
          have gk : gok L q a' := ⟨ow, c1, c2, c3⟩
          rw [if_pos gk] at y7 y8 y9
          rw [z3, cn_and]
          refine s_passSector hL' y1 h24 y3 (fun h1 f1 b1 b2 => ?_)
          refine k_LR_passGroups_61 ?_
          -- the images of the group
          have inner : ∀ (jj j : Nat) (h2 : xh), j + jj = cn L a' → fr (plr [10, 11, 12]) h h2 → h2 5 10 = nI (a' + 1 + j) → h2 5 11 = msn L s' a' (1 + j) → h2 5 12 = nI (X' ++ (List.range j).map (fun j => (a', j, t))).length → IA L (X' ++ (List.range j).map (fun j => (a', j, t))) h2 → WP l E M_LR_passGroups 64 [(0, .inr 5), (1, .inl (nI t)), (2, .inl (nI g)), (3, .inl (L a' 3)), (4, .inl (nI (cn L a'))), (5, .inl (nI j))] [] h2 Q := by
            intro jj
            induction jj with
            | zero =>
              intro j h2 hj f2 w1 w2 w3 w4
              have ej : j = cn L a' := by omega
              rw [ej] at w1 w2 w3 w4 ⊢
              have c0' : nI (cn L a') ≤ nI (cn L a') := nI_le (Nat.le_refl _) (by omega)
              refine k_LR_passGroups_64 (fun _ => ?_) (fun c => absurd c0' c)
              rw [nI_add]
              refine ih (g + 1) (a' + (1 + cn L a')) (msn L s' a' (1 + cn L a')) _ h2 (by omega) f2 (by rw [w1, Nat.add_assoc]) (by omega) w2 w3 ?_ w4 y7 y8 ?_
              · rw [List.length_append, List.length_map, List.length_range]; omega
              · rw [← y9, List.map_append, List.map_map, List.append_assoc]
                rfl
            | succ jj ihj =>
              intro j h2 hj f2 w1 w2 w3 w4
              have c0' : ¬ nI (cn L a') ≤ nI j := nI_ge (by omega) (by omega)
              have hlen : (X' ++ (List.range j).map (fun j => (a', j, t))).length = X'.length + j := by rw [List.length_append, List.length_map, List.length_range]
              refine k_LR_passGroups_64 (fun c => absurd c c0') (fun _ => ?_)
              rw [pk_mul, nI_add]
              refine s_noteImage w1 w3 (by omega) w4 rfl (by omega) (fun h3 f3 d1 d2 => ?_)
              refine k_LR_passGroups_84 ?_
              have hL3 : lgC L (h3 17) := by rw [f3.cell 17 (fun _ => rfl), f2.cell 17 (fun _ => rfl)]; exact hL
              refine s_passSector (s := msn L s' a' (1 + j)) hL3 (by rw [f3 5 10 rfl]; exact w1) (by omega) (by rw [f3 5 11 rfl]; exact w2) (fun h4 f4 e1 e2 => ?_)
              refine k_LR_passGroups_88 ?_
              rw [nI_add]
              have eapp : X' ++ (List.range (j + 1)).map (fun j => (a', j, t)) = X' ++ (List.range j).map (fun j => (a', j, t)) ++ [(a', j, t)] := by
                rw [List.range_succ, List.map_append, List.append_assoc]
                rfl
              refine ihj (j + 1) h4 (by omega) ((f2.tr (f3.upr rfl)).tr (f4.lr rfl)) (by rw [e1, Nat.add_assoc]) ?_ ?_ ?_
              · rw [e2, show 1 + (j + 1) = 1 + j + 1 by omega]
                show mx4 (msn L s' a' (1 + j)) (L (a' + 1 + j)) = mx4 (msn L s' a' (1 + j)) (L (a' + (1 + j)))
                rw [Nat.add_assoc]
              · rw [eapp, List.length_append, f4 5 12 rfl, d1]
                rfl
              · rw [eapp]
                show ia L _ (h4 18) (h4 19) (h4 20) (h4 21)
                rw [f4.cell 18 (fun _ => rfl), f4.cell 19 (fun _ => rfl), f4.cell 20 (fun _ => rfl), f4.cell 21 (fun _ => rfl)]
                exact d2
          refine inner (cn L a') 0 h1 (by omega) (f0.tr (f1.lr rfl)) b1 b2 ?_ ?_
          · rw [f1 5 12 rfl]; simpa using y4
          · show ia L _ (h1 18) (h1 19) (h1 20) (h1 21)
            rw [f1.cell 18 (fun _ => rfl), f1.cell 19 (fun _ => rfl), f1.cell 20 (fun _ => rfl), f1.cell 21 (fun _ => rfl)]
            simpa using y6
        · rw [z3, y1, cn_and, nI_add] at c
          have := nnlt c (by omega)
          have := g.2.2.2
          omega
      · rw [if_neg ow]
        exact k_LR_passGroups_13 (fun _ => stop (fun g => ow g.1)) (fun c => absurd nI_0 c) (fun c => absurd nI_0 c) (fun c => absurd nI_0 c) (fun c => absurd nI_0 c) (fun c => absurd nI_0 c)
  exact key 24 0 a s X h (by omega) fr.rf h10 ha h11 h12 hX hA rfl rfl rfl
end RDC
