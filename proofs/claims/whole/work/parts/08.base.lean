/-! TOOLS: numbers, heaps, what may change -/
theorem hwk {h : xh} {k j : Nat} {v : Int32} : hw h k j v k = upd (h k) j v := by rw [← hw_eq, hu_s]
theorem hwa {h : xh} {k j a : Nat} {v : Int32} (e : a ≠ k) : hw h k j v a = h a := by rw [← hw_eq, hu_n e]
theorem hck {h : xh} {k0 k1 : Nat} {sp dp n : Int32} : hc h k0 k1 sp dp n k1 = va_cpy (h k0) (h k1) sp.toNatClampNeg dp.toNatClampNeg n.toNatClampNeg := hu_s
theorem hca {h : xh} {k0 k1 a : Nat} {sp dp n : Int32} (e : a ≠ k1) : hc h k0 k1 sp dp n a = h a := hu_n e
theorem upi {f : Nat → Int32} {k j : Nat} {x : Int32} : upd f k x j = if j = k then x else f j := by simp [upd]
theorem npred (n : Nat) : nI (n + 1) - nI 1 = nI n := by rw [show nI 1 = 1 by decide +kernel]; exact nI_pred n
theorem nsub {a b : Nat} (h : b ≤ a) : nI a - nI b = nI (a - b) := pk_sub h
theorem nnn {n : Nat} (h : n < 2 ^ 31) : ¬ nI n < 0 := nI_pos h
theorem nle {a b : Nat} (h : nI a ≤ nI b) (ha : a < 2 ^ 31) (hb : b < 2 ^ 31) : a ≤ b := (nI_leI ha hb).mp h
theorem nnle {a b : Nat} (h : ¬ nI a ≤ nI b) (hb : b < 2 ^ 31) : b < a := by
  rcases Nat.lt_or_ge b a with q | q
  · exact q
  · exact absurd (nI_le q hb) h
theorem nlt {a b : Nat} (h : nI a < nI b) (ha : a < 2 ^ 31) (hb : b < 2 ^ 31) : a < b := (nI_ltI ha hb).mp h
theorem nnlt {a b : Nat} (h : ¬ nI a < nI b) (hb : b < 2 ^ 31) : b ≤ a := by
  rcases Nat.lt_or_ge a b with q | q
  · exact absurd (nI_lt q hb) h
  · exact q
theorem neq {a b : Nat} (h : nI a = nI b) (ha : a < 2 ^ 31) (hb : b < 2 ^ 31) : a = b := (nI_eq ha hb).mp h
theorem nne0 {a : Nat} (h : ¬ nI a = 0) : a ≠ 0 := fun e => h (by rw [e]; exact nI_0)
theorem n0 {a : Nat} (h : nI a = 0) (ha : a < 2 ^ 31) : a = 0 := neq (h.trans nI_0.symm) ha (by decide)
/-- an index from outside: within, or not -/
theorem ixI (x : Int32) (n : Nat) (hn : n < 2 ^ 31) : x < 0 ∨ nI n ≤ x ∨ ∃ j : Nat, j < n ∧ x = nI j := pk_ix x hn
/-- what may change -/
def fr (P : Nat → Nat → Bool) (h h' : xh) : Prop := ∀ k j, P k j = false → h' k j = h k j
theorem fr.rf {P : Nat → Nat → Bool} {h : xh} : fr P h h := fun _ _ _ => rfl
theorem fr.tr {P : Nat → Nat → Bool} {h h1 h2 : xh} (a : fr P h h1) (b : fr P h1 h2) : fr P h h2 := fun k j e => (b k j e).trans (a k j e)
theorem fr.mono {P P' : Nat → Nat → Bool} {h h1 : xh} (a : fr P h h1) (e : ∀ k j, P' k j = false → P k j = false) : fr P' h h1 := fun k j q => a k j (e k j q)
theorem fr.cell {P : Nat → Nat → Bool} {h h1 : xh} (a : fr P h h1) (k : Nat) (e : ∀ j, P k j = false) : h1 k = h k := funext fun j => a k j (e j)
theorem fr.hw {P : Nat → Nat → Bool} {h h1 : xh} {k j : Nat} {v : Int32} (a : fr P h h1) (e : P k j = true) : fr P h (hw h1 k j v) := by
  intro x y q
  by_cases e1 : x = k
  · subst e1
    rw [hwk, upi, if_neg (fun z => by rw [z, e] at q; cases q)]
    exact a _ _ q
  · rw [hwa e1]
    exact a _ _ q
theorem fr.hc {P : Nat → Nat → Bool} {h h1 : xh} {k0 k1 : Nat} {sp dp n : Int32} (a : fr P h h1) (e : ∀ j, P k1 j = true) : fr P h (hc h1 k0 k1 sp dp n) := by
  intro x y q
  by_cases e1 : x = k1
  · subst e1
    rw [e y] at q; cases q
  · rw [hca e1]
    exact a _ _ q
/-- the cells of a list -/
def pc (L : List Nat) : Nat → Nat → Bool := fun k _ => L.elem k
/-! THE DEVICE, as pure data: d the sectors' words, n entries with sectors es and words ew -/
def vw (d : Nat → Int32) (es : Nat → Nat) (ew : Nat → Int32) (s w : Nat) : Nat → Int32
  | 0 => d (4 * s + w)
  | n + 1 => if es n = s then ew (4 * n + w) else vw d es ew s w n
def st4 (d : Nat → Int32) (s : Nat) (f : Nat → Int32) (m : Nat) : Nat → Int32 := fun i => if 4 * s ≤ i ∧ i < 4 * s + m then f (i - 4 * s) else d i
def fl (d : Nat → Int32) (es : Nat → Nat) (ew : Nat → Int32) : Nat → Nat → Int32
  | 0 => d
  | k + 1 => st4 (fl d es ew k) (es k) (fun j => ew (4 * k + j)) 4
def kp (mask : Int32) (k : Nat) : Prop := ushr mask (nI k) &&& nI 1 = nI 1
def dv (ne : Int32) (a b c : Nat → Int32) (d : Nat → Int32) (n : Nat) (es : Nat → Nat) (ew : Nat → Int32) : Prop :=
  ne = nI n ∧ n ≤ 28 ∧ (∀ i, i < 164 → a i = d i) ∧ (∀ k, k < n → b k = nI (es k) ∧ es k < 41) ∧ (∀ i, i < 4 * n → c i = ew i)
abbrev DC (d : Nat → Int32) (n : Nat) (es : Nat → Nat) (ew : Nat → Int32) (h : xh) : Prop := dv (h 1 3) (h 8) (h 9) (h 10) d n es ew
abbrev DM (d : Nat → Int32) (n : Nat) (es : Nat → Nat) (ew : Nat → Int32) (h : xh) : Prop := dv (h 7 1) (h 25) (h 26) (h 27) d n es ew
theorem DC.fr {P : Nat → Nat → Bool} {d : Nat → Int32} {n : Nat} {es : Nat → Nat} {ew : Nat → Int32} {h h1 : xh} (D : DC d n es ew h) (f : fr P h h1) (e1 : P 1 3 = false) (e2 : ∀ j, P 8 j = false) (e3 : ∀ j, P 9 j = false) (e4 : ∀ j, P 10 j = false) : DC d n es ew h1 := by
  show dv (h1 1 3) (h1 8) (h1 9) (h1 10) d n es ew
  rw [f 1 3 e1, f.cell 8 e2, f.cell 9 e3, f.cell 10 e4]
  exact D
theorem DM.fr {P : Nat → Nat → Bool} {d : Nat → Int32} {n : Nat} {es : Nat → Nat} {ew : Nat → Int32} {h h1 : xh} (D : DM d n es ew h) (f : fr P h h1) (e1 : P 7 1 = false) (e2 : ∀ j, P 25 j = false) (e3 : ∀ j, P 26 j = false) (e4 : ∀ j, P 27 j = false) : DM d n es ew h1 := by
  show dv (h1 7 1) (h1 25) (h1 26) (h1 27) d n es ew
  rw [f 7 1 e1, f.cell 25 e2, f.cell 26 e3, f.cell 27 e4]
  exact D
section DEVC
variable {l : Launch} {E : xE} {d : Nat → Int32} {n : Nat} {es : Nat → Nat} {ew : Nat → Int32} {h : xh} {Q : Option Int32 → xh → Prop}
theorem s_newest {s w : Nat} (D : DC d n es ew h) (hs : s < 41) (hw : w < 4) (hq : Q (some (vw d es ew s w n)) h) : MC l E M_DV_newestWord [.inr 1, .inl (nI s), .inl (nI w)] h Q := by
  obtain ⟨hn, hn28, hd, hes, hew⟩ := D
  refine k_DV_newestWord_0 ?_
  rw [hn]
  have key : ∀ i, i ≤ n → vw d es ew s w i = vw d es ew s w n → WP l E M_DV_newestWord 7 [(0, .inr 1), (1, .inl (nI s)), (2, .inl (nI w)), (3, .inl (nI i - nI 1))] [] h Q := by
    intro i
    induction i with
    | zero =>
      intro _ e
      have c0 : nI 0 - nI 1 < 0 := by decide +kernel
      refine k_DV_newestWord_7 (fun _ => ?_) (fun _ => ?_) (fun c => absurd c0 c) (fun c => absurd c0 c) (fun c => absurd c0 c) (fun c => absurd c0 c)
      · rw [pk_mul, nI_add]; exact vp_in_nI (by omega) (by omega)
      · rw [pk_mul, nI_add, nI_clamp (by omega), hd _ (by omega), show s * 4 + w = 4 * s + w by omega]
        rw [← e] at hq
        exact hq
    | succ i ih =>
      intro hi e
      rw [npred]
      have c0 : ¬ nI i < 0 := nnn (by omega)
      refine k_DV_newestWord_7 (fun c => absurd c c0) (fun c => absurd c c0) (fun _ => vp_in_nI (by omega) (by omega)) (fun _ c => ?_) (fun _ c => ?_) (fun _ c => ?_)
      · rw [nI_clamp (by omega), (hes i (by omega)).1] at c
        refine ih (by omega) ?_
        rw [← e]
        show _ = if es i = s then _ else _
        rw [if_neg (fun z => c (by rw [z]))]
      · rw [pk_mul, nI_add]; exact vp_in_nI (by omega) (by omega)
      · rw [nI_clamp (by omega), (hes i (by omega)).1] at c
        have ce := neq c (by have := (hes i (by omega)).2; omega) (by omega)
        rw [pk_mul, nI_add, nI_clamp (by omega), hew _ (by omega), show i * 4 + w = 4 * i + w by omega]
        rw [← e] at hq
        have e2 : vw d es ew s w (i + 1) = ew (4 * i + w) := by
          show (if es i = s then _ else _) = _
          rw [if_pos ce]
        rw [e2] at hq
        exact hq
  exact key n (Nat.le_refl n) rfl
theorem s_settle {k m : Nat} (D : DC d n es ew h) (hk : k < n) (hm : m ≤ 4) (hq : ∀ h', fr (pc [8]) h h' → DC (st4 d (es k) (fun j => ew (4 * k + j)) m) n es ew h' → Q none h') : MC l E M_DV_settle [.inr 1, .inl (nI k), .inl (nI m)] h Q := by
  obtain ⟨hn, hn28, hd, hes, hew⟩ := D
  have h9 := (hes k hk).1
  have h41 := (hes k hk).2
  have ek : (nI k).toNatClampNeg = k := nI_clamp (by omega)
  have e1 : (nI k * nI 4).toNatClampNeg = k * 4 := by rw [pk_mul, nI_clamp (by omega)]
  have e2 : (nI (es k) * nI 4).toNatClampNeg = es k * 4 := by rw [pk_mul, nI_clamp (by omega)]
  have e3 : (nI m).toNatClampNeg = m := nI_clamp (by omega)
  refine k_DV_settle_0 (vp_in_nI (by omega) (by omega)) (by rw [pk_mul]; exact nnn (by omega)) (by rw [ek, h9, pk_mul]; exact nnn (by omega)) (nnn (by omega)) (by rw [e1, e3]; omega) (by rw [ek, h9, e2, e3]; omega) ?_
  rw [ek, h9]
  refine hq _ (fr.rf.hc (fun _ => rfl)) ?_
  refine ⟨?_, hn28, fun i hi => ?_, fun j hj => ?_, fun i hi => ?_⟩
  · rw [hca (by decide)]; exact hn
  · rw [hck, e1, e2, e3]
    unfold va_cpy st4
    by_cases c : es k * 4 ≤ i ∧ i < es k * 4 + m
    · rw [if_pos c, if_pos (by omega), hew _ (by omega), show k * 4 + (i - es k * 4) = 4 * k + (i - 4 * es k) by omega]
    · rw [if_neg c, if_neg (by omega)]
      exact hd i hi
  · rw [hca (by decide)]; exact hes j hj
  · rw [hca (by decide)]; exact hew i hi
theorem s_flush (D : DC d n es ew h) (hq : ∀ h', fr (pc [1, 8]) h h' → DC (fl d es ew n) 0 es ew h' → Q none h') : MC l E M_DV_flush [.inr 1] h Q := by
  refine k_DV_flush_0 ?_
  have key : ∀ (j i : Nat) (h' : xh), i + j = n → fr (pc [8]) h h' → DC (fl d es ew i) n es ew h' → WP l E M_DV_flush 2 [(0, .inr 1), (1, .inl (nI i))] [] h' Q := by
    intro j
    induction j with
    | zero =>
      intro i h' hi f D'
      have hn := D'.1
      have c0 : nI n ≤ nI i := nI_le (by omega) (by have := D'.2.1; omega)
      refine k_DV_flush_2 (fun _ => ?_) (fun c => absurd (by rw [hn]; exact c0) c)
      refine hq _ ((f.mono (fun k j q => by unfold pc at q ⊢; cases hk : Nat.beq k 1 <;> simp_all)).hw rfl) ?_
      have e : i = n := by omega
      subst e
      obtain ⟨-, h28, hd, hes, hew⟩ := D'
      refine ⟨?_, by omega, fun i hi => ?_, fun k hk => absurd hk (Nat.not_lt_zero _), fun i hi => absurd hi (Nat.not_lt_zero _)⟩
      · rw [hwk, upi, if_pos rfl]
      · rw [hwa (by decide)]; exact hd i hi
    | succ j ih =>
      intro i h' hi f D'
      have hn := D'.1
      have c0 : ¬ nI n ≤ nI i := nI_ge (by omega) (by have := D'.2.1; omega)
      refine k_DV_flush_2 (fun c => absurd (by rw [← hn]; exact c) c0) (fun _ => ?_)
      refine s_settle (k := i) (m := 4) D' (by omega) (by omega) (fun h2 f2 D2 => ?_)
      refine k_DV_flush_16 ?_
      rw [nI_add]
      exact ih (i + 1) h2 (by omega) (f.tr f2) D2
  exact key n 0 h (by omega) fr.rf D
end DEVC
