/-! THE JOB of the class: tot actions, the last three a flush, a write, a flush; before them writes -/
theorem nrem {a : Nat} (ha : a < 2 ^ 31) : irem (nI a) (nI 24) = nI (a % 24) := pk_rem ha (by decide) (by decide)
abbrev xD : Type := (Nat → Int32) × Nat × (Nat → Nat) × (Nat → Int32)
abbrev DCt (σ : xD) (h : xh) : Prop := DC σ.1 σ.2.1 σ.2.2.1 σ.2.2.2 h
abbrev DMt (σ : xD) (h : xh) : Prop := DM σ.1 σ.2.1 σ.2.2.1 σ.2.2.2 h
/-- action k of a job -/
def ac (tot : Nat) (pt : Nat → Nat) (pq : Nat → Int32) (k : Nat) (σ : xD) : xD :=
  if k = tot - 3 ∨ k = tot - 1 then (fl σ.1 σ.2.2.1 σ.2.2.2 σ.2.1, 0, σ.2.2.1, σ.2.2.2) else (σ.1, σ.2.1 + 1, esw σ.2.2.1 σ.2.1 (pt k), eww σ.2.2.2 σ.2.1 (fun j => pq (4 * k + j)))
/-- m actions from number k on -/
def acs (tot : Nat) (pt : Nat → Nat) (pq : Nat → Int32) : Nat → Nat → xD → xD
  | _, 0, σ => σ
  | k, m + 1, σ => acs tot pt pq (k + 1) m (ac tot pt pq k σ)
/-- how many entries the cache has at most, before action k -/
def bnd (B tot k : Nat) (σ : xD) : Prop := (k ≤ tot - 3 → σ.2.1 ≤ B + k) ∧ (tot - 3 < k → σ.2.1 ≤ 1) ∧ (k = tot - 2 → σ.2.1 = 0) ∧ (k = tot → σ.2.1 = 0)
theorem bnd_ac {B tot k : Nat} {σ : xD} {pt : Nat → Nat} {pq : Nat → Int32} (h3 : 3 ≤ tot) (hk : k < tot) (h : bnd B tot k σ) : bnd B tot (k + 1) (ac tot pt pq k σ) := by
  obtain ⟨h1, h2, h4, h5⟩ := h
  unfold ac
  by_cases c : k = tot - 3 ∨ k = tot - 1
  · rw [if_pos c]
    exact ⟨fun _ => Nat.zero_le _, fun _ => Nat.zero_le _, fun _ => rfl, fun _ => rfl⟩
  · rw [if_neg c]
    refine ⟨fun q => ?_, fun q => ?_, fun q => ?_, fun q => ?_⟩
    · show σ.2.1 + 1 ≤ _
      have := h1 (by omega)
      omega
    · show σ.2.1 + 1 ≤ _
      have := h4 (by omega)
      omega
    · omega
    · omega
def plan (tot : Nat) (pt : Nat → Nat) (pq : Nat → Int32) (f23 f24 : Nat → Int32) : Prop :=
  ∀ k, k < tot → (k = tot - 3 ∨ k = tot - 1 → f23 k = -1) ∧ (¬ (k = tot - 3 ∨ k = tot - 1) → f23 k = nI (pt k) ∧ pt k < 41 ∧ ∀ w, w < 4 → f24 (4 * k + w) = pq (4 * k + w))
/-- the job while it runs; dn may be tot -/
def jr (job dn tot : Nat) (pt : Nat → Nat) (pq : Nat → Int32) (a2 a3 a4 : Int32) (f23 f24 : Nat → Int32) : Prop :=
  a2 = nI job ∧ a3 = nI tot ∧ a4 = nI dn ∧ dn ≤ tot ∧ 3 ≤ tot ∧ tot ≤ 27 ∧ plan tot pt pq f23 f24
abbrev JR (job dn tot : Nat) (pt : Nat → Nat) (pq : Nat → Int32) (h : xh) : Prop := jr job dn tot pt pq (h 6 2) (h 6 3) (h 6 4) (h 23) (h 24)
/-- no job -/
def J0 (h : xh) : Prop := h 6 2 = 0 ∧ h 6 3 = 0 ∧ h 6 4 = 0
theorem JR.fr {P : Nat → Nat → Bool} {job dn tot : Nat} {pt : Nat → Nat} {pq : Nat → Int32} {h h1 : xh} (J : JR job dn tot pt pq h) (f : fr P h h1) (e2 : P 6 2 = false) (e3 : P 6 3 = false) (e4 : P 6 4 = false) (e23 : ∀ j, P 23 j = false) (e24 : ∀ j, P 24 j = false) : JR job dn tot pt pq h1 := by
  show jr job dn tot pt pq (h1 6 2) (h1 6 3) (h1 6 4) (h1 23) (h1 24)
  rw [f 6 2 e2, f 6 3 e3, f 6 4 e4, f.cell 23 e23, f.cell 24 e24]
  exact J
theorem J0.fr {P : Nat → Nat → Bool} {h h1 : xh} (J : J0 h) (f : fr P h h1) (e2 : P 6 2 = false) (e3 : P 6 3 = false) (e4 : P 6 4 = false) : J0 h1 := by
  unfold J0
  rw [f 6 2 e2, f 6 3 e3, f 6 4 e4]
  exact J
section JOBC
variable {l : Launch} {E : xE} {h : xh} {Q : Option Int32 → xh → Prop}
theorem s_addFlush {p : Nat} (hp : h 6 3 = nI p) (h27 : p < 27) (hq : ∀ h', fr (fun k j => (pc [23]) k j || (Nat.beq k 6 && Nat.beq j 3)) h h' → h' 6 3 = nI (p + 1) → h' 23 p = -1 → (∀ k, k ≠ p → h' 23 k = h 23 k) → Q none h') : MC l E M_JB_addFlush [.inr 6] h Q := by
  have ep : (nI p).toNatClampNeg = p := nI_clamp (by omega)
  refine k_JB_addFlush_0 (fun c => absurd (by rw [← hp]; exact c) (nI_ge h27 (by decide))) (fun _ => by rw [hp]; exact vp_in_nI h27 (by decide)) (fun _ => ?_)
  rw [hp, ep]
  refine hq _ ((fr.rf.hw rfl).hw rfl) ?_ ?_ (fun k hk => ?_)
  · rw [hwk, upi, if_pos rfl, nI_add]
  · rw [hwa (by decide), hwk, upi, if_pos rfl]
  · rw [hwa (by decide), hwk, upi, if_neg hk]
theorem s_addWrite {p : Nat} {x1 x2 x3 x4 x5 : Int32} (hp : h 6 3 = nI p) (h27 : p < 27) (hq : ∀ h', fr (fun k j => (pc [23, 24]) k j || (Nat.beq k 6 && Nat.beq j 3)) h h' → h' 6 3 = nI (p + 1) → h' 23 p = x1 → (∀ k, k ≠ p → h' 23 k = h 23 k) → h' 24 (4 * p) = x2 → h' 24 (4 * p + 1) = x3 → h' 24 (4 * p + 2) = x4 → h' 24 (4 * p + 3) = x5 → (∀ i, i < 4 * p ∨ 4 * p + 4 ≤ i → h' 24 i = h 24 i) → Q none h') : MC l E M_JB_addWrite [.inr 6, .inl x1, .inl x2, .inl x3, .inl x4, .inl x5] h Q := by
  have ep : (nI p).toNatClampNeg = p := nI_clamp (by omega)
  have e0 : nI p * nI 4 = nI (4 * p) := by rw [pk_mul, Nat.mul_comm]
  have ec : ∀ w, w < 4 → (nI (4 * p + w)).toNatClampNeg = 4 * p + w := fun w hw4 => nI_clamp (by omega)
  have ec0 : (nI (4 * p)).toNatClampNeg = 4 * p := nI_clamp (by omega)
  refine k_JB_addWrite_0 (fun _ => ?_) (fun _ => ?_) (fun _ => ?_) (fun _ => ?_) (fun _ => ?_) (fun _ => ?_) (fun c => absurd (by rw [hp]; exact nI_lt h27 (by decide)) c)
  · rw [hp, e0]; exact vp_in_nI (by omega) (by decide)
  · rw [hp, e0, nI_add]; exact vp_in_nI (by omega) (by decide)
  · rw [hp, e0, nI_add]; exact vp_in_nI (by omega) (by decide)
  · rw [hp, e0, nI_add]; exact vp_in_nI (by omega) (by decide)
  · rw [hp]; exact vp_in_nI h27 (by decide)
  · rw [hp, e0, nI_add, nI_add, nI_add, ec 1 (by omega), ec 2 (by omega), ec 3 (by omega), ec0, ep]
    refine hq _ ((((((fr.rf.hw rfl).hw rfl).hw rfl).hw rfl).hw rfl).hw rfl) ?_ ?_ (fun k hk => ?_) ?_ ?_ ?_ ?_ (fun i hi => ?_)
    · rw [hwk, upi, if_pos rfl, nI_add]
    · rw [hwa (by decide), hwk, upi, if_pos rfl]
    · rw [hwa (by decide), hwk, upi, if_neg hk, hwa (by decide), hwa (by decide), hwa (by decide), hwa (by decide)]
    · rw [hwa (by decide), hwa (by decide), hwk, upi, if_neg (by omega), hwk, upi, if_neg (by omega), hwk, upi, if_neg (by omega), hwk, upi, if_pos rfl]
    · rw [hwa (by decide), hwa (by decide), hwk, upi, if_neg (by omega), hwk, upi, if_neg (by omega), hwk, upi, if_pos rfl]
    · rw [hwa (by decide), hwa (by decide), hwk, upi, if_neg (by omega), hwk, upi, if_pos rfl]
    · rw [hwa (by decide), hwa (by decide), hwk, upi, if_pos rfl]
    · rw [hwa (by decide), hwa (by decide), hwk, upi, if_neg (by omega), hwk, upi, if_neg (by omega), hwk, upi, if_neg (by omega), hwk, upi, if_neg (by omega)]
/-- a plan under way: p writes -/
def pl (p : Nat) (pt : Nat → Nat) (pq : Nat → Int32) (f23 f24 : Nat → Int32) : Prop := ∀ k, k < p → f23 k = nI (pt k) ∧ ∀ w, w < 4 → f24 (4 * k + w) = pq (4 * k + w)
/-- the three last actions behind p writes -/
theorem plan_end {p : Nat} {pt : Nat → Nat} {pq f23 f24 g23 g24 : Nat → Int32} (h : pl p pt pq f23 f24) (ht : ∀ k, k < p + 3 → k ≠ p → k ≠ p + 2 → pt k < 41) (a1 : g23 p = -1) (a2 : g23 (p + 2) = -1) (a3 : g23 (p + 1) = nI (pt (p + 1))) (a4 : ∀ w, w < 4 → g24 (4 * (p + 1) + w) = pq (4 * (p + 1) + w)) (a5 : ∀ k, k < p → g23 k = f23 k) (a6 : ∀ i, i < 4 * p → g24 i = f24 i) : plan (p + 3) pt pq g23 g24 := by
  intro k hk
  refine ⟨fun c => ?_, fun c => ?_⟩
  · rcases c with c | c
    · rw [show k = p by omega]; exact a1
    · rw [show k = p + 2 by omega]; exact a2
  · by_cases e : k = p + 1
    · subst e
      exact ⟨a3, ht _ hk (by omega) (by omega), a4⟩
    · have hk2 : k < p := by omega
      refine ⟨by rw [a5 k hk2]; exact (h k hk2).1, ht k hk (by omega) (by omega), fun w hw4 => ?_⟩
      rw [a6 _ (by omega)]
      exact (h k hk2).2 w hw4
theorem s_planHead {p : Nat} {x1 x2 : Int32} (hp : h 6 3 = nI p) (h24 : p < 25) (hq : ∀ h', fr (fun k j => (pc [23, 24]) k j || (Nat.beq k 6 && Nat.beq j 3)) h h' → h' 6 3 = nI (p + 3) → h' 23 p = -1 → h' 23 (p + 2) = -1 → h' 23 (p + 1) = nI 16 → h' 24 (4 * (p + 1)) = nI 77001 → h' 24 (4 * (p + 1) + 1) = x1 → h' 24 (4 * (p + 1) + 2) = x2 → h' 24 (4 * (p + 1) + 3) = nI 0 → (∀ k, k < p → h' 23 k = h 23 k) → (∀ i, i < 4 * p → h' 24 i = h 24 i) → Q none h') : MC l E M_RS_planHead [.inr 0, .inl x1, .inl x2] h Q := by
  refine k_RS_planHead_0 ?_
  refine s_addFlush hp (by omega) (fun h1 f1 a1 a2 a3 => ?_)
  refine k_RS_planHead_7 ?_
  refine s_addWrite a1 (by omega) (fun h2 f2 b1 b2 b3 b4 b5 b6 b7 b8 => ?_)
  refine k_RS_planHead_21 ?_
  refine s_addFlush b1 (by omega) (fun h3 f3 d1 d2 d3 => ?_)
  refine k_RS_planHead_28 ?_
  have g1 : fr (fun k j => (pc [23, 24]) k j || (Nat.beq k 6 && Nat.beq j 3)) h h1 := f1.mono (fun k j q => by
    have q1 := Bool.or_eq_false_iff.mp q
    rw [Bool.or_eq_false_iff]
    refine ⟨?_, q1.2⟩
    have := q1.1
    unfold pc at this ⊢
    cases hk2 : Nat.beq k 23 <;> simp_all)
  have g3 : fr (fun k j => (pc [23, 24]) k j || (Nat.beq k 6 && Nat.beq j 3)) h2 h3 := f3.mono (fun k j q => by
    have q1 := Bool.or_eq_false_iff.mp q
    rw [Bool.or_eq_false_iff]
    refine ⟨?_, q1.2⟩
    have := q1.1
    unfold pc at this ⊢
    cases hk2 : Nat.beq k 23 <;> simp_all)
  have c24 : h3 24 = h2 24 := f3.cell 24 (fun _ => rfl)
  have c24' : h1 24 = h 24 := f1.cell 24 (fun _ => rfl)
  refine hq h3 ((g1.tr f2).tr g3) d1 ?_ d2 ?_ ?_ ?_ ?_ ?_ (fun k hk => ?_) (fun i hi => ?_)
  · rw [d3 _ (by omega), b3 _ (by omega)]; exact a2
  · rw [d3 _ (by omega)]; exact b2
  · rw [c24]; exact b4
  · rw [c24]; exact b5
  · rw [c24]; exact b6
  · rw [c24]; exact b7
  · rw [d3 _ (by omega), b3 _ (by omega), a3 _ (by omega)]
  · rw [c24, b8 _ (by omega), c24']
/-- one action -/
theorem s_doNext {job dn tot : Nat} {pt : Nat → Nat} {pq : Nat → Int32} {σ : xD} (J : JR job dn tot pt pq h) (D : DCt σ h) (hd : dn < tot) (hn : σ.2.1 < 28 ∨ dn = tot - 3 ∨ dn = tot - 1) (hq : ∀ h', fr (fun k j => (pc [1, 8, 9, 10]) k j || (Nat.beq k 6 && Nat.beq j 4)) h h' → JR job (dn + 1) tot pt pq h' → DCt (ac tot pt pq dn σ) h' → Q none h') : MC l E M_JB_doNext [.inr 6, .inr 1] h Q := by
  obtain ⟨j2, j3, j4, jd, jt, j27, jp⟩ := id J
  have ed : (nI dn).toNatClampNeg = dn := nI_clamp (by omega)
  have e0 : nI dn * nI 4 = nI (4 * dn) := by rw [pk_mul, Nat.mul_comm]
  obtain ⟨pa, pb⟩ := jp dn hd
  have i27 : vp_in (nI dn) 27 := vp_in_nI (by omega) (by decide)
  have fin : ∀ h1 : xh, fr (pc [1, 8, 9, 10]) h h1 → DCt (ac tot pt pq dn σ) h1 → Q none (hw h1 6 4 (h1 6 4 + nI 1)) := by
    intro h1 f D1
    refine hq _ ((f.mono (fun k j q => (Bool.or_eq_false_iff.mp q).1)).hw rfl) ?_ ?_
    · refine ⟨?_, ?_, ?_, by omega, jt, j27, ?_⟩
      · rw [hwk, upi, if_neg (by decide), f 6 2 rfl]; exact j2
      · rw [hwk, upi, if_neg (by decide), f 6 3 rfl]; exact j3
      · rw [hwk, upi, if_pos rfl, f 6 4 rfl, j4, nI_add]
      · rw [hwa (by decide), hwa (by decide), f.cell 23 (fun _ => rfl), f.cell 24 (fun _ => rfl)]; exact jp
    · show dv (hw h1 6 4 (h1 6 4 + nI 1) 1 3) (hw h1 6 4 (h1 6 4 + nI 1) 8) (hw h1 6 4 (h1 6 4 + nI 1) 9) (hw h1 6 4 (h1 6 4 + nI 1) 10) _ _ _ _
      rw [hwa (by decide), hwa (by decide), hwa (by decide), hwa (by decide)]
      exact D1
  refine k_JB_doNext_0 (fun _ => by rw [j4]; exact i27) (fun _ _ => by rw [j4]; exact i27) (fun _ c => ?_) (fun _ c => ?_) (fun c => absurd (by rw [j4, j3]; exact nI_lt hd (by omega)) c)
  · rw [j4, ed] at c
    have c1 : ¬ (dn = tot - 3 ∨ dn = tot - 1) := fun z => c (pa z)
    obtain ⟨p1, p2, p3⟩ := pb c1
    rw [j4, ed, p1, e0]
    refine s_write D (by omega) p2 (by omega) (fun h1 f D1 => ?_)
    refine k_JB_doNext_55 (fin h1 (f.up rfl) ?_)
    unfold ac
    rw [if_neg c1]
    obtain ⟨g1, g2, g3, g4, g5⟩ := D1
    refine ⟨g1, g2, g3, g4, fun i hi => ?_⟩
    rw [g5 i hi]
    show eww σ.2.2.2 σ.2.1 (fun j => h 24 (4 * dn + j)) i = eww σ.2.2.2 σ.2.1 (fun j => pq (4 * dn + j)) i
    unfold eww
    by_cases c3 : 4 * σ.2.1 ≤ i
    · rw [if_pos c3, if_pos c3]
      have hi2 : i < 4 * (σ.2.1 + 1) := hi
      exact p3 _ (by omega)
    · rw [if_neg c3, if_neg c3]
  · rw [j4, ed] at c
    have c1 : dn = tot - 3 ∨ dn = tot - 1 := Classical.byContradiction (fun z => by
      rw [(pb z).1] at c
      exact absurd (by rw [c]; decide +kernel) (nnn (n := pt dn) (by have := (pb z).2.1; omega)))
    refine s_flush D (fun h1 f D1 => ?_)
    refine k_JB_doNext_29 (fin h1 (f.up rfl) ?_)
    unfold ac
    rw [if_pos c1]
    exact D1
/-- the loop of step, up to its end -/
theorem s_steps {job tot B : Nat} {pt : Nat → Nat} {pq : Nat → Int32} {x1 : Int32} {c : Nat} (hB : B + tot ≤ 31) (hc10 : c ≤ 10) :
    ∀ (j i dn : Nat) (σ : xD) (h' : xh), i + j = c → dn + j ≤ tot → bnd B tot dn σ → JR job dn tot pt pq h' → DCt σ h' → (∀ h2, fr (fun k j => (pc [1, 8, 9, 10]) k j || (Nat.beq k 6 && Nat.beq j 4)) h' h2 → JR job (dn + j) tot pt pq h2 → DCt (acs tot pt pq dn j σ) h2 → bnd B tot (dn + j) (acs tot pt pq dn j σ) → WP l E M_RS_step 37 [(0, .inr 0), (1, .inl x1), (2, .inl (nI c)), (3, .inl (nI c))] [] h2 Q) → WP l E M_RS_step 37 [(0, .inr 0), (1, .inl x1), (2, .inl (nI c)), (3, .inl (nI i))] [] h' Q := by
  intro j
  induction j with
  | zero =>
    intro i dn σ h' hi hd hb J D k
    have ei : i = c := by omega
    subst ei
    exact k h' fr.rf J D hb
  | succ j ih =>
    intro i dn σ h' hi hd hb J D k
    have c0 : ¬ nI c ≤ nI i := nI_ge (by omega) (by omega)
    refine k_RS_step_37 (fun z => absurd z c0) (fun z => absurd z c0) (fun _ => ?_)
    have h3 : 3 ≤ tot := J.2.2.2.2.1
    refine s_doNext J D (by omega) ?_ (fun h1 f J1 D1 => ?_)
    · by_cases z : dn = tot - 3 ∨ dn = tot - 1
      · exact Or.inr z
      · left
        rcases Nat.lt_or_ge dn (tot - 3) with q | q
        · have := hb.1 (by omega); omega
        · have := hb.2.1 (by omega); omega
    · refine k_RS_step_53 ?_
      rw [nI_add]
      refine ih (i + 1) (dn + 1) _ h1 (by omega) (by omega) (bnd_ac h3 (by omega) hb) J1 D1 (fun h2 f2 J2 D2 b2 => ?_)
      refine k h2 (f.tr f2) ?_ D2 ?_
      · rw [show dn + (j + 1) = dn + 1 + j by omega]; exact J2
      · rw [show dn + (j + 1) = dn + 1 + j by omega]; exact b2
end JOBC
