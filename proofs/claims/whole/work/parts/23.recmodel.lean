/-! RECOVERY in the reference: reading the log -/
/-- the log that the reference reads in this heap -/
def ML (σ : xD) (L : Nat → Nat → Int32) (p0 : Nat) (h : xh) : Prop := DMt σ h ∧ h 7 17 = nI p0 ∧ p0 < 24 ∧ ∀ a w, w < 4 → vs σ (17 + (p0 + a) % 24) w = L a w
theorem ML.fr {P : Nat → Nat → Bool} {σ : xD} {L : Nat → Nat → Int32} {p0 : Nat} {h h1 : xh} (M : ML σ L p0 h) (f : fr P h h1) (e1 : P 7 1 = false) (e17 : P 7 17 = false) (e2 : ∀ j, P 25 j = false) (e3 : ∀ j, P 26 j = false) (e4 : ∀ j, P 27 j = false) : ML σ L p0 h1 :=
  ⟨DM.fr M.1 f e1 e2 e3 e4, by rw [f 7 17 e17]; exact M.2.1, M.2.2⟩
/-- what validAt answers at place A, its group flag spent -/
def vE (L : Nat → Nat → Int32) (q fm A : Nat) (H : Int32) : Int32 := nI (if own L q A 3 ∧ L A 3 = H then A + 1 - fm else 0)
theorem tA_le {L : Nat → Nat → Int32} {q a : Nat} (h : a ≤ 24) : tA L q a ≤ 24 := by
  have := pgA_le (L := L) (q := q) 24 a h
  unfold tA
  split
  · next c => have : pgA L q 24 a < 24 := c.1; omega
  · exact this
section RMM
variable {l : Launch} {E : xE} {h : xh} {Q : Option Int32 → xh → Prop} {σ : xD} {L : Nat → Nat → Int32} {p0 : Nat}
theorem m_logWord {a w : Nat} (M : ML σ L p0 h) (ha : a ≤ 24) (hw4 : w < 4) (hq : Q (some (L a w)) h) : MC l E M_MD_logWord [.inr 7, .inl (nI a), .inl (nI w)] h Q := by
  obtain ⟨D, h17, hp, hL⟩ := M
  refine k_MD_logWord_0 ?_
  rw [h17, nI_add, nrem (by omega), nI_add]
  refine m_read D (by omega) hw4 ?_
  refine k_MD_logWord_17 ?_
  have := hL a w hw4
  rw [← this] at hq
  exact hq
theorem m_mixSector {a : Nat} {s : Int32} (M : ML σ L p0 h) (ha : a ≤ 24) (hq : Q (some (mx4 s (L a))) h) : MC l E M_MD_mixSector [.inr 7, .inl s, .inl (nI a)] h Q := by
  refine k_MD_mixSector_0 ?_
  have st : ∀ (w : Nat) (x : Int32), w < 4 → WP l E M_MD_mixSector 5 [(0, .inr 7), (1, .inl s), (2, .inl (nI a)), (3, .inl (mx x (L a w))), (4, .inl (nI (w + 1)))] [] h Q → WP l E M_MD_mixSector 5 [(0, .inr 7), (1, .inl s), (2, .inl (nI a)), (3, .inl x), (4, .inl (nI w))] [] h Q := by
    intro w x hw4 k
    have c4 : ¬ nI 4 ≤ nI w := nI_ge hw4 (by decide)
    refine k_MD_mixSector_5 (fun c => absurd c c4) (fun _ => ?_)
    refine m_logWord M ha hw4 ?_
    refine k_MD_mixSector_19 ?_
    rw [nI_add]
    exact k
  refine st 0 _ (by omega) (st 1 _ (by omega) (st 2 _ (by omega) (st 3 _ (by omega) ?_)))
  have c4 : nI 4 ≤ nI 4 := nI_le (Nat.le_refl 4) (by decide)
  exact k_MD_mixSector_5 (fun _ => hq) (fun c => absurd c4 c)
theorem va_pre {q fm A : Nat} {H g : Int32} (M : ML σ L p0 h) (hA : A < 24) (h0 : L A 0 = nI 77001) (h2 : L A 2 = nI q) (k : WP l E M_MD_validAt 54 [(0, .inr 7), (1, .inl (nI fm)), (2, .inl (nI q)), (3, .inl H), (4, .inl (nI A)), (5, .inl g), (6, .inl (L A 1))] [.inl (L A 3)] h Q) : WP l E M_MD_validAt 8 [(0, .inr 7), (1, .inl (nI fm)), (2, .inl (nI q)), (3, .inl H), (4, .inl (nI A)), (5, .inl g)] [] h Q := by
  have c0 : ¬ nI 24 ≤ nI A := nI_ge hA (by decide)
  refine k_MD_validAt_8 (fun c => absurd c c0) (fun _ => ?_)
  refine m_logWord M (by omega) (by omega) ?_
  refine k_MD_validAt_22 (fun c => absurd h0 c) (fun _ => ?_)
  refine m_logWord M (by omega) (by omega) ?_
  refine k_MD_validAt_34 (fun c => absurd h2 c) (fun _ => ?_)
  refine m_logWord M (by omega) (by omega) ?_
  refine k_MD_validAt_45 ?_
  refine m_logWord M (by omega) (by omega) ?_
  exact k
theorem va_end {q fm A : Nat} {H g : Int32} (M : ML σ L p0 h) (hA : A ≤ 24) (hf : fm ≤ A) (hg : g = 0 ∨ (¬ gok L q A ∧ ¬ own L q A 2)) (hq : Q (some (vE L q fm A H)) h) : WP l E M_MD_validAt 8 [(0, .inr 7), (1, .inl (nI fm)), (2, .inl (nI q)), (3, .inl H), (4, .inl (nI A)), (5, .inl g)] [] h Q := by
  have no : ¬ own L q A 3 → Q (some (nI 0)) h := fun c => by
    unfold vE at hq
    rw [if_neg (fun z => c z.1)] at hq
    exact hq
  by_cases hA2 : A < 24
  · by_cases h0 : L A 0 = nI 77001
    · by_cases h2 : L A 2 = nI q
      · refine va_pre M hA2 h0 h2 ?_
        have n12 : ¬ (nI 1 = nI 2) := by decide +kernel
        have cx : ∀ {P : Prop}, L A 1 = nI 1 → L A 1 = nI 2 → P := fun a b => absurd (a.symm.trans b) n12
        have n0 : ∀ {P : Prop}, L A 1 ≠ nI 3 → Q (some (nI 0)) h := fun {P} c => no (fun o => c o.2.2.1)
        refine k_MD_validAt_54 (fun c _ _ => n0 (P := True) c) (fun c c2 c3 c4 => ?_) (fun c _ _ _ => n0 (P := True) c) (fun c _ _ _ => n0 (P := True) c) (fun _ a _ b => cx a b) (fun _ a _ b => cx a b) (fun c _ _ _ _ => n0 (P := True) c) (fun _ a _ _ b => cx a b) (fun _ a _ _ b => cx a b) (fun c _ _ _ _ _ => n0 (P := True) c) (fun _ a _ _ _ b => cx a b) (fun _ a _ _ _ b => cx a b) (fun c _ _ _ _ _ _ => n0 (P := True) c) (fun _ a _ _ _ _ b => cx a b) (fun _ a _ _ _ _ b => cx a b) (fun c c1 c2 c3 c4 c5 => ?_) (fun c => ?_)
        · rcases hg with z | z
          · exact absurd z c4
          · exact absurd ⟨hA2, h0, c3, h2⟩ z.2
        · rcases hg with z | z
          · exact absurd z c2
          · exfalso
            rw [cn_and] at c3 c4 c5
            have hc : cn L A < 8 := Nat.mod_lt _ (by decide)
            rw [nI_add] at c5
            exact z.1 ⟨⟨hA2, h0, c1, h2⟩, nnlt c3 (by decide), nnlt c4 (by omega), nnle c5 (by omega)⟩
        · refine m_logWord M (by omega) (by omega) ?_
          refine k_MD_validAt_72 (fun c2 => ?_) (fun c2 => ?_)
          · unfold vE at hq
            rw [if_neg (fun z => c2 z.2)] at hq
            exact hq
          · unfold vE at hq
            rw [if_pos ⟨⟨hA2, h0, c, h2⟩, c2⟩] at hq
            rw [nI_add, nsub (by omega)]
            exact hq
      · have c0 : ¬ nI 24 ≤ nI A := nI_ge hA2 (by decide)
        refine k_MD_validAt_8 (fun c => absurd c c0) (fun _ => ?_)
        refine m_logWord M (by omega) (by omega) ?_
        refine k_MD_validAt_22 (fun c => absurd h0 c) (fun _ => ?_)
        refine m_logWord M (by omega) (by omega) ?_
        exact k_MD_validAt_34 (fun _ => no (fun o => h2 o.2.2.2)) (fun c => absurd c h2)
    · have c0 : ¬ nI 24 ≤ nI A := nI_ge hA2 (by decide)
      refine k_MD_validAt_8 (fun c => absurd c c0) (fun _ => ?_)
      refine m_logWord M (by omega) (by omega) ?_
      exact k_MD_validAt_22 (fun _ => no (fun o => h0 o.2.1)) (fun c => absurd c h0)
  · have c0 : nI 24 ≤ nI A := nI_le (by omega) (by omega)
    exact k_MD_validAt_8 (fun _ => no (fun o => hA2 o.1)) (fun c => absurd c0 c)
theorem va_mix {q fm A n : Nat} {H g x6 x7 x8 : Int32} (M : ML σ L p0 h) (hn : A + n ≤ 24) (k : WP l E M_MD_validAt 8 [(0, .inr 7), (1, .inl (nI fm)), (2, .inl (nI q)), (3, .inl (msn L H A n)), (4, .inl (nI (A + n))), (5, .inl x8)] [] h Q) : WP l E M_MD_validAt 163 [(0, .inr 7), (1, .inl (nI fm)), (2, .inl (nI q)), (3, .inl H), (4, .inl (nI A)), (5, .inl g), (6, .inl x6), (7, .inl x7), (8, .inl x8), (9, .inl (nI n)), (10, .inl (nI 0))] [] h Q := by
  have key : ∀ (j i : Nat), i + j = n → WP l E M_MD_validAt 163 [(0, .inr 7), (1, .inl (nI fm)), (2, .inl (nI q)), (3, .inl (msn L H A i)), (4, .inl (nI A)), (5, .inl g), (6, .inl x6), (7, .inl x7), (8, .inl x8), (9, .inl (nI n)), (10, .inl (nI i))] [] h Q := by
    intro j
    induction j with
    | zero =>
      intro i hi
      have ei : i = n := by omega
      subst ei
      have c0 : nI i ≤ nI i := nI_le (Nat.le_refl i) (by omega)
      refine k_MD_validAt_163 (fun _ => ?_) (fun c => absurd c0 c)
      rw [nI_add]
      exact k
    | succ j ih =>
      intro i hi
      have c0 : ¬ nI n ≤ nI i := nI_ge (by omega) (by omega)
      refine k_MD_validAt_163 (fun c => absurd c c0) (fun _ => ?_)
      rw [nI_add]
      refine m_mixSector M (by omega) ?_
      refine k_MD_validAt_180 ?_
      rw [nI_add]
      exact ih (i + 1) (by omega)
  exact key n 0 (by omega)
theorem va_go {q fm : Nat} : ∀ (f A : Nat) (H : Int32), ML σ L p0 h → A ≤ 24 → fm ≤ A → 24 ≤ f + A → Q (some (if own L q (pgA L q f A) 2 then vE L q fm (pgA L q f A + 1) (mx4 (pgH L q f A H) (L (pgA L q f A))) else vE L q fm (pgA L q f A) (pgH L q f A H))) h → WP l E M_MD_validAt 8 [(0, .inr 7), (1, .inl (nI fm)), (2, .inl (nI q)), (3, .inl H), (4, .inl (nI A)), (5, .inl (nI 1))] [] h Q := by
  have last : ∀ (A : Nat) (H : Int32), ML σ L p0 h → A ≤ 24 → fm ≤ A → ¬ gok L q A → Q (some (if own L q A 2 then vE L q fm (A + 1) (mx4 H (L A)) else vE L q fm A H)) h → WP l E M_MD_validAt 8 [(0, .inr 7), (1, .inl (nI fm)), (2, .inl (nI q)), (3, .inl H), (4, .inl (nI A)), (5, .inl (nI 1))] [] h Q := by
    intro A H M hA hf ng hq
    by_cases ow : own L q A 2
    · rw [if_pos ow] at hq
      refine va_pre M ow.1 ow.2.1 ow.2.2.2 ?_
      have o1 := ow.2.2.1
      have n21 : ¬ (nI 2 = nI 1) := by decide +kernel
      have n23 : ¬ (nI 2 = nI 3) := by decide +kernel
      have n10 : ¬ (nI 1 = 0) := by decide +kernel
      have hA2 := ow.1
      have c1 : ∀ {P : Prop}, L A 1 = nI 1 → P := fun a => absurd (o1.symm.trans a) n21
      refine k_MD_validAt_54 (fun _ _ c => absurd o1 c) (fun _ _ _ _ => ?_) (fun _ _ _ c => absurd c n10) (fun _ a => c1 a) (fun _ a => c1 a) (fun _ a => c1 a) (fun _ a => c1 a) (fun _ a => c1 a) (fun _ a => c1 a) (fun _ a => c1 a) (fun _ a => c1 a) (fun _ a => c1 a) (fun _ a => c1 a) (fun _ a => c1 a) (fun _ a => c1 a) (fun _ a => c1 a) (fun a => absurd (o1.symm.trans a) n23)
      refine va_mix (n := 1) M (by omega) ?_
      exact va_end M (by omega) (by omega) (Or.inl nI_0) hq
    · rw [if_neg ow] at hq
      exact va_end M hA hf (Or.inr ⟨ng, ow⟩) hq
  intro f
  induction f with
  | zero =>
    intro A H M hA hf hfu hq
    exact last A H M hA hf (fun g => by have : A < 24 := g.1.1; omega) hq
  | succ f ih =>
    intro A H M hA hf hfu hq
    by_cases g : gok L q A
    · unfold pgA pgH at hq
      simp only [if_pos g] at hq
      refine va_pre M g.1.1 g.1.2.1 g.1.2.2.2 ?_
      have o1 : L A 1 = nI 1 := g.1.2.2.1
      have n13 : ¬ (nI 1 = nI 3) := by decide +kernel
      have n10 : ¬ (nI 1 = 0) := by decide +kernel
      have g1 := g.2.1
      have g2 := g.2.2.1
      have g3 := g.2.2.2
      have d1 : ¬ (L A 3 &&& nI 7) < nI 1 := by rw [cn_and]; exact fun c => absurd (nlt c (by omega) (by omega)) (by omega)
      have d2 : ¬ nI 4 < (L A 3 &&& nI 7) := by rw [cn_and]; exact fun c => absurd (nlt c (by omega) (by omega)) (by omega)
      have d3 : ¬ nI 24 ≤ nI A + (L A 3 &&& nI 7) := by rw [cn_and, nI_add]; exact nI_ge g3 (by decide)
      refine k_MD_validAt_54 (fun _ c => absurd o1 c) (fun _ c => absurd o1 c) (fun _ c => absurd o1 c) (fun _ _ c => absurd c n10) (fun _ _ c => absurd c n10) (fun _ _ c => absurd c n10) (fun _ _ _ c => absurd c d1) (fun _ _ _ c => absurd c d1) (fun _ _ _ c => absurd c d1) (fun _ _ _ _ c => absurd c d2) (fun _ _ _ _ c => absurd c d2) (fun _ _ _ _ c => absurd c d2) (fun _ _ _ _ _ c => absurd c d3) (fun _ _ _ _ _ c => absurd c d3) (fun _ _ _ _ _ c => absurd c d3) (fun _ _ _ _ _ _ => ?_) (fun a => absurd (o1.symm.trans a) n13)
      rw [cn_and, nI_add]
      refine va_mix (n := 1 + cn L A) M (by omega) ?_
      exact ih (A + (1 + cn L A)) _ M (by omega) (by omega) (by omega) hq
    · unfold pgA pgH at hq
      simp only [if_neg g] at hq
      exact last A H M hA hf g hq
theorem m_validAt {q fm : Nat} (M : ML σ L p0 h) (hf : fm ≤ 24) (hq : Q (some (nI (if tv L q fm then tA L q fm + 1 - fm else 0))) h) : MC l E M_MD_validAt [.inr 7, .inl (nI fm), .inl (nI q)] h Q := by
  refine k_MD_validAt_0 ?_
  refine va_go 24 fm (nI q) M hf (Nat.le_refl fm) (by omega) ?_
  unfold tv tA tH at hq
  by_cases ow : own L q (pgA L q 24 fm) 2
  · simp only [if_pos ow] at hq ⊢
    exact hq
  · simp only [if_neg ow] at hq ⊢
    exact hq
theorem m_isRevocation {q fm at_ e : Nat} (M : ML σ L p0 h) (hf : fm ≤ 24) (he : e ≤ 1) (hp : pgA L q 24 fm = at_ + e) (hq : Q (some (nI (1 - e))) h) : MC l E M_MD_isRevocation [.inr 7, .inl (nI fm), .inl (nI at_)] h Q := by
  refine k_MD_isRevocation_0 ?_
  have hle := pgA_le (L := L) (q := q) 24 fm hf
  have fin : ∀ k, k = at_ + e → WP l E M_MD_isRevocation 2 [(0, .inr 7), (1, .inl (nI fm)), (2, .inl (nI at_)), (3, .inl (nI k))] [] h Q := by
    intro k hk
    have c0 : nI at_ ≤ nI k := nI_le (by omega) (by omega)
    refine k_MD_isRevocation_2 (fun _ c => ?_) (fun _ c => ?_) (fun c => absurd c0 c)
    · have : k ≠ at_ := fun z => c (by rw [z])
      rw [show 1 - e = 0 by omega] at hq; exact hq
    · have := neq c (by omega) (by omega)
      rw [show 1 - e = 1 by omega] at hq; exact hq
  have key : ∀ (f k : Nat), pgA L q f k = at_ + e → k ≤ 24 → WP l E M_MD_isRevocation 2 [(0, .inr 7), (1, .inl (nI fm)), (2, .inl (nI at_)), (3, .inl (nI k))] [] h Q := by
    intro f
    induction f with
    | zero => intro k hk _; exact fin k hk
    | succ f ih =>
      intro k hk hk24
      unfold pgA at hk
      by_cases g : gok L q k
      · rw [if_pos g] at hk
        have g1 := g.2.1
        have g3 := g.2.2.2
        have hge := pgA_ge (L := L) (q := q) f (k + (1 + cn L k))
        have c0 : ¬ nI at_ ≤ nI k := nI_ge (by omega) (by omega)
        refine k_MD_isRevocation_2 (fun c => absurd c c0) (fun c => absurd c c0) (fun _ => ?_)
        refine m_logWord M (by omega) (by omega) ?_
        have o1 : L k 1 = nI 1 := g.1.2.2.1
        refine k_MD_isRevocation_13 (fun c => absurd o1 c) (fun c => absurd o1 c) (fun _ => ?_)
        refine m_logWord M (by omega) (by omega) ?_
        refine k_MD_isRevocation_26 ?_
        rw [cn_and, nI_add, nI_add, show k + 1 + cn L k = k + (1 + cn L k) by omega]
        exact ih _ hk (by omega)
      · rw [if_neg g] at hk
        exact fin k hk
  exact key 24 fm hp hf
end RMM
