/-! RECOVERY in the reference: revocations and replay -/
/-- what the reference knows of the revocations of t transactions -/
def RV (L : Nat → Nat → Int32) (q0 t : Nat) (f33 f34 : Nat → Int32) : Prop := ∀ b, b < 16 → f34 b = nI (if rvk L q0 b t = 0 then 0 else 1) ∧ (rvk L q0 b t ≠ 0 → f33 b = nI (q0 + rvk L q0 b t - 1))
theorem stt_mono {L : Nat → Nat → Int32} {q0 t : Nat} : ∀ k, stt L q0 t ≤ stt L q0 (t + k)
  | 0 => Nat.le_refl _
  | k + 1 => by
    have := stt_mono (L := L) (q0 := q0) (t := t) k
    have h2 := (tA_ge (L := L) (q := q0 + (t + k)) (a := stt L q0 (t + k))).1
    show stt L q0 t ≤ tA L (q0 + (t + k)) (stt L q0 (t + k)) + 1
    omega
section RMN
variable {l : Launch} {E : xE} {h : xh} {Q : Option Int32 → xh → Prop} {σ : xD} {L : Nat → Nat → Int32} {p0 q0 : Nat}
theorem m_findHead {m : Nat} (D : DMt σ h) (hm : vs σ 16 1 = nI m) (hm2 : m < 2 ^ 29) (hq : ∀ h', fr (pm [] [17, 18]) h h' → h' 7 17 = nI (hP (vs σ)) → h' 7 18 = nI (hQ (vs σ)) → Q none h') : MC l E M_MD_findHead [.inr 7] h Q := by
  have bad : ¬ hgood (vs σ) → Q none (hw (hw h 7 17 (nI 0)) 7 18 (nI 1)) := by
    intro c
    refine hq _ ((fr.rf.hw rfl).hw rfl) ?_ ?_
    · unfold hP; rw [if_neg c, hwk, upi, if_neg (by decide), hwk, upi, if_pos rfl]
    · unfold hQ; rw [if_neg c, hwk, upi, if_pos rfl]
  refine k_MD_findHead_0 ?_
  refine m_read D (by decide) (by decide) ?_
  refine k_MD_findHead_7 (fun c => bad (fun g => c g.1)) (fun c1 => ?_)
  refine m_read D (by decide) (by decide) ?_
  refine k_MD_findHead_19 (fun c => bad (fun g => g.2.1 c)) (fun c2 => ?_)
  refine m_read D (by decide) (by decide) ?_
  have sp : ∀ x : Int32, ¬ x < 0 → (x < nI 24 ∧ ¬ nI 23 < x) ∨ (¬ x < nI 24 ∧ nI 23 < x) := by
    intro x hx
    rcases ixI x 24 (by decide) with q | q | ⟨j, hj, e⟩
    · exact absurd q hx
    · refine Or.inr ⟨Int32.not_lt.mpr q, ?_⟩
      have e : nI 23 < nI 24 := by decide +kernel
      exact Int32.lt_of_lt_of_le e q
    · refine Or.inl ⟨?_, ?_⟩
      · rw [e]; exact (nI_ltI (by omega) (by omega)).mpr hj
      · rw [e]; exact fun z => absurd (nlt z (by omega) (by omega)) (by omega)
  refine k_MD_findHead_29 (fun c => bad (fun g => ?_)) (fun c3 => ?_)
  · rcases sp (vs σ 16 2) c2 with z | z
    · exact z.2 c
    · exact z.1 g.2.2
  · refine m_read D (by decide) (by decide) ?_
    have g : hgood (vs σ) := by
      refine ⟨c1, c2, ?_⟩
      rcases sp (vs σ 16 2) c2 with z | z
      · exact z.1
      · exact absurd z.2 c3
    refine k_MD_findHead_52 (fun c => absurd c (by decide +kernel)) (fun _ => ?_)
    have g1 : fr (pm [] [17, 18]) h (hw h 7 17 (vs σ 16 2)) := fr.rf.hw rfl
    refine m_read (DM.fr D g1 rfl (fun _ => rfl) (fun _ => rfl) (fun _ => rfl)) (by decide) (by decide) ?_
    refine k_MD_findHead_71 ?_
    refine hq _ (g1.hw rfl) ?_ ?_
    · have := hP_lt (vs σ)
      rw [hwk, upi, if_neg (by decide), hwk, upi, if_pos rfl]
      unfold hP
      rw [if_pos g]
      rcases ixI (vs σ 16 2) 24 (by decide) with q | q | ⟨j, hj, e⟩
      · exact absurd q g.2.1
      · exact absurd g.2.2 (Int32.not_lt.mpr q)
      · rw [e, nI_clamp (by omega)]; exact e
    · rw [hwk, upi, if_pos rfl]
      unfold hQ
      rw [if_pos g]
      show vs σ 16 1 = _
      rw [hm, nI_clamp (by omega)]
theorem m_revoLoop (hq0 : q0 < 2 ^ 29) : ∀ (j t : Nat) (h : xh), t + j = 25 → (∀ u, u < t → tv L (q0 + u) (stt L q0 u)) → ML σ L p0 h → h 7 20 = nI (stt L q0 t) → h 7 19 = nI (q0 + t) → RV L q0 t (h 33) (h 34) →
    (∀ h', fr (pm [33, 34] [19, 20]) h h' → h' 7 19 = nI (q0 + NV L q0) → h' 7 20 = nI (stt L q0 (NV L q0)) → RV L q0 (NV L q0) (h' 33) (h' 34) → Q none h') →
    WP l E M_MD_findRevocations 48 [(0, .inr 7), (1, .inl (nI (if tv L (q0 + t) (stt L q0 t) then tA L (q0 + t) (stt L q0 t) + 1 - stt L q0 t else 0)))] [] h Q := by
  intro j
  induction j with
  | zero =>
    intro t h ht hv
    exfalso
    have h1 := tv_lt (hv 24 (by omega))
    have h2 := (tA_ge (L := L) (q := q0 + 24) (a := stt L q0 24)).1
    have h3 := stt_ge (L := L) (q0 := q0) 24
    omega
  | succ j ih =>
    intro t h ht hv M e20 e19 R hq
    have hst := stt_le hv
    by_cases c : tv L (q0 + t) (stt L q0 t)
    · rw [if_pos c]
      have hv' : ∀ u, u < t + 1 → tv L (q0 + u) (stt L q0 u) := fun u hu => by
        rcases Nat.lt_or_ge u t with z | z
        · exact hv u z
        · rw [show u = t by omega]; exact c
      have hst' := stt_le hv'
      have est : stt L q0 (t + 1) = tA L (q0 + t) (stt L q0 t) + 1 := rfl
      have hge := tA_ge (L := L) (q := q0 + t) (a := stt L q0 t)
      have hlt := tv_lt c
      generalize hA : tA L (q0 + t) (stt L q0 t) = A at *
      have hn : stt L q0 t + (A + 1 - stt L q0 t) = A + 1 := by omega
      have cn0 : ¬ nI (A + 1 - stt L q0 t) ≤ 0 := nI_nle (by omega) (by omega)
      -- the next reading
      have nxt : ∀ (h' : xh) (x2 x3 x4 : Int32), fr (pm [33, 34] []) h h' → RV L q0 (t + 1) (h' 33) (h' 34) → MC l E M_MD_validAt [.inr 7, .inl (h' 7 20 + nI (A + 1 - stt L q0 t)), .inl (h' 7 19 + nI 1)] (hw (hw h' 7 20 (h' 7 20 + nI (A + 1 - stt L q0 t))) 7 19 (h' 7 19 + nI 1)) (fun r h' => WP l E M_MD_findRevocations 204 [(0, .inr 7), (1, .inl (nI (A + 1 - stt L q0 t))), (2, .inl x2), (3, .inl x3), (4, .inl x4)] (rpush r []) h' Q) := by
        intro h' x2 x3 x4 f R'
        rw [f 7 20 rfl, f 7 19 rfl, e20, e19, nI_add, nI_add, hn]
        have g : fr (pm [33, 34] [19, 20]) h (hw (hw h' 7 20 (nI (A + 1))) 7 19 (nI (q0 + t + 1))) := ((f.upm (L' := [33, 34]) (S' := [19, 20]) rfl rfl).hw rfl).hw rfl
        have M' := M.fr g rfl rfl (fun _ => rfl) (fun _ => rfl) (fun _ => rfl)
        rw [← est]
        rw [← est] at g M'
        refine m_validAt M' hst' ?_
        refine k_MD_findRevocations_204 ?_
        refine ih (t + 1) _ (by omega) hv' M' ?_ ?_ ?_ (fun h2 f2 a b d => hq h2 (g.tr f2) a b d)
        · rw [hwk, upi, if_neg (by decide), hwk, upi, if_pos rfl]
        · rw [hwk, upi, if_pos rfl]; rfl
        · rw [hwa (by decide), hwa (by decide), hwa (by decide), hwa (by decide)]; exact R'
      -- no revocations in it
      have none_ : tR L (q0 + t) (stt L q0 t) = nI 0 → RV L q0 (t + 1) (h 33) (h 34) := by
        intro e b hb
        have : rvk L q0 b (t + 1) = rvk L q0 b t := by
          show (if bt (tR L (q0 + t) (stt L q0 t)) b = true then t + 1 else rvk L q0 b t) = _
          rw [e, nI_0, b_0]; rfl
        rw [this]
        exact R b hb
      have F0 : ∀ x2, tR L (q0 + t) (stt L q0 t) = nI 0 → WP l E M_MD_findRevocations 121 [(0, .inr 7), (1, .inl (nI (A + 1 - stt L q0 t))), (2, .inl x2), (3, .inl (nI 0)), (4, .inl (nI 0))] [] h Q := by
        intro x2 e
        refine k_MD_findRevocations_121 (fun c => absurd c (by decide +kernel)) (fun _ _ => ?_) (fun _ c => absurd nI_0 c)
        exact nxt h x2 _ _ fr.rf (none_ e)
      have hpl := pgA_le (L := L) (q := q0 + t) 24 _ hst
      have hpg := pgA_ge (L := L) (q := q0 + t) 24 (stt L q0 t)
      by_cases ow : own L (q0 + t) (pgA L (q0 + t) 24 (stt L q0 t)) 2
      · -- a sector of revocations
        have eR : tR L (q0 + t) (stt L q0 t) = L (pgA L (q0 + t) 24 (stt L q0 t)) 3 := by unfold tR; rw [if_pos ow]
        have eA : A = pgA L (q0 + t) 24 (stt L q0 t) + 1 := by rw [← hA]; unfold tA; rw [if_pos ow]
        generalize hg : pgA L (q0 + t) 24 (stt L q0 t) = g at *
        have el : h 7 20 + nI (A + 1 - stt L q0 t) - nI 2 = nI g := by rw [e20, nI_add, hn, nsub (by omega)]; congr 1; omega
        refine k_MD_findRevocations_48 (fun z => absurd z cn0) (fun _ z => absurd (nle z (by omega) (by omega)) (by omega)) (fun _ _ => ?_)
        rw [el]
        refine m_logWord M (by omega) (by omega) ?_
        refine k_MD_findRevocations_72 (fun z => absurd ow.2.1 z) (fun _ => ?_)
        refine m_logWord M (by omega) (by omega) ?_
        refine k_MD_findRevocations_83 (fun z => absurd ow.2.2.1 z) (fun _ => ?_)
        refine m_logWord M (by omega) (by omega) ?_
        refine k_MD_findRevocations_93 (fun z => absurd (ow.2.2.2.trans e19.symm) z) (fun _ => ?_)
        rw [e20]
        refine m_isRevocation (q := q0 + t) (e := 0) M hst (by omega) hg ?_
        refine k_MD_findRevocations_109 (fun z => absurd z (by decide +kernel)) (fun _ => ?_)
        have key : ∀ (jj b : Nat) (h' : xh), b + jj = 16 → fr (pm [33, 34] []) h h' → (∀ i, i < b → h' 34 i = nI (if rvk L q0 i (t + 1) = 0 then 0 else 1) ∧ (rvk L q0 i (t + 1) ≠ 0 → h' 33 i = nI (q0 + rvk L q0 i (t + 1) - 1))) → (∀ i, b ≤ i → h' 34 i = h 34 i ∧ h' 33 i = h 33 i) → WP l E M_MD_findRevocations 121 [(0, .inr 7), (1, .inl (nI (A + 1 - stt L q0 t))), (2, .inl (nI g)), (3, .inl (nI 1)), (4, .inl (nI b))] [] h' Q := by
          intro jj
          induction jj with
          | zero =>
            intro b h' hb f y1 y2
            have eb : b = 16 := by omega
            subst eb
            have c16 : nI 16 ≤ nI 16 := nI_le (Nat.le_refl 16) (by decide)
            refine k_MD_findRevocations_121 (fun _ => ?_) (fun z => absurd c16 z) (fun z => absurd c16 z)
            exact nxt h' _ _ _ f (fun i hi => y1 i hi)
          | succ jj ihj =>
            intro b h' hb f y1 y2
            have c16 : ¬ nI 16 ≤ nI b := nI_ge (by omega) (by decide)
            refine k_MD_findRevocations_121 (fun z => absurd z c16) (fun _ z => absurd z (by decide +kernel)) (fun _ _ => ?_)
            refine m_logWord (M.fr f rfl rfl (fun _ => rfl) (fun _ => rfl) (fun _ => rfl)) (by omega) (by omega) ?_
            have i16 : vp_in (nI b) 16 := vp_in_nI (by omega) (by decide)
            have er : rvk L q0 b (t + 1) = if bt (L g 3) b = true then t + 1 else rvk L q0 b t := by rw [← eR]; rfl
            refine k_MD_findRevocations_138 (fun z => ?_) (fun _ => i16) (fun _ => i16) (fun z => ?_)
            · rw [nI_add]
              refine ihj (b + 1) h' (by omega) f (fun i hi => ?_) (fun i hi => y2 i (by omega))
              by_cases ci : i = b
              · subst ci
                have z : ¬ bt (L g 3) i = true := fun w => z ((bssh (by omega)).mpr w)
                rw [er, if_neg z, (y2 i (Nat.le_refl i)).1, (y2 i (Nat.le_refl i)).2]
                exact R i (by omega)
              · exact y1 i (by omega)
            · have z : bt (L g 3) b = true := (bssh (by omega)).mp z
              rw [if_pos z] at er
              rw [nI_add, nI_clamp (by omega), f 7 19 rfl, e19]
              refine ihj (b + 1) _ (by omega) ((f.hw rfl).hw rfl) (fun i hi => ?_) (fun i hi => ?_)
              · by_cases ci : i = b
                · subst ci
                  rw [er, hwa (by decide), hwk, upi, if_pos rfl, hwk, upi, if_pos rfl, if_neg (by omega)]
                  exact ⟨rfl, fun _ => by congr 1⟩
                · rw [hwa (by decide), hwk, upi, if_neg ci, hwk, upi, if_neg ci, hwa (by decide)]
                  exact y1 i (by omega)
              · rw [hwa (by decide), hwk, upi, if_neg (by omega), hwk, upi, if_neg (by omega), hwa (by decide)]
                exact y2 i (by omega)
        exact key 16 0 h (by omega) fr.rf (fun i hi => absurd hi (Nat.not_lt_zero _)) (fun i _ => ⟨rfl, rfl⟩)
      · -- none
        have eR : tR L (q0 + t) (stt L q0 t) = nI 0 := by unfold tR; rw [if_neg ow]
        have eA : A = pgA L (q0 + t) 24 (stt L q0 t) := by rw [← hA]; unfold tA; rw [if_neg ow]
        refine k_MD_findRevocations_48 (fun z => absurd z cn0) (fun _ _ => F0 _ eR) (fun _ z => ?_)
        have z := nnle z (by omega)
        have el : h 7 20 + nI (A + 1 - stt L q0 t) - nI 2 = nI (A - 1) := by rw [e20, nI_add, hn, nsub (by omega)]; congr 1
        rw [el]
        refine m_logWord M (by omega) (by omega) ?_
        refine k_MD_findRevocations_72 (fun _ => F0 _ eR) (fun _ => ?_)
        refine m_logWord M (by omega) (by omega) ?_
        refine k_MD_findRevocations_83 (fun _ => F0 _ eR) (fun _ => ?_)
        refine m_logWord M (by omega) (by omega) ?_
        refine k_MD_findRevocations_93 (fun _ => F0 _ eR) (fun _ => ?_)
        rw [e20]
        refine m_isRevocation (q := q0 + t) (e := 1) M hst (by omega) (by omega) ?_
        exact k_MD_findRevocations_109 (fun _ => F0 _ eR) (fun z => absurd nI_0 z)
    · rw [if_neg c]
      refine k_MD_findRevocations_48 (fun _ => ?_) (fun z => absurd (by rw [nI_0]; exact Int32.le_refl 0) z) (fun z => absurd (by rw [nI_0]; exact Int32.le_refl 0) z)
      have et := NV_uniq hv c
      subst et
      exact hq h fr.rf e19 e20 R
theorem m_findRevocations {m : Nat} (D : DMt σ h) (hm : vs σ 16 1 = nI m) (hm2 : m < 2 ^ 29) (eL : ∀ a w, w < 4 → LG (vs σ) a w = L a w) (eP : hP (vs σ) = p0) (eQ : hQ (vs σ) = q0) (hq : ∀ h', fr (pm [33, 34] [17, 18, 19, 20]) h h' → ML σ L p0 h' → h' 7 18 = nI q0 → h' 7 19 = nI (q0 + NV L q0) → h' 7 20 = nI (stt L q0 (NV L q0)) → RV L q0 (NV L q0) (h' 33) (h' 34) → Q none h') : MC l E M_MD_findRevocations [.inr 7] h Q := by
  have hq0 : q0 < 2 ^ 29 := by
    rw [← eQ]
    unfold hQ
    split
    · rw [hm, nI_clamp (by omega)]; exact hm2
    · decide
  refine k_MD_findRevocations_0 ?_
  refine m_findHead D hm hm2 (fun h1 f1 a17 a18 => ?_)
  rw [eP] at a17
  rw [eQ] at a18
  refine k_MD_findRevocations_4 ?_
  have M1 : ML σ L p0 h1 := ⟨DM.fr D f1 rfl (fun _ => rfl) (fun _ => rfl) (fun _ => rfl), a17, by rw [← eP]; exact hP_lt _, fun a w hw4 => by rw [← eP]; exact eL a w hw4⟩
  have key : ∀ (jj b : Nat) (h' : xh), b + jj = 16 → fr (pm [34] []) h1 h' → (∀ i, i < b → h' 34 i = nI 0) → WP l E M_MD_findRevocations 6 [(0, .inr 7), (1, .inl (nI b))] [] h' Q := by
    intro jj
    induction jj with
    | zero =>
      intro b h' hb f y
      have eb : b = 16 := by omega
      subst eb
      have c16 : nI 16 ≤ nI 16 := nI_le (Nat.le_refl 16) (by decide)
      refine k_MD_findRevocations_6 (fun _ => ?_) (fun z => absurd c16 z) (fun z => absurd c16 z)
      have e18 : h' 7 18 = nI q0 := by rw [f 7 18 rfl]; exact a18
      rw [e18]
      have g : fr (pm [33, 34] [19, 20]) h1 (hw (hw h' 7 20 (nI 0)) 7 19 (nI q0)) := ((f.upm (L' := [33, 34]) (S' := [19, 20]) rfl rfl).hw rfl).hw rfl
      have M' := M1.fr g rfl rfl (fun _ => rfl) (fun _ => rfl) (fun _ => rfl)
      refine m_validAt M' (by omega) ?_
      refine k_MD_findRevocations_47 ?_
      refine m_revoLoop hq0 25 0 _ (by omega) (fun u hu => absurd hu (Nat.not_lt_zero _)) M' ?_ ?_ ?_ (fun h2 f2 b1 b2 b3 => ?_)
      · rw [hwk, upi, if_neg (by decide), hwk, upi, if_pos rfl]; rfl
      · rw [hwk, upi, if_pos rfl]; rfl
      · rw [hwa (by decide), hwa (by decide), hwa (by decide), hwa (by decide)]
        intro i hi
        refine ⟨?_, fun z => absurd rfl z⟩
        rw [y i hi]
        rfl
      · have ft := g.tr f2
        exact hq h2 ((f1.upm rfl rfl).tr (ft.upm rfl rfl)) (M1.fr ft rfl rfl (fun _ => rfl) (fun _ => rfl) (fun _ => rfl)) (by rw [ft 7 18 rfl]; exact a18) b1 b2 b3
    | succ jj ih =>
      intro b h' hb f y
      have c16 : ¬ nI 16 ≤ nI b := nI_ge (by omega) (by decide)
      refine k_MD_findRevocations_6 (fun z => absurd z c16) (fun _ => vp_in_nI (by omega) (by decide)) (fun _ => ?_)
      rw [nI_add, nI_clamp (by omega)]
      refine ih (b + 1) _ (by omega) (f.hw rfl) (fun i hi => ?_)
      rw [hwk, upi]
      by_cases c : i = b
      · rw [if_pos c]
      · rw [if_neg c]; exact y i (by omega)
  exact key 16 0 h1 (by omega) fr.rf (fun i hi => absurd hi (Nat.not_lt_zero _))
end RMN
