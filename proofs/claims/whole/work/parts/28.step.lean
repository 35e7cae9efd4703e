/-! THE CALL OF STEP -/
def pS : Nat → Nat → Bool := fun k j => (pc [1, 8, 9, 10]) k j || (Nat.beq k 6 && Nat.beq j 4)
theorem acs_bnd {B tot : Nat} {pt : Nat → Nat} {pq : Nat → Int32} (h3 : 3 ≤ tot) : ∀ j dn (σ : xD), dn + j ≤ tot → bnd B tot dn σ → bnd B tot (dn + j) (acs tot pt pq dn j σ)
  | 0, _, _, _, hb => hb
  | j + 1, dn, σ, hd, hb => by
    rw [show dn + (j + 1) = dn + 1 + j by omega]
    exact acs_bnd h3 j (dn + 1) _ (by omega) (bnd_ac h3 (by omega) hb)
section STP
variable {l : Launch} {E : xE} {h : xh} {m : Nat}
variable {up num nx us : Nat} {kd : Nat → Nat} {rn : Nat → Int32} {pd : Nat → Nat} {pw : Nat → Int32}
theorem R_stepG {job tot B dn x : Nat} {pt : Nat → Nat} {pq : Nat → Int32} {OK : Nat → xD → Prop} {σ : xD} (hj : job = 2 ∨ job = 3 ∨ job = 4) (hB : B + tot ≤ 31) (hx1 : 1 ≤ x) (hx : x ≤ 10)
    (J : JR job dn tot pt pq h) (M : JM job dn tot h) (D : DCt σ h) (D' : DMt σ h) (V : VM up num nx us kd rn pd pw h) (hdn : dn < tot) (hb : bnd B tot dn σ) (ok : OK dn σ)
    (HA : ∀ (k : Nat) (σ : xD) (h' : xh) (Q' : Option Int32 → xh → Prop), k < tot → OK k σ → JM job k tot h' → DMt σ h' → VM up num nx us kd rn pd pw h' → (∀ h2, fr pact h' h2 → DMt (ac tot pt pq k σ) h2 → OK (k + 1) (ac tot pt pq k σ) → Q' none h2) → MC l E (mact job) [.inr 7, .inl (nI k)] h' Q')
    (KA : dn + x < tot → ∀ h1 h2, fr pS h h1 → JR job (dn + x) tot pt pq h1 → DCt (acs tot pt pq dn x σ) h1 → bnd B tot (dn + x) (acs tot pt pq dn x σ) → fr pstep h1 h2 → JM job (dn + x) tot h2 → DMt (acs tot pt pq dn x σ) h2 → OK (dn + x) (acs tot pt pq dn x σ) → Rel m h2)
    (KB : tot ≤ dn + x → ∀ h1, fr pS h h1 → JR job tot tot pt pq h1 → DCt (acs tot pt pq dn (tot - dn) σ) h1 → bnd B tot tot (acs tot pt pq dn (tot - dn) σ) → MC l E M_RS_finishJob [.inr 0] h1 (fun r h2 => r = none ∧ fr pfin h1 h2 ∧ ∀ h3, fr pstep h2 h3 → JM job tot tot h3 → DMt (acs tot pt pq dn (tot - dn) σ) h3 → OK tot (acs tot pt pq dn (tot - dn) σ) → MC l E M_MD_finish [.inr 7] h3 (fun r h4 => r = none ∧ h4 7 12 = 0 ∧ Rel m h4))) :
    MC l E M_RS_step [.inr 0, .inl (nI x)] h (K2 l E M_MD_step [.inr 7, .inl (nI x)] m) := by
  have h3 : 3 ≤ tot := J.2.2.2.2.1
  have h27 : tot ≤ 27 := J.2.2.2.2.2.1
  have hj4 : job ≤ 4 ∧ job ≠ 0 := by omega
  have cj : ¬ nI job = 0 := nI_ne0 (by omega) (by omega)
  have c1 : ¬ nI x < nI 1 := fun z => absurd (nlt z (by omega) (by omega)) (by omega)
  have c10 : nI x ≤ nI 10 := nI_le hx (by decide)
  refine k_RS_step_0 (fun z => absurd (J.1.symm.trans z) cj) (fun _ z => absurd z c1) (fun _ _ _ => ?_) (fun _ _ z => absurd c10 z)
  have el : h 6 3 - h 6 4 = nI (tot - dn) := by rw [J.2.1, J.2.2.1, nsub (by omega)]
  -- the model, from a heap that the class has left
  have mod : ∀ (h1 : xh) (v : Int32), h1 7 12 = nI job → WP l E M_MD_step 22 [(0, .inr 7), (1, .inl (nI x)), (2, .inl (nI 0))] [] h1 (fun r' h2 => r' = some v ∧ Rel m h2) → MC l E M_MD_step [.inr 7, .inl (nI x)] h1 (fun r' h2 => r' = some v ∧ Rel m h2) := by
    intro h1 v e k
    exact k_MD_step_0 (fun z => absurd (e.symm.trans z) cj) (fun _ z => absurd z c1) (fun _ _ _ => k) (fun _ _ z => absurd c10 z)
  rcases Nat.lt_or_ge (dn + x) tot with q | q
  · have ec : (if h 6 3 - h 6 4 < nI x then h 6 3 - h 6 4 else nI x) = nI x := by
      rw [el, if_neg (fun z => absurd (nlt z (by omega) (by omega)) (by omega))]
    rw [ec]
    refine s_steps hB hx x 0 dn σ h (by omega) (by omega) hb J D (fun h1 f1 J1 D1 b1 => ?_)
    have el1 : ¬ (h1 6 3 - h1 6 4 = 0) := by
      rw [J1.2.1, J1.2.2.1, nsub (by omega)]
      exact nI_ne0 (by omega) (by omega)
    have cc : nI x ≤ nI x := nI_le (Nat.le_refl x) (by omega)
    refine k_RS_step_37 (fun _ _ => ⟨_, rfl, ?_⟩) (fun _ z => absurd z el1) (fun z => absurd cc z)
    have M1 : JM job dn tot h1 := JM.fr M f1 rfl rfl rfl
    refine mod h1 _ M1.1 ?_
    refine m_steps hj (by omega) hx HA (tot - dn) 0 dn σ h1 (by omega) (by omega) (by omega) ok M1 (DM.fr D' f1 rfl (fun _ => rfl) (fun _ => rfl) (fun _ => rfl)) (VM.fr V f1 rfl rfl rfl rfl (fun _ => rfl) (fun _ => rfl) (fun _ => rfl) (fun _ => rfl)) (fun _ h2 f2 M2 D2 ok2 => ⟨rfl, ?_⟩) (fun z => absurd z (by omega))
    exact KA q h1 h2 f1 J1 D1 b1 f2 M2 D2 ok2
  · have ec : (if h 6 3 - h 6 4 < nI x then h 6 3 - h 6 4 else nI x) = nI (tot - dn) := by
      rw [el]
      by_cases z : tot - dn < x
      · rw [if_pos ((nI_ltI (by omega) (by omega)).mpr z)]
      · rw [if_neg (fun y => z (nlt y (by omega) (by omega))), show x = tot - dn by omega]
    rw [ec]
    refine s_steps hB (by omega) (tot - dn) 0 dn σ h (by omega) (by omega) hb J D (fun h1 f1 J1 D1 b1 => ?_)
    have et : dn + (tot - dn) = tot := by omega
    rw [et] at J1 b1
    have el1 : h1 6 3 - h1 6 4 = 0 := by
      rw [J1.2.1, J1.2.2.1, nsub (Nat.le_refl tot), Nat.sub_self]; exact nI_0
    have cc : nI (tot - dn) ≤ nI (tot - dn) := nI_le (Nat.le_refl _) (by omega)
    refine k_RS_step_37 (fun _ z => absurd el1 z) (fun _ _ => ?_) (fun z => absurd cc z)
    refine WP.mono (KB q h1 f1 J1 D1 b1) (fun r h2 z => ?_)
    obtain ⟨z0, f2, z2⟩ := z
    subst z0
    refine k_RS_step_73 ⟨_, rfl, ?_⟩
    have M2 : JM job dn tot h2 := JM.fr (JM.fr M f1 rfl rfl rfl) f2 rfl rfl rfl
    refine mod h2 _ M2.1 ?_
    refine m_steps hj (by omega) hx HA (tot - dn) 0 dn σ h2 (by omega) (by omega) (by omega) ok M2 (DM.fr (DM.fr D' f1 rfl (fun _ => rfl) (fun _ => rfl) (fun _ => rfl)) f2 rfl (fun _ => rfl) (fun _ => rfl) (fun _ => rfl)) (VM.fr (VM.fr V f1 rfl rfl rfl rfl (fun _ => rfl) (fun _ => rfl) (fun _ => rfl) (fun _ => rfl)) f2 rfl rfl rfl rfl (fun _ => rfl) (fun _ => rfl) (fun _ => rfl) (fun _ => rfl)) (fun z => absurd z (by omega)) (fun _ h3 f3 M3 D3 ok3 => ?_)
    refine WP.mono (z2 h3 f3 M3 D3 ok3) (fun r h4 y => ⟨y.1, y.2.1, ?_, y.2.2⟩)
    rw [Nat.zero_add]
theorem R_step {x1 : Int32} (hm : m < 2 ^ 28) (R : Rel m h) : MC l E M_RS_step [.inr 0, .inl x1] h (K2 l E M_MD_step [.inr 7, .inl x1] (m + 24)) := by
  have ej := R.job
  have R0 := R
  have Rm : Rel (m + 24) h := R.mono (by omega)
  obtain ⟨σ, up, num, nx, us, kd, rn, pd, pw, ⟨C1, C2, C3, C4, C5, C6, C7, C8⟩, J⟩ := R
  by_cases hj : h 6 2 = 0
  · refine k_RS_step_0 (fun _ => ⟨_, rfl, ?_⟩) (fun c => absurd hj c) (fun c => absurd hj c) (fun c => absurd hj c)
    have hj' := hj
    rw [ej] at hj'
    exact k_MD_step_0 (fun _ => ⟨rfl, Rm⟩) (fun c => absurd hj' c) (fun c => absurd hj' c) (fun c => absurd hj' c)
  · have hj' := hj
    rw [ej] at hj'
    by_cases c1 : x1 < nI 1
    · refine k_RS_step_0 (fun c => absurd c hj) (fun _ _ => ⟨_, rfl, ?_⟩) (fun _ c => absurd c1 c) (fun _ c => absurd c1 c)
      exact k_MD_step_0 (fun c => absurd c hj') (fun _ _ => ⟨rfl, Rm⟩) (fun _ c => absurd c1 c) (fun _ c => absurd c1 c)
    · by_cases c10 : x1 ≤ nI 10
      · obtain ⟨x, hx1, hx, rfl⟩ : ∃ x, 1 ≤ x ∧ x ≤ 10 ∧ x1 = nI x := by
          rcases ixI x1 11 (by decide) with q | q | ⟨x, hx, e⟩
          · have e1 : (0 : Int32) < nI 1 := by decide +kernel
            exact absurd (Int32.lt_trans q e1) c1
          · have e1 : nI 10 < nI 11 := by decide +kernel
            exact absurd c10 (Int32.not_le.mpr (Int32.lt_of_lt_of_le e1 q))
          · refine ⟨x, ?_, by omega, e⟩
            rcases Nat.eq_zero_or_pos x with z | z
            · rw [e, z] at c1
              exact absurd (by decide +kernel) c1
            · exact z
        have fin0 : ∀ (σ' : xD) (num' nx' us' : Nat) (kd' : Nat → Nat) (pd' : Nat → Nat) (pw' : Nat → Int32) (h2 h3 h4 : xh), σ'.2.1 = 0 → HB m σ' → fr pstep h2 h3 → fr (pm [28, 30, 31] [4, 5, 6, 7, 12]) h3 h4 → DCt σ' h2 → DMt σ' h3 → J0 h2 → VC 1 num' nx' us' kd' rn pd' pw' h2 → VM 1 num' nx' us' kd' rn pd' pw' h4 → h4 7 12 = 0 → nx' < 24 → us' ≤ 23 → num' ≤ m + 24 → (∀ b, b < 16 → kd' b ≤ 2) → (∀ b, b < 16 → pd' b ≤ 1) → cnt kd' 1 16 ≤ 8 → Rel (m + 24) h4 := by
          intro σ' num' nx' us' kd' pd' pw' h2 h3 h4 n0 hB f3 f4 D2 D3 j0 V2 V4 e12 q1 q2 q3 q4 q5 q6
          exact ⟨σ', 1, num', nx', us', kd', rn, pd', pw', ⟨DC.fr (DC.fr D2 f3 rfl (fun _ => rfl) (fun _ => rfl) (fun _ => rfl)) f4 rfl (fun _ => rfl) (fun _ => rfl) (fun _ => rfl), DM.fr D3 f4 rfl (fun _ => rfl) (fun _ => rfl) (fun _ => rfl), VC.fr (VC.fr V2 f3 (fun _ => rfl) rfl rfl (fun _ => rfl) (fun _ => rfl) (fun _ => rfl) (fun _ => rfl)) f4 (fun _ => rfl) rfl rfl (fun _ => rfl) (fun _ => rfl) (fun _ => rfl) (fun _ => rfl), V4, ⟨Or.inr rfl, fun _ => ⟨q1, q2, by omega, q4, q5, q6⟩⟩, hB.mono (by omega), fun _ => q3, by omega⟩, Or.inl ⟨J0.fr (J0.fr j0 f3 rfl rfl rfl) f4 rfl rfl rfl, e12, fun _ => by omega, fun z => absurd z (by decide)⟩⟩
        rcases J with J | ⟨hu, hus, h42, dn, hdn, hb, Jr, Mj⟩ | ⟨hu, dn, hdn, hb, Jr, Mj⟩ | ⟨hu, L, p0, q0, hp0, hq0, e6, e7, e8, dn, hdn, hb, ok, Jr, Mj⟩
        · exact absurd J.1.1 hj
        · -- a commit
          obtain ⟨i1, i2, i3, i4, i5, i6⟩ := C5.2 hu
          have hrl := rl1_le i6
          refine R_stepG (OK := fun k σ => HB m σ ∧ bnd 12 (rl1 kd + 3) k σ) (B := 12) (Or.inl rfl) (by omega) hx1 hx Jr Mj C1 C2 C4 hdn hb ⟨C6, hb⟩ (fun k σ h' Q' hk ok M' D' V' kk => ?_) (fun q h1 h2 f1 J1 D1 b1 f2 M2 D2 ok2 => ?_) (fun q h1 f1 J1 D1 b1 => ?_)
          · refine m_act2 C5 hu hk ok.2 M' D' V' (fun h2 f2 D2 => kk h2 f2 D2 ⟨HB_ac ok.1 (fun _ z => ?_), bnd_ac (by omega) hk ok.2⟩)
            unfold pt2 at z
            omega
          · exact ⟨_, up, num, nx, us, kd, rn, pd, pw, ⟨DC.fr D1 f2 rfl (fun _ => rfl) (fun _ => rfl) (fun _ => rfl), D2, VC.fr (VC.fr C3 f1 (fun _ => rfl) rfl rfl (fun _ => rfl) (fun _ => rfl) (fun _ => rfl) (fun _ => rfl)) f2 (fun _ => rfl) rfl rfl (fun _ => rfl) (fun _ => rfl) (fun _ => rfl) (fun _ => rfl), VM.fr (VM.fr C4 f1 rfl rfl rfl rfl (fun _ => rfl) (fun _ => rfl) (fun _ => rfl) (fun _ => rfl)) f2 rfl rfl rfl rfl (fun _ => rfl) (fun _ => rfl) (fun _ => rfl) (fun _ => rfl), C5, ok2.1.mono (by omega), fun z => by have := C7 z; omega, by omega⟩, Or.inr (Or.inl ⟨hu, hus, by rw [f2 4 2 rfl, f1 4 2 rfl]; exact h42, dn + x, q, b1, JR.fr J1 f2 rfl rfl rfl (fun _ => rfl) (fun _ => rfl), M2⟩)⟩
          · refine s_finish2 J1 (VC.fr C3 f1 (fun _ => rfl) rfl rfl (fun _ => rfl) (fun _ => rfl) (fun _ => rfl) (fun _ => rfl)) C5 hu (by rw [f1 4 2 rfl]; exact h42) hus (fun h2 f2 j0 V2 => ⟨rfl, f2, fun h3 f3 M3 D3 ok3 => ?_⟩)
            refine m_finish2 (len := rl1 kd + 1) M3 (VM.fr (VM.fr (VM.fr C4 f1 rfl rfl rfl rfl (fun _ => rfl) (fun _ => rfl) (fun _ => rfl) (fun _ => rfl)) f2 rfl rfl rfl rfl (fun _ => rfl) (fun _ => rfl) (fun _ => rfl) (fun _ => rfl)) f3 rfl rfl rfl rfl (fun _ => rfl) (fun _ => rfl) (fun _ => rfl) (fun _ => rfl)) C5 hu (by omega) hus (fun h4 f4 e4 V4 => ⟨rfl, e4, ?_⟩)
            have hnum := C7 hu
            refine fin0 _ _ _ _ _ _ _ h2 h3 h4 (ok3.2.2.2.2 rfl) ok3.1 f3 (f4.upm rfl rfl) (DC.fr D1 f2 rfl (fun _ => rfl) (fun _ => rfl) (fun _ => rfl)) D3 j0 V2 V4 e4 (Nat.mod_lt _ (by decide)) hus (by omega) (fun b _ => by unfold k00; omega) (fun b hb => ?_) (by rw [cnt_0 (by decide)]; omega)
            have := i5 b hb
            unfold pdc
            split
            · omega
            · split <;> omega
        · -- a checkpoint
          obtain ⟨i1, i2, i3, i4, i5, i6⟩ := C5.2 hu
          have hcn := cnt_le pd 1 16
          refine R_stepG (OK := fun k σ => HB m σ ∧ bnd 12 (cnt pd 1 16 + 3) k σ) (B := 12) (Or.inr (Or.inl rfl)) (by omega) hx1 hx Jr Mj C1 C2 C4 hdn hb ⟨C6, hb⟩ (fun k σ h' Q' hk ok M' D' V' kk => ?_) (fun q h1 h2 f1 J1 D1 b1 f2 M2 D2 ok2 => ?_) (fun q h1 f1 J1 D1 b1 => ?_)
          · refine m_act3 hu i5 hk ok.2 M' D' V' (fun h2 f2 D2 => kk h2 f2 D2 ⟨HB_ac ok.1 (fun c z => ?_), bnd_ac (by omega) hk ok.2⟩)
            by_cases c2 : k = cnt pd 1 16 + 1
            · refine ⟨num, C7 hu, ?_⟩
              unfold pq3
              rw [show (4 * k + 1) / 4 = cnt pd 1 16 + 1 by omega, show (4 * k + 1) % 4 = 1 by omega, if_pos rfl]
              rfl
            · exfalso
              unfold pt3 at z
              rw [if_neg c2] at z
              have := (nb_ok (f := pd) (v := 1) (k := k) 16 (by omega)).1
              omega
          · exact ⟨_, up, num, nx, us, kd, rn, pd, pw, ⟨DC.fr D1 f2 rfl (fun _ => rfl) (fun _ => rfl) (fun _ => rfl), D2, VC.fr (VC.fr C3 f1 (fun _ => rfl) rfl rfl (fun _ => rfl) (fun _ => rfl) (fun _ => rfl) (fun _ => rfl)) f2 (fun _ => rfl) rfl rfl (fun _ => rfl) (fun _ => rfl) (fun _ => rfl) (fun _ => rfl), VM.fr (VM.fr C4 f1 rfl rfl rfl rfl (fun _ => rfl) (fun _ => rfl) (fun _ => rfl) (fun _ => rfl)) f2 rfl rfl rfl rfl (fun _ => rfl) (fun _ => rfl) (fun _ => rfl) (fun _ => rfl), C5, ok2.1.mono (by omega), fun z => by have := C7 z; omega, by omega⟩, Or.inr (Or.inr (Or.inl ⟨hu, dn + x, q, b1, JR.fr J1 f2 rfl rfl rfl (fun _ => rfl) (fun _ => rfl), M2⟩))⟩
          · refine s_finish3 J1 (VC.fr C3 f1 (fun _ => rfl) rfl rfl (fun _ => rfl) (fun _ => rfl) (fun _ => rfl) (fun _ => rfl)) hu (fun h2 f2 j0 V2 => ⟨rfl, f2, fun h3 f3 M3 D3 ok3 => ?_⟩)
            refine m_finish3 M3 (VM.fr (VM.fr (VM.fr C4 f1 rfl rfl rfl rfl (fun _ => rfl) (fun _ => rfl) (fun _ => rfl) (fun _ => rfl)) f2 rfl rfl rfl rfl (fun _ => rfl) (fun _ => rfl) (fun _ => rfl) (fun _ => rfl)) f3 rfl rfl rfl rfl (fun _ => rfl) (fun _ => rfl) (fun _ => rfl) (fun _ => rfl)) hu (fun h4 f4 e4 V4 => ⟨rfl, e4, ?_⟩)
            have hnum := C7 hu
            exact fin0 _ _ _ _ _ _ _ h2 h3 h4 (ok3.2.2.2.2 rfl) ok3.1 f3 (f4.upm rfl rfl) (DC.fr D1 f2 rfl (fun _ => rfl) (fun _ => rfl) (fun _ => rfl)) D3 j0 V2 V4 e4 i1 (by omega) (by omega) i4 (fun b _ => by unfold k00; omega) i6
        · -- a recovery
          have hrl := RL_len (L := L) (q0 := q0)
          have hst := stt_le (NV_ok (L := L) (q0 := q0)).1
          refine R_stepG (OK := fun k σ => HB m σ ∧ bnd 0 ((RL L q0).length + 3) k σ ∧ OK4 L p0 q0 k σ) (B := 0) (Or.inr (Or.inr rfl)) (by omega) hx1 hx Jr Mj C1 C2 C4 hdn hb ⟨C6, hb, ok⟩ (fun k σ h' Q' hk ok M' D' V' kk => ?_) (fun q h1 h2 f1 J1 D1 b1 f2 M2 D2 ok2 => ?_) (fun q h1 f1 J1 D1 b1 => ?_)
          · refine m_act4 hk ok.2.1 (fun z => ?_) M' D' (fun h2 f2 D2 => kk h2 f2 D2 ⟨HB_ac ok.1 (fun c z => ?_), bnd_ac (by omega) hk ok.2.1, OK4_ac hk ok.2.2⟩)
            · obtain ⟨y1, y2, y3⟩ := ok.2.2.1 z
              obtain ⟨a, ha, ea⟩ := ok.1.vs
              exact ⟨y1, y2, y3, a, ea, by omega⟩
            · by_cases c2 : k = (RL L q0).length + 1
              · refine ⟨q0 + NV L q0, hq0, ?_⟩
                unfold pq4
                rw [show (4 * k + 1) / 4 = (RL L q0).length + 1 by omega, show (4 * k + 1) % 4 = 1 by omega, if_pos rfl]
                rfl
              · exfalso
                unfold pt4 at z
                rw [if_neg c2] at z
                have := bk_lt L ((RL L q0).getD k (0, 0, 0))
                omega
          · exact ⟨_, up, num, nx, us, kd, rn, pd, pw, ⟨DC.fr D1 f2 rfl (fun _ => rfl) (fun _ => rfl) (fun _ => rfl), D2, VC.fr (VC.fr C3 f1 (fun _ => rfl) rfl rfl (fun _ => rfl) (fun _ => rfl) (fun _ => rfl) (fun _ => rfl)) f2 (fun _ => rfl) rfl rfl (fun _ => rfl) (fun _ => rfl) (fun _ => rfl) (fun _ => rfl), VM.fr (VM.fr C4 f1 rfl rfl rfl rfl (fun _ => rfl) (fun _ => rfl) (fun _ => rfl) (fun _ => rfl)) f2 rfl rfl rfl rfl (fun _ => rfl) (fun _ => rfl) (fun _ => rfl) (fun _ => rfl), C5, ok2.1.mono (by omega), fun z => by have := C7 z; omega, by omega⟩, Or.inr (Or.inr (Or.inr ⟨hu, L, p0, q0, hp0, by omega, by rw [f2 5 6 rfl, f1 5 6 rfl]; exact e6, by rw [f2 5 7 rfl, f1 5 7 rfl]; exact e7, by rw [f2 5 8 rfl, f1 5 8 rfl]; exact e8, dn + x, q, b1, ok2.2.2, JR.fr J1 f2 rfl rfl rfl (fun _ => rfl) (fun _ => rfl), M2⟩))⟩
          · refine s_finish4 (rn := rn) (pw := pw) J1 (by rw [f1 5 7 rfl]; exact e7) (by rw [f1 5 6 rfl]; exact e6) (by rw [f1 5 8 rfl]; exact e8) (by omega) (fun h2 f2 j0 V2 => ⟨rfl, f2, fun h3 f3 M3 D3 ok3 => ?_⟩)
            obtain ⟨y1, y2⟩ := ok3.2.2.2 (by omega)
            refine m_finish4 (rn := rn) (pw := pw) M3 D3 y1 y2 (fun h4 f4 e4 V4 => ⟨rfl, e4, ?_⟩)
            exact fin0 _ _ _ _ _ _ _ h2 h3 h4 (ok3.2.1.2.2.2 rfl) ok3.1 f3 (f4.upm rfl rfl) (DC.fr D1 f2 rfl (fun _ => rfl) (fun _ => rfl) (fun _ => rfl)) D3 j0 V2 V4 e4 (Nat.mod_lt _ (by decide)) (by omega) (by omega) (fun b _ => by unfold k00; omega) (fun b _ => by unfold k00; omega) (by rw [cnt_0 (by decide)]; omega)
      · refine k_RS_step_0 (fun c => absurd c hj) (fun _ c => absurd c c1) (fun _ _ c => absurd c c10) (fun _ _ _ => ⟨_, rfl, ?_⟩)
        exact k_MD_step_0 (fun c => absurd c hj') (fun _ c => absurd c c1) (fun _ _ c => absurd c c10) (fun _ _ _ => ⟨rfl, Rm⟩)
end STP
