/-! THE CALLS of the law, one by one: both sides answer alike, and stay alike -/
theorem idleJ {m : Nat} {σ : xD} {up num nx us : Nat} {kd : Nat → Nat} {rn : Nat → Int32} {pd : Nat → Nat} {pw : Nat → Int32} {h : xh} (J : Jn σ up h ∨ J2 σ up num nx us kd rn h ∨ J3 σ up num nx pd pw h ∨ J4 m σ up h) (hj : h 6 2 = 0) : Jn σ up h := by
  have n2 : ¬ nI 2 = 0 := by decide +kernel
  have n3 : ¬ nI 3 = 0 := by decide +kernel
  have n4 : ¬ nI 4 = 0 := by decide +kernel
  rcases J with J | ⟨-, -, -, dn, -, -, J, M⟩ | ⟨-, dn, -, -, J, M⟩ | ⟨-, L, p0, q0, -, -, -, -, -, dn, -, -, -, J, M⟩
  · exact J
  · exact absurd (J.1.symm.trans hj) n2
  · exact absurd (J.1.symm.trans hj) n3
  · exact absurd (J.1.symm.trans hj) n4
def K2 (l : Launch) (E : xE) (μ : xM) (as : List xv) (m : Nat) : Option Int32 → xh → Prop := fun r h1 => ∃ v, r = some v ∧ MC l E μ as h1 (fun r' h2 => r' = some v ∧ Rel m h2)
theorem K2.mono {l : Launch} {E : xE} {μ : xM} {as : List xv} {m m' : Nat} {r : Option Int32} {h : xh} (k : K2 l E μ as m r h) (e : m ≤ m') : K2 l E μ as m' r h := by
  obtain ⟨v, a, b⟩ := k
  exact ⟨v, a, WP.mono b (fun _ _ z => ⟨z.1, z.2.mono e⟩)⟩
section CAS
variable {l : Launch} {E : xE} {h : xh} {m : Nat} {x1 x2 x3 : Int32}
theorem R_put (R : Rel m h) : MC l E M_RS_put [.inr 0, .inl x1, .inl x2, .inl x3] h (K2 l E M_MD_put [.inr 7, .inl x1, .inl x2, .inl x3] m) := by
  have ej := R.job
  have R0 := R
  obtain ⟨σ, up, num, nx, us, kd, rn, pd, pw, ⟨C1, C2, C3, C4, C5, C6, C7, C8⟩, J⟩ := R
  have no : (up = 0 ∨ ¬ h 6 2 = 0 ∨ x1 < 0 ∨ nI 16 ≤ x1 ∨ x2 < 0 ∨ nI 4 ≤ x2 ∨ ∃ b, b < 16 ∧ x1 = nI b ∧ ¬ kd b = 1 ∧ 8 ≤ cnt kd 1 16) → MC l E M_RS_put [.inr 0, .inl x1, .inl x2, .inl x3] h (K2 l E M_MD_put [.inr 7, .inl x1, .inl x2, .inl x3] m) :=
    fun hb => c_put_no C3 C5.1 hb ⟨nI 0, rfl, m_put_no C4 C5 (by rw [ej] at hb; exact hb) ⟨rfl, R0⟩⟩
  by_cases hj : h 6 2 = 0
  · rcases C5.1 with hu | hu
    · exact no (Or.inl hu)
    · obtain ⟨j0, j1, j2, j3⟩ := idleJ J hj
      rcases ixI x1 16 (by decide) with q | q | ⟨b, hb, rfl⟩
      · exact no (Or.inr (Or.inr (Or.inl q)))
      · exact no (Or.inr (Or.inr (Or.inr (Or.inl q))))
      · rcases ixI x2 4 (by decide) with q | q | ⟨w, hw4, rfl⟩
        · exact no (Or.inr (Or.inr (Or.inr (Or.inr (Or.inl q)))))
        · exact no (Or.inr (Or.inr (Or.inr (Or.inr (Or.inr (Or.inl q))))))
        · by_cases hk : kd b = 1 ∨ cnt kd 1 16 < 8
          · obtain ⟨i1, i2, i3, i4, i5, i6⟩ := C5.2 hu
            refine c_put_yes C1 C3 hu hj hb hw4 (i5 b hb) hk (fun h1 f1 V1 => ⟨nI 1, rfl, ?_⟩)
            have D1 : DMt σ h1 := DM.fr C2 f1 rfl (fun _ => rfl) (fun _ => rfl) (fun _ => rfl)
            refine m_put_yes D1 (VM.fr C4 f1 rfl rfl rfl rfl (fun _ => rfl) (fun _ => rfl) (fun _ => rfl) (fun _ => rfl)) C5 hu (by rw [f1 7 12 rfl]; exact j1) hb hw4 hk (fun h2 f2 V2 => ⟨rfl, ?_⟩)
            refine ⟨σ, up, num, nx, us, _, _, pd, pw, ⟨DC.fr (DC.fr C1 f1 rfl (fun _ => rfl) (fun _ => rfl) (fun _ => rfl)) f2 rfl (fun _ => rfl) (fun _ => rfl) (fun _ => rfl), DM.fr D1 f2 rfl (fun _ => rfl) (fun _ => rfl) (fun _ => rfl), VC.fr V1 f2 (fun _ => rfl) rfl rfl (fun _ => rfl) (fun _ => rfl) (fun _ => rfl) (fun _ => rfl), V2, ⟨C5.1, fun _ => ⟨i1, i2, i3, fun k hk => ?_, i5, ?_⟩⟩, C6, C7, C8⟩, Or.inl ⟨J0.fr (J0.fr j0 f1 rfl rfl rfl) f2 rfl rfl rfl, by rw [f2 7 12 rfl, f1 7 12 rfl]; exact j1, j2, j3⟩⟩
            · unfold upN; split
              · omega
              · exact i4 k hk
            · have := cnt_up (f := kd) (b := b) (x := 1) (v := 1) 16 hb
              rw [if_pos rfl] at this
              by_cases z : kd b = 1
              · rw [if_pos z] at this; omega
              · rw [if_neg z] at this
                rcases hk with hk | hk
                · exact absurd hk z
                · omega
          · exact no (Or.inr (Or.inr (Or.inr (Or.inr (Or.inr (Or.inr ⟨b, hb, rfl, fun z => hk (Or.inl z), by omega⟩))))))
  · exact no (Or.inr (Or.inl hj))
theorem R_revoke (R : Rel m h) : MC l E M_RS_revoke [.inr 0, .inl x1] h (K2 l E M_MD_revoke [.inr 7, .inl x1] m) := by
  have ej := R.job
  have R0 := R
  obtain ⟨σ, up, num, nx, us, kd, rn, pd, pw, ⟨C1, C2, C3, C4, C5, C6, C7, C8⟩, J⟩ := R
  have no : (up = 0 ∨ ¬ h 6 2 = 0 ∨ x1 < 0 ∨ nI 16 ≤ x1) → MC l E M_RS_revoke [.inr 0, .inl x1] h (K2 l E M_MD_revoke [.inr 7, .inl x1] m) :=
    fun hb => c_revoke_no C3 C5.1 hb ⟨nI 0, rfl, m_revoke_no C4 C5.1 (by rw [ej] at hb; exact hb) ⟨rfl, R0⟩⟩
  by_cases hj : h 6 2 = 0
  · rcases C5.1 with hu | hu
    · exact no (Or.inl hu)
    · obtain ⟨j0, j1, j2, j3⟩ := idleJ J hj
      rcases ixI x1 16 (by decide) with q | q | ⟨b, hb, rfl⟩
      · exact no (Or.inr (Or.inr (Or.inl q)))
      · exact no (Or.inr (Or.inr (Or.inr q)))
      · obtain ⟨i1, i2, i3, i4, i5, i6⟩ := C5.2 hu
        refine c_revoke_yes C3 hu hj hb (fun h1 f1 V1 => ⟨nI 1, rfl, ?_⟩)
        have D1 : DMt σ h1 := DM.fr C2 f1 rfl (fun _ => rfl) (fun _ => rfl) (fun _ => rfl)
        refine m_revoke_yes (VM.fr C4 f1 rfl rfl rfl rfl (fun _ => rfl) (fun _ => rfl) (fun _ => rfl) (fun _ => rfl)) hu (by rw [f1 7 12 rfl]; exact j1) hb (fun h2 f2 V2 => ⟨rfl, ?_⟩)
        refine ⟨σ, up, num, nx, us, _, _, pd, pw, ⟨DC.fr (DC.fr C1 f1 rfl (fun _ => rfl) (fun _ => rfl) (fun _ => rfl)) f2 rfl (fun _ => rfl) (fun _ => rfl) (fun _ => rfl), DM.fr D1 f2 rfl (fun _ => rfl) (fun _ => rfl) (fun _ => rfl), VC.fr V1 f2 (fun _ => rfl) rfl rfl (fun _ => rfl) (fun _ => rfl) (fun _ => rfl) (fun _ => rfl), V2, ⟨C5.1, fun _ => ⟨i1, i2, i3, fun k hk => ?_, i5, ?_⟩⟩, C6, C7, C8⟩, Or.inl ⟨J0.fr (J0.fr j0 f1 rfl rfl rfl) f2 rfl rfl rfl, by rw [f2 7 12 rfl, f1 7 12 rfl]; exact j1, j2, j3⟩⟩
        · unfold upN; split
          · omega
          · exact i4 k hk
        · have := cnt_up (f := kd) (b := b) (x := 2) (v := 1) 16 hb
          rw [if_neg (show ¬ (2 = 1) by decide)] at this
          omega
  · exact no (Or.inr (Or.inl hj))
theorem R_direct (R : Rel m h) : MC l E M_RS_direct [.inr 0, .inl x1, .inl x2, .inl x3] h (K2 l E M_MD_direct [.inr 7, .inl x1, .inl x2, .inl x3] m) := by
  have ej := R.job
  have R0 := R
  obtain ⟨σ, up, num, nx, us, kd, rn, pd, pw, ⟨C1, C2, C3, C4, C5, C6, C7, C8⟩, J⟩ := R
  have no : (up = 0 ∨ ¬ h 6 2 = 0 ∨ x1 < 0 ∨ nI 16 ≤ x1 ∨ x2 < 0 ∨ nI 4 ≤ x2 ∨ (∃ b, b < 16 ∧ x1 = nI b ∧ (kd b = 1 ∨ pd b = 1)) ∨ 12 ≤ σ.2.1) → MC l E M_RS_direct [.inr 0, .inl x1, .inl x2, .inl x3] h (K2 l E M_MD_direct [.inr 7, .inl x1, .inl x2, .inl x3] m) :=
    fun hb => c_direct_no C1 C3 C5 hb ⟨nI 0, rfl, m_direct_no C2 C4 C5 (by rw [ej] at hb; exact hb) ⟨rfl, R0⟩⟩
  by_cases hj : h 6 2 = 0
  · rcases C5.1 with hu | hu
    · exact no (Or.inl hu)
    · obtain ⟨j0, j1, j2, j3⟩ := idleJ J hj
      rcases ixI x1 16 (by decide) with q | q | ⟨b, hb, rfl⟩
      · exact no (Or.inr (Or.inr (Or.inl q)))
      · exact no (Or.inr (Or.inr (Or.inr (Or.inl q))))
      · rcases ixI x2 4 (by decide) with q | q | ⟨w, hw4, rfl⟩
        · exact no (Or.inr (Or.inr (Or.inr (Or.inr (Or.inl q)))))
        · exact no (Or.inr (Or.inr (Or.inr (Or.inr (Or.inr (Or.inl q))))))
        · by_cases hk : kd b = 1 ∨ pd b = 1
          · exact no (Or.inr (Or.inr (Or.inr (Or.inr (Or.inr (Or.inr (Or.inl ⟨b, hb, rfl, hk⟩)))))))
          · by_cases hn : σ.2.1 < 12
            · obtain ⟨i1, i2, i3, i4, i5, i6⟩ := C5.2 hu
              refine c_direct_yes C1 C3 hu hj hb hw4 (i5 b hb) (fun z => hk (Or.inl z)) (fun z => hk (Or.inr z)) hn (fun h1 f1 D1 => ⟨nI 1, rfl, ?_⟩)
              have M1 : DMt σ h1 := DM.fr C2 f1 rfl (fun _ => rfl) (fun _ => rfl) (fun _ => rfl)
              have V1 := VM.fr C4 f1 rfl rfl rfl rfl (fun _ => rfl) (fun _ => rfl) (fun _ => rfl) (fun _ => rfl)
              refine m_direct_yes M1 V1 hu (by rw [f1 7 12 rfl]; exact j1) hb hw4 (i5 b hb) (i4 b hb) (fun z => hk (Or.inl z)) (fun z => hk (Or.inr z)) hn (fun h2 f2 D2 => ⟨rfl, ?_⟩)
              refine ⟨(σ.1, σ.2.1 + 1, esw σ.2.2.1 σ.2.1 b, eww σ.2.2.2 σ.2.1 (fun j => if j = w then x3 else vw σ.1 σ.2.2.1 σ.2.2.2 b j σ.2.1)), up, num, nx, us, kd, rn, pd, pw, ⟨DC.fr D1 f2 rfl (fun _ => rfl) (fun _ => rfl) (fun _ => rfl), D2, VC.fr (VC.fr C3 f1 (fun _ => rfl) rfl rfl (fun _ => rfl) (fun _ => rfl) (fun _ => rfl) (fun _ => rfl)) f2 (fun _ => rfl) rfl rfl (fun _ => rfl) (fun _ => rfl) (fun _ => rfl) (fun _ => rfl), VM.fr V1 f2 rfl rfl rfl rfl (fun _ => rfl) (fun _ => rfl) (fun _ => rfl) (fun _ => rfl), C5, HB_wr C6 (fun z => by omega), C7, C8⟩, Or.inl ⟨J0.fr (J0.fr j0 f1 rfl rfl rfl) f2 rfl rfl rfl, by rw [f2 7 12 rfl, f1 7 12 rfl]; exact j1, fun _ => ?_, fun z => by omega⟩⟩
              show σ.2.1 + 1 ≤ 12
              omega
            · exact no (Or.inr (Or.inr (Or.inr (Or.inr (Or.inr (Or.inr (Or.inr (by omega))))))))
  · exact no (Or.inr (Or.inl hj))
theorem R_get (R : Rel m h) : MC l E M_RS_get [.inr 0, .inl x1, .inl x2] h (K2 l E M_MD_get [.inr 7, .inl x1, .inl x2] m) := by
  have R0 := R
  obtain ⟨σ, up, num, nx, us, kd, rn, pd, pw, ⟨C1, C2, C3, C4, C5, C6, C7, C8⟩, J⟩ := R
  have no : (up = 0 ∨ x1 < 0 ∨ nI 16 ≤ x1 ∨ x2 < 0 ∨ nI 4 ≤ x2) → MC l E M_RS_get [.inr 0, .inl x1, .inl x2] h (K2 l E M_MD_get [.inr 7, .inl x1, .inl x2] m) :=
    fun hb => c_get_no C3 C5.1 hb ⟨nI 0, rfl, m_get_no C4 C5.1 hb ⟨rfl, R0⟩⟩
  rcases C5.1 with hu | hu
  · exact no (Or.inl hu)
  · rcases ixI x1 16 (by decide) with q | q | ⟨b, hb, rfl⟩
    · exact no (Or.inr (Or.inl q))
    · exact no (Or.inr (Or.inr (Or.inl q)))
    · rcases ixI x2 4 (by decide) with q | q | ⟨w, hw4, rfl⟩
      · exact no (Or.inr (Or.inr (Or.inr (Or.inl q))))
      · exact no (Or.inr (Or.inr (Or.inr (Or.inr q))))
      · obtain ⟨i1, i2, i3, i4, i5, i6⟩ := C5.2 hu
        exact c_get_yes C1 C3 hu hb hw4 (i5 b hb) ⟨_, rfl, m_get_yes C2 C4 hu hb hw4 (i5 b hb) (i4 b hb) ⟨rfl, R0⟩⟩
theorem R_read (R : Rel m h) : MC l E M_RS_read [.inr 0, .inl x1, .inl x2] h (K2 l E M_MD_read [.inr 7, .inl x1, .inl x2] m) := by
  have R0 := R
  obtain ⟨σ, up, num, nx, us, kd, rn, pd, pw, ⟨C1, C2, C3, C4, C5, C6, C7, C8⟩, J⟩ := R
  have no : (x1 < 0 ∨ nI 41 ≤ x1 ∨ x2 < 0 ∨ nI 4 ≤ x2) → MC l E M_RS_read [.inr 0, .inl x1, .inl x2] h (K2 l E M_MD_read [.inr 7, .inl x1, .inl x2] m) :=
    fun hb => c_read_no hb ⟨nI 0, rfl, m_read_bad hb ⟨rfl, R0⟩⟩
  rcases ixI x1 41 (by decide) with q | q | ⟨b, hb, rfl⟩
  · exact no (Or.inl q)
  · exact no (Or.inr (Or.inl q))
  · rcases ixI x2 4 (by decide) with q | q | ⟨w, hw4, rfl⟩
    · exact no (Or.inr (Or.inr (Or.inl q)))
    · exact no (Or.inr (Or.inr (Or.inr q)))
    · exact c_read_yes C1 hb hw4 ⟨_, rfl, m_read C2 hb hw4 ⟨rfl, R0⟩⟩
theorem R_stored (R : Rel m h) : MC l E M_RS_stored [.inr 0, .inl x1, .inl x2] h (K2 l E M_MD_stored [.inr 7, .inl x1, .inl x2] m) := by
  have R0 := R
  obtain ⟨σ, up, num, nx, us, kd, rn, pd, pw, ⟨C1, C2, C3, C4, C5, C6, C7, C8⟩, J⟩ := R
  have no : (x1 < 0 ∨ nI 41 ≤ x1 ∨ x2 < 0 ∨ nI 4 ≤ x2) → MC l E M_RS_stored [.inr 0, .inl x1, .inl x2] h (K2 l E M_MD_stored [.inr 7, .inl x1, .inl x2] m) :=
    fun hb => c_stored_no hb ⟨nI 0, rfl, m_stored_no hb ⟨rfl, R0⟩⟩
  rcases ixI x1 41 (by decide) with q | q | ⟨b, hb, rfl⟩
  · exact no (Or.inl q)
  · exact no (Or.inr (Or.inl q))
  · rcases ixI x2 4 (by decide) with q | q | ⟨w, hw4, rfl⟩
    · exact no (Or.inr (Or.inr (Or.inl q)))
    · exact no (Or.inr (Or.inr (Or.inr q)))
    · exact c_stored_yes C1 hb hw4 ⟨_, rfl, m_stored_yes C2 hb hw4 ⟨rfl, R0⟩⟩
theorem R_changed (R : Rel m h) : MC l E M_RS_changed [.inr 0, .inl x1] h (K2 l E M_MD_changed [.inr 7, .inl x1] m) := by
  have R0 := R
  obtain ⟨σ, up, num, nx, us, kd, rn, pd, pw, ⟨C1, C2, C3, C4, C5, C6, C7, C8⟩, J⟩ := R
  have no : (up = 0 ∨ x1 < 0 ∨ nI 16 ≤ x1) → MC l E M_RS_changed [.inr 0, .inl x1] h (K2 l E M_MD_changed [.inr 7, .inl x1] m) :=
    fun hb => c_changed_no C3 C5.1 hb ⟨-1, rfl, m_changed_no C4 C5.1 hb ⟨rfl, R0⟩⟩
  rcases C5.1 with hu | hu
  · exact no (Or.inl hu)
  · rcases ixI x1 16 (by decide) with q | q | ⟨b, hb, rfl⟩
    · exact no (Or.inr (Or.inl q))
    · exact no (Or.inr (Or.inr q))
    · obtain ⟨i1, i2, i3, i4, i5, i6⟩ := C5.2 hu
      exact c_changed_yes C3 hu hb (i5 b hb) (i4 b hb) ⟨_, rfl, m_changed_yes C4 hu hb (i5 b hb) ⟨rfl, R0⟩⟩
theorem R_cached (R : Rel m h) : MC l E M_RS_cached [.inr 0] h (K2 l E M_MD_cached [.inr 7] m) := by
  have R0 := R
  obtain ⟨σ, up, num, nx, us, kd, rn, pd, pw, ⟨C1, C2, C3, C4, C5, C6, C7, C8⟩, J⟩ := R
  exact k_RS_cached_0 ⟨_, rfl, k_MD_cached_0 ⟨by rw [C1.1, C2.1], R0⟩⟩
theorem R_state (R : Rel m h) : MC l E M_RS_state [.inr 0] h (K2 l E M_MD_state [.inr 7] m) := by
  have ej := R.job
  have R0 := R
  obtain ⟨σ, up, num, nx, us, kd, rn, pd, pw, ⟨C1, C2, C3, C4, C5, C6, C7, C8⟩, J⟩ := R
  have eu : h 0 6 = h 7 4 := by rw [C3.1, C4.1]
  refine k_RS_state_0 (fun a b => ⟨_, rfl, ?_⟩) (fun a b => ⟨_, rfl, ?_⟩) (fun a => ⟨_, rfl, ?_⟩)
  all_goals rw [ej] at a
  · rw [eu] at b
    exact k_MD_state_0 (fun _ _ => ⟨rfl, R0⟩) (fun _ c => absurd b c) (fun c => absurd a c)
  · rw [eu] at b
    exact k_MD_state_0 (fun _ c => absurd c b) (fun _ _ => ⟨rfl, R0⟩) (fun c => absurd a c)
  · exact k_MD_state_0 (fun c => absurd c a) (fun c => absurd c a) (fun _ => ⟨by rw [ej], R0⟩)
theorem R_number (R : Rel m h) : MC l E M_RS_number [.inr 0] h (K2 l E M_MD_number [.inr 7] m) := by
  have R0 := R
  obtain ⟨σ, up, num, nx, us, kd, rn, pd, pw, ⟨C1, C2, C3, C4, C5, C6, C7, C8⟩, J⟩ := R
  have eu : h 0 6 = h 7 4 := by rw [C3.1, C4.1]
  refine k_RS_number_0 (fun b => ⟨_, rfl, ?_⟩) (fun b => ⟨_, rfl, ?_⟩)
  · have b2 := b
    rw [eu] at b2
    exact k_MD_number_0 (fun _ => ⟨rfl, R0⟩) (fun c => absurd b2 c)
  · have hu := up1 C3.1 C5.1 b
    have b2 := b
    rw [eu] at b2
    exact k_MD_number_0 (fun c => absurd c b2) (fun _ => ⟨by rw [(C3.2 hu).1, (C4.2 hu).1], R0⟩)
theorem R_used (R : Rel m h) : MC l E M_RS_used [.inr 0] h (K2 l E M_MD_used [.inr 7] m) := by
  have R0 := R
  obtain ⟨σ, up, num, nx, us, kd, rn, pd, pw, ⟨C1, C2, C3, C4, C5, C6, C7, C8⟩, J⟩ := R
  have eu : h 0 6 = h 7 4 := by rw [C3.1, C4.1]
  refine k_RS_used_0 (fun b => ⟨_, rfl, ?_⟩) (fun b => ⟨_, rfl, ?_⟩)
  · have b2 := b
    rw [eu] at b2
    exact k_MD_used_0 (fun _ => ⟨rfl, R0⟩) (fun c => absurd b2 c)
  · have hu := up1 C3.1 C5.1 b
    have b2 := b
    rw [eu] at b2
    exact k_MD_used_0 (fun c => absurd c b2) (fun _ => ⟨by rw [(C3.2 hu).2.2.1, (C4.2 hu).2.2.1], R0⟩)
theorem R_left (R : Rel m h) : MC l E M_RS_left [.inr 0] h (K2 l E M_MD_left [.inr 7] m) := by
  have ej := R.job
  have R0 := R
  obtain ⟨σ, up, num, nx, us, kd, rn, pd, pw, -, J⟩ := R
  refine k_RS_left_0 ⟨_, rfl, ?_⟩
  have n2 : ¬ nI 2 = 0 := by decide +kernel
  have n3 : ¬ nI 3 = 0 := by decide +kernel
  have n4 : ¬ nI 4 = 0 := by decide +kernel
  rcases J with ⟨⟨a, b, c⟩, d, -, -⟩ | ⟨-, -, -, dn, -, -, J, M⟩ | ⟨-, dn, -, -, J, M⟩ | ⟨-, L, p0, q0, -, -, -, -, -, dn, -, -, -, J, M⟩
  · exact k_MD_left_0 (fun z => absurd d z) (fun _ => ⟨by rw [b, c]; rfl, R0⟩)
  · exact k_MD_left_0 (fun _ => ⟨by rw [M.2.2, M.2.1, J.2.1, J.2.2.1], R0⟩) (fun z => absurd (M.1.symm.trans z) n2)
  · exact k_MD_left_0 (fun _ => ⟨by rw [M.2.2, M.2.1, J.2.1, J.2.2.1], R0⟩) (fun z => absurd (M.1.symm.trans z) n3)
  · exact k_MD_left_0 (fun _ => ⟨by rw [M.2.2, M.2.1, J.2.1, J.2.2.1], R0⟩) (fun z => absurd (M.1.symm.trans z) n4)
theorem R_crash (R : Rel m h) : MC l E M_RS_crash [.inr 0, .inl x1, .inl x2] h (K2 l E M_MD_crash [.inr 7, .inl x1, .inl x2] m) := by
  obtain ⟨σ, up, num, nx, us, kd, rn, pd, pw, ⟨C1, C2, C3, C4, C5, C6, C7, C8⟩, J⟩ := R
  refine k_RS_crash_0 ?_
  generalize hh : hw (hw (hw (hw h 0 6 (nI 0)) 6 2 (nI 0)) 6 3 (nI 0)) 6 4 (nI 0) = h0
  have g0 : fr (fun k j => (Nat.beq k 0 && Nat.beq j 6) || (Nat.beq k 6 && (Nat.beq j 2 || Nat.beq j 3 || Nat.beq j 4))) h h0 := by rw [← hh]; exact (((fr.rf.hw rfl).hw rfl).hw rfl).hw rfl
  have e0 : h0 0 6 = nI 0 := by rw [← hh, hwa (by decide), hwa (by decide), hwa (by decide), hwk, upi, if_pos rfl]
  have e2 : h0 6 2 = nI 0 := by rw [← hh, hwk, upi, if_neg (by decide), hwk, upi, if_neg (by decide), hwk, upi, if_pos rfl]
  have e3 : h0 6 3 = nI 0 := by rw [← hh, hwk, upi, if_neg (by decide), hwk, upi, if_pos rfl]
  have e4 : h0 6 4 = nI 0 := by rw [← hh, hwk, upi, if_pos rfl]
  refine s_breakDown (DC.fr C1 g0 rfl (fun _ => rfl) (fun _ => rfl) (fun _ => rfl)) (fun h1 f1 D1 => ?_)
  refine k_RS_crash_21 ⟨_, rfl, ?_⟩
  refine m_crash (DM.fr (DM.fr C2 g0 rfl (fun _ => rfl) (fun _ => rfl) (fun _ => rfl)) f1 rfl (fun _ => rfl) (fun _ => rfl) (fun _ => rfl)) (fun h2 f2 D2 a4 a12 => ⟨rfl, ?_⟩)
  refine ⟨(_, 0, _, _), 0, num, nx, us, kd, rn, pd, pw, ⟨DC.fr D1 f2 rfl (fun _ => rfl) (fun _ => rfl) (fun _ => rfl), D2, ⟨?_, fun z => absurd z (by decide)⟩, ⟨a4, fun z => absurd z (by decide)⟩, ⟨Or.inl rfl, fun z => absurd z (by decide)⟩, HB_cr (wh_le x2) C6, fun z => absurd z (by decide), C8⟩, Or.inl ⟨⟨?_, ?_, ?_⟩, ?_, fun z => absurd z (by decide), fun _ => rfl⟩⟩
  · rw [f2 0 6 rfl, f1 0 6 rfl]; exact e0
  · rw [f2 6 2 rfl, f1 6 2 rfl, e2]; exact nI_0
  · rw [f2 6 3 rfl, f1 6 3 rfl, e3]; exact nI_0
  · rw [f2 6 4 rfl, f1 6 4 rfl, e4]; exact nI_0
  · rw [a12]; exact nI_0
theorem bnd0 {B tot : Nat} {σ : xD} (h3 : 3 ≤ tot) (h : σ.2.1 ≤ B) (ht : tot = 3 → True) : bnd B tot 0 σ := ⟨fun _ => h, fun z => by omega, fun z => by omega, fun z => by omega⟩
theorem R_commit (R : Rel m h) : MC l E M_RS_commit [.inr 0] h (K2 l E M_MD_commit [.inr 7] m) := by
  have ej := R.job
  have R0 := R
  obtain ⟨σ, up, num, nx, us, kd, rn, pd, pw, ⟨C1, C2, C3, C4, C5, C6, C7, C8⟩, J⟩ := R
  have no : (up = 0 ∨ ¬ h 6 2 = 0 ∨ (cnt kd 1 16 = 0 ∧ cnt kd 2 16 = 0)) → MC l E M_RS_commit [.inr 0] h (K2 l E M_MD_commit [.inr 7] m) :=
    fun hb => c_commit_no C3 C5.1 hb ⟨-1, rfl, m_commit_no C4 C5 (by rw [ej] at hb; exact hb) ⟨rfl, R0⟩⟩
  by_cases hj : h 6 2 = 0
  · rcases C5.1 with hu | hu
    · exact no (Or.inl hu)
    · obtain ⟨j0, j1, j2, j3⟩ := idleJ J hj
      by_cases hne : cnt kd 1 16 = 0 ∧ cnt kd 2 16 = 0
      · exact no (Or.inr (Or.inr hne))
      · by_cases hf : us + (rl1 kd + 1) ≤ 23
        · refine c_commit_yes C3 C5 hu hj hne hf (fun h1 f1 J1 a1 => ⟨_, rfl, ?_⟩)
          have V1 := VM.fr C4 f1 rfl rfl rfl rfl (fun _ => rfl) (fun _ => rfl) (fun _ => rfl) (fun _ => rfl)
          refine m_commit_yes V1 C5 hu (by rw [f1 7 12 rfl]; exact j1) hne hf (fun h2 f2 M2 => ⟨rfl, ?_⟩)
          refine ⟨σ, up, num, nx, us, kd, rn, pd, pw, ⟨DC.fr (DC.fr C1 f1 rfl (fun _ => rfl) (fun _ => rfl) (fun _ => rfl)) f2 rfl (fun _ => rfl) (fun _ => rfl) (fun _ => rfl), DM.fr (DM.fr C2 f1 rfl (fun _ => rfl) (fun _ => rfl) (fun _ => rfl)) f2 rfl (fun _ => rfl) (fun _ => rfl) (fun _ => rfl), VC.fr (VC.fr C3 f1 (fun _ => rfl) rfl rfl (fun _ => rfl) (fun _ => rfl) (fun _ => rfl) (fun _ => rfl)) f2 (fun _ => rfl) rfl rfl (fun _ => rfl) (fun _ => rfl) (fun _ => rfl) (fun _ => rfl), VM.fr V1 f2 rfl rfl rfl rfl (fun _ => rfl) (fun _ => rfl) (fun _ => rfl) (fun _ => rfl), C5, C6, C7, C8⟩, Or.inr (Or.inl ⟨hu, hf, by rw [f2 4 2 rfl]; exact a1, 0, by omega, bnd0 (by omega) (j2 hu) (fun _ => trivial), JR.fr J1 f2 rfl rfl rfl (fun _ => rfl) (fun _ => rfl), M2⟩)⟩
        · refine c_commit_full C3 C5 hu hj hne (by omega) (fun h1 f1 => ⟨-2, rfl, ?_⟩)
          have V1 := VM.fr C4 f1 rfl rfl rfl rfl (fun _ => rfl) (fun _ => rfl) (fun _ => rfl) (fun _ => rfl)
          refine m_commit_full V1 C5 hu (by rw [f1 7 12 rfl]; exact j1) hne (by omega) ⟨rfl, ?_⟩
          exact ⟨σ, up, num, nx, us, kd, rn, pd, pw, ⟨DC.fr C1 f1 rfl (fun _ => rfl) (fun _ => rfl) (fun _ => rfl), DM.fr C2 f1 rfl (fun _ => rfl) (fun _ => rfl) (fun _ => rfl), VC.fr C3 f1 (fun _ => rfl) rfl rfl (fun _ => rfl) (fun _ => rfl) (fun _ => rfl) (fun _ => rfl), V1, C5, C6, C7, C8⟩, Or.inl ⟨J0.fr j0 f1 rfl rfl rfl, by rw [f1 7 12 rfl]; exact j1, j2, j3⟩⟩
  · exact no (Or.inr (Or.inl hj))
theorem R_checkpoint (R : Rel m h) : MC l E M_RS_checkpoint [.inr 0] h (K2 l E M_MD_checkpoint [.inr 7] m) := by
  have ej := R.job
  have R0 := R
  obtain ⟨σ, up, num, nx, us, kd, rn, pd, pw, ⟨C1, C2, C3, C4, C5, C6, C7, C8⟩, J⟩ := R
  have no : (up = 0 ∨ ¬ h 6 2 = 0) → MC l E M_RS_checkpoint [.inr 0] h (K2 l E M_MD_checkpoint [.inr 7] m) :=
    fun hb => c_checkpoint_no C3 C5.1 hb ⟨-1, rfl, m_checkpoint_no C4 C5.1 (by rw [ej] at hb; exact hb) ⟨rfl, R0⟩⟩
  by_cases hj : h 6 2 = 0
  · rcases C5.1 with hu | hu
    · exact no (Or.inl hu)
    · obtain ⟨j0, j1, j2, j3⟩ := idleJ J hj
      obtain ⟨i1, i2, i3, i4, i5, i6⟩ := C5.2 hu
      refine c_checkpoint_yes C3 hu i5 hj (fun h1 f1 J1 => ⟨_, rfl, ?_⟩)
      have V1 := VM.fr C4 f1 rfl rfl rfl rfl (fun _ => rfl) (fun _ => rfl) (fun _ => rfl) (fun _ => rfl)
      refine m_checkpoint_yes V1 hu i5 (by rw [f1 7 12 rfl]; exact j1) (fun h2 f2 M2 => ⟨rfl, ?_⟩)
      exact ⟨σ, up, num, nx, us, kd, rn, pd, pw, ⟨DC.fr (DC.fr C1 f1 rfl (fun _ => rfl) (fun _ => rfl) (fun _ => rfl)) f2 rfl (fun _ => rfl) (fun _ => rfl) (fun _ => rfl), DM.fr (DM.fr C2 f1 rfl (fun _ => rfl) (fun _ => rfl) (fun _ => rfl)) f2 rfl (fun _ => rfl) (fun _ => rfl) (fun _ => rfl), VC.fr (VC.fr C3 f1 (fun _ => rfl) rfl rfl (fun _ => rfl) (fun _ => rfl) (fun _ => rfl) (fun _ => rfl)) f2 (fun _ => rfl) rfl rfl (fun _ => rfl) (fun _ => rfl) (fun _ => rfl) (fun _ => rfl), VM.fr V1 f2 rfl rfl rfl rfl (fun _ => rfl) (fun _ => rfl) (fun _ => rfl) (fun _ => rfl), C5, C6, C7, C8⟩, Or.inr (Or.inr (Or.inl ⟨hu, 0, by omega, bnd0 (by omega) (j2 hu) (fun _ => trivial), JR.fr J1 f2 rfl rfl rfl (fun _ => rfl) (fun _ => rfl), M2⟩))⟩
  · exact no (Or.inr hj)
theorem R_recover (hm : m < 2 ^ 28) (R : Rel m h) : MC l E M_RS_recover [.inr 0] h (K2 l E M_MD_recover [.inr 7] (m + 24)) := by
  have ej := R.job
  have R0 := R
  obtain ⟨σ, up, num, nx, us, kd, rn, pd, pw, ⟨C1, C2, C3, C4, C5, C6, C7, C8⟩, J⟩ := R
  have no : (up = 1 ∨ ¬ h 6 2 = 0) → MC l E M_RS_recover [.inr 0] h (K2 l E M_MD_recover [.inr 7] (m + 24)) :=
    fun hb => c_recover_no C3 hb C5.1 ⟨-1, rfl, m_recover_no C4 (by rw [ej] at hb; exact hb) ⟨rfl, R0.mono (by omega)⟩⟩
  by_cases hj : h 6 2 = 0
  · rcases C5.1 with hu | hu
    · obtain ⟨j0, j1, j2, j3⟩ := idleJ J hj
      obtain ⟨a, ha, ea⟩ := C6.vs
      have hq : hQ (vs σ) ≤ m := by
        unfold hQ
        split
        · rw [ea, nI_clamp (by omega)]; exact ha
        · exact C8
      have hnv := NV_le (L := LG (vs σ)) (q0 := hQ (vs σ))
      refine c_recover_yes C1 ea (by omega) C3 hu hj (fun h1 f1 J1 a6 a7 a8 => ⟨_, rfl, ?_⟩)
      have V1 := VM.fr C4 f1 rfl rfl rfl rfl (fun _ => rfl) (fun _ => rfl) (fun _ => rfl) (fun _ => rfl)
      have D1 : DMt σ h1 := DM.fr C2 f1 rfl (fun _ => rfl) (fun _ => rfl) (fun _ => rfl)
      refine m_recover_yes D1 ea (by omega) V1 hu (by rw [f1 7 12 rfl]; exact j1) (fun h2 f2 M2 => ⟨rfl, ?_⟩)
      refine ⟨σ, up, num, nx, us, kd, rn, pd, pw, ⟨DC.fr (DC.fr C1 f1 rfl (fun _ => rfl) (fun _ => rfl) (fun _ => rfl)) f2 rfl (fun _ => rfl) (fun _ => rfl) (fun _ => rfl), DM.fr D1 f2 rfl (fun _ => rfl) (fun _ => rfl) (fun _ => rfl), VC.fr (VC.fr C3 f1 (fun _ => rfl) rfl rfl (fun _ => rfl) (fun _ => rfl) (fun _ => rfl) (fun _ => rfl)) f2 (fun _ => rfl) rfl rfl (fun _ => rfl) (fun _ => rfl) (fun _ => rfl) (fun _ => rfl), VM.fr V1 f2 rfl rfl rfl rfl (fun _ => rfl) (fun _ => rfl) (fun _ => rfl) (fun _ => rfl), C5, C6.mono (by omega), fun z => by omega, by omega⟩, Or.inr (Or.inr (Or.inr ⟨hu, LG (vs σ), hP (vs σ), hQ (vs σ), hP_lt _, by omega, by rw [f2 5 6 rfl]; exact a6, by rw [f2 5 7 rfl]; exact a7, by rw [f2 5 8 rfl]; exact a8, 0, by omega, bnd0 (by omega) (by rw [j3 hu]; exact Nat.le_refl 0) (fun _ => trivial), ⟨fun _ => ⟨fun _ _ _ => rfl, rfl, rfl⟩, fun z => absurd z (by omega)⟩, JR.fr J1 f2 rfl rfl rfl (fun _ => rfl) (fun _ => rfl), M2⟩))⟩
    · exact no (Or.inl hu)
  · exact no (Or.inr hj)
end CAS
