/-! THE VOLUME: the class's other short calls -/
section VOLC2
variable {l : Launch} {E : xE} {d : Nat → Int32} {n : Nat} {es : Nat → Nat} {ew : Nat → Int32} {h : xh} {Q : Option Int32 → xh → Prop}
variable {up num nx us : Nat} {kd : Nat → Nat} {rn : Nat → Int32} {pd : Nat → Nat} {pw : Nat → Int32}
theorem up1 {a6 : Int32} (v6 : a6 = nI up) (hu : up = 0 ∨ up = 1) (a1 : ¬ a6 = 0) : up = 1 := by
  rcases hu with e | e
  · exact absurd (by rw [v6, e]; exact nI_0) a1
  · exact e
theorem c_revoke_no {x1 : Int32} (V : VC up num nx us kd rn pd pw h) (hu : up = 0 ∨ up = 1) (hb : up = 0 ∨ ¬ h 6 2 = 0 ∨ x1 < 0 ∨ nI 16 ≤ x1) (hq : Q (some (nI 0)) h) : MC l E M_RS_revoke [.inr 0, .inl x1] h Q := by
  refine k_RS_revoke_0 (fun _ => hq) (fun _ _ _ => hq) (fun _ _ _ _ => hq) (fun a1 a2 a3 a4 => ?_) (fun _ _ => hq)
  have hup := up1 V.1 hu a1
  rcases hb with e | e | e | e
  · omega
  · exact absurd a2 e
  · exact absurd e a3
  · exact absurd e a4
theorem c_revoke_yes {b : Nat} (V : VC up num nx us kd rn pd pw h) (hup : up = 1) (hj : h 6 2 = 0) (hb : b < 16)
    (hq : ∀ h', fr (fun k j => (pc [2, 11]) k j || (Nat.beq k 0 && Nat.beq j 7)) h h' → VC up num nx us (upN kd b 2) rn pd pw h' → Q (some (nI 1)) h') : MC l E M_RS_revoke [.inr 0, .inl (nI b)] h Q := by
  obtain ⟨v6, hv⟩ := id V
  obtain ⟨a8, a9, a10, h7, h2, h3, h11, h12, h13, h14⟩ := hv hup
  have u0 : ¬ h 0 6 = 0 := by rw [v6, hup]; decide +kernel
  have p1 : ¬ nI b < 0 := nnn (by omega)
  have p2 : ¬ nI 16 ≤ nI b := nI_ge hb (by decide)
  have eb : (nI b).toNatClampNeg = b := nI_clamp (by omega)
  have i16 : vp_in (nI b) 16 := vp_in_nI hb (by decide)
  have fin : ∀ h1 : xh, fr (pc [2, 11]) h h1 → (∀ q, q < 16 → h1 11 q = nI (if upN kd b 2 q = 1 then 1 else 0)) → h1 2 2 = nI (cnt (upN kd b 2) 1 16) → Q (some (nI 1)) (hw h1 0 7 ((h1 0 7) ||| (nI 1 <<< (nI b &&& 31)))) := by
    intro h1 f g1 g2
    refine hq _ ((f.mono (fun k j q => (Bool.or_eq_false_iff.mp q).1)).hw rfl) ?_
    refine ⟨by rw [hwk, upi, if_neg (by decide), f 0 6 rfl]; exact v6, fun _ => ⟨by rw [hwk, upi, if_neg (by decide), f 0 8 rfl]; exact a8, by rw [hwk, upi, if_neg (by decide), f 0 9 rfl]; exact a9, by rw [hwk, upi, if_neg (by decide), f 0 10 rfl]; exact a10, fun i hi => ?_, by rw [hwa (by decide)]; exact g2, by rw [hwa (by decide), f 3 2 rfl]; exact h3, fun q hq => by rw [hwa (by decide)]; exact g1 q hq, fun q hq q1 w hw4 => ?_, fun q hq => by rw [hwa (by decide), f 13 q rfl]; exact h13 q hq, fun q hq q1 w hw4 => by rw [hwa (by decide), f 14 _ rfl]; exact h14 q hq q1 w hw4⟩⟩
    · rw [hwk, upi, if_pos rfl, b_or, f 0 7 rfl, h7 i hi, b_pow b hb i hi]
      unfold upN
      by_cases c : i = b
      · simp [c, hb]
      · simp [c]
    · rw [hwa (by decide), f 12 _ rfl]
      unfold upN at q1
      by_cases c : q = b
      · rw [if_pos c] at q1; omega
      · rw [if_neg c] at q1; exact h12 q hq q1 w hw4
  have ecnt := cnt_up (f := kd) (b := b) (x := 2) (v := 1) 16 hb
  rw [if_neg (show ¬ (2 : Nat) = 1 by decide)] at ecnt
  refine k_RS_revoke_0 (fun c => absurd c u0) (fun _ _ c => absurd c p1) (fun _ _ _ c => absurd c p2) (fun _ _ _ _ => ?_) (fun _ c => absurd hj c)
  refine k_IM_drop_r_0 i16 (fun c => ?_) (fun _ => i16) (fun c => ?_)
  · rw [eb, h11 b hb, k0] at c
    refine k_RS_revoke_24 (fin h fr.rf (fun q hq => ?_) ?_)
    · rw [h11 q hq]
      unfold upN
      by_cases e : q = b
      · rw [if_pos e, e, if_neg c]; rfl
      · rw [if_neg e]
    · rw [h2]
      rw [if_neg c] at ecnt
      rw [show cnt (upN kd b 2) 1 16 = cnt kd 1 16 by omega]
  · rw [eb, h11 b hb, k0] at c
    have ck : kd b = 1 := Classical.byContradiction c
    refine k_RS_revoke_24 ?_
    rw [eb]
    refine fin _ ((fr.rf.hw rfl).hw rfl) (fun q hq => ?_) ?_
    · rw [hwa (by decide), hwk, upi]
      unfold upN
      by_cases e : q = b
      · rw [if_pos e, if_pos e]; rfl
      · rw [if_neg e, if_neg e]; exact h11 q hq
    · rw [hwk, upi, if_pos rfl, h2]
      rw [if_pos ck] at ecnt
      rw [nsub (by omega), show cnt (upN kd b 2) 1 16 = cnt kd 1 16 - 1 by omega]
theorem c_direct_no {x1 x2 x3 : Int32} (D : DC d n es ew h) (V : VC up num nx us kd rn pd pw h) (I : vi up num nx us kd pd) (hb : up = 0 ∨ ¬ h 6 2 = 0 ∨ x1 < 0 ∨ nI 16 ≤ x1 ∨ x2 < 0 ∨ nI 4 ≤ x2 ∨ (∃ b, b < 16 ∧ x1 = nI b ∧ (kd b = 1 ∨ pd b = 1)) ∨ 12 ≤ n) (hq : Q (some (nI 0)) h) : MC l E M_RS_direct [.inr 0, .inl x1, .inl x2, .inl x3] h Q := by
  obtain ⟨v6, hv⟩ := V
  have g : ∀ {A : Prop}, ¬ h 0 6 = 0 → h 6 2 = 0 → ¬ x1 < 0 → ¬ nI 16 ≤ x1 → ¬ x2 < 0 → ¬ nI 4 ≤ x2 → (∀ b, b < 16 → x1 = nI b → ((kd b = 1 ∨ pd b = 1) ∨ 12 ≤ n) → up = 1 → pd b ≤ 1 → A) → A := by
    intro A a1 a2 a3 a4 a5 a6 k
    have hup := up1 v6 I.1 a1
    have hpd := (I.2 hup).2.2.2.2.1
    obtain ⟨b, hb16, rfl⟩ : ∃ b, b < 16 ∧ x1 = nI b := by
      rcases ixI x1 16 (by decide) with e | e | e
      · exact absurd e a3
      · exact absurd e a4
      · exact e
    rcases hb with e | e | e | e | e | e | ⟨b', hb', e, e1⟩ | e
    · omega
    · exact absurd a2 e
    · exact absurd e a3
    · exact absurd e a4
    · exact absurd e a5
    · exact absurd e a6
    · have := neq e (by omega) (by omega)
      subst this
      exact k b hb16 rfl (Or.inl e1) hup (hpd b hb16)
    · exact k b hb16 rfl (Or.inr e) hup (hpd b hb16)
  have q11 : ∀ b, b < 16 → up = 1 → h 11 ((nI b).toNatClampNeg) = nI (if kd b = 1 then 1 else 0) := fun b hb hup => by rw [nI_clamp (by omega)]; exact (hv hup).2.2.2.2.2.2.1 b hb
  have q13 : ∀ b, b < 16 → up = 1 → h 13 ((nI b).toNatClampNeg) = nI (pd b) := fun b hb hup => by rw [nI_clamp (by omega)]; exact (hv hup).2.2.2.2.2.2.2.2.1 b hb
  refine k_RS_direct_0 (fun _ => hq) (fun _ _ _ => hq) (fun _ _ _ _ => hq) (fun _ _ _ _ _ => hq) (fun _ _ _ _ _ _ => hq) (fun a1 a2 a3 a4 a5 a6 => ?_) (fun a1 a2 a3 a4 a5 a6 => ?_) (fun _ _ _ _ _ _ _ => hq) (fun a1 a2 a3 a4 a5 a6 a7 => ?_) (fun a1 a2 a3 a4 a5 a6 a7 => ?_) (fun _ _ _ _ _ _ _ _ => hq) (fun a1 a2 a3 a4 a5 a6 a7 a8 a9 => ?_) (fun _ _ _ _ _ _ _ _ _ => hq) (fun _ _ => hq)
  · exact g a1 a2 a3 a4 a5 a6 (fun b hb e _ _ _ => by rw [e]; exact vp_in_nI hb (by decide))
  · exact g a1 a2 a3 a4 a5 a6 (fun b hb e _ hup _ => by rw [e, q11 b hb hup]; exact k01)
  · exact g a1 a2 a3 a4 a5 a6 (fun b hb e _ _ _ => by rw [e]; exact vp_in_nI hb (by decide))
  · exact g a1 a2 a3 a4 a5 a6 (fun b hb e _ hup hp => by rw [e, q13 b hb hup]; exact b01 hp)
  · exact g a1 a2 a3 a4 a5 a6 (fun b hb e e1 hup hp => by
      rw [e, q11 b hb hup, k0] at a7
      rw [e, q13 b hb hup, p0 hp] at a8
      rw [D.1] at a9
      rcases e1 with (z | z) | z
      · exact absurd z a7
      · exact absurd z a8
      · exact absurd a9 (nI_nlt z (by have := D.2.1; omega)))
theorem c_direct_yes {b w : Nat} {v : Int32} (D : DC d n es ew h) (V : VC up num nx us kd rn pd pw h) (hup : up = 1) (hj : h 6 2 = 0) (hb : b < 16) (hw4 : w < 4) (hp : pd b ≤ 1) (hk : ¬ kd b = 1) (hk2 : ¬ pd b = 1) (hn : n < 12)
    (hq : ∀ h', fr (pc [1, 9, 10]) h h' → DC d (n + 1) (esw es n b) (eww ew n (fun j => if j = w then v else vw d es ew b j n)) h' → Q (some (nI 1)) h') : MC l E M_RS_direct [.inr 0, .inl (nI b), .inl (nI w), .inl v] h Q := by
  obtain ⟨v6, hv⟩ := id V
  obtain ⟨a8, a9, a10, h7, h2, h3, h11, h12, h13, h14⟩ := hv hup
  have u0 : ¬ h 0 6 = 0 := by rw [v6, hup]; decide +kernel
  have p1 : ¬ nI b < 0 := nnn (by omega)
  have p2 : ¬ nI 16 ≤ nI b := nI_ge hb (by decide)
  have p3 : ¬ nI w < 0 := nnn (by omega)
  have p4 : ¬ nI 4 ≤ nI w := nI_ge hw4 (by decide)
  have eb : (nI b).toNatClampNeg = b := nI_clamp (by omega)
  have i16 : vp_in (nI b) 16 := vp_in_nI hb (by decide)
  have z11 : h 11 ((nI b).toNatClampNeg) = 0 := by rw [eb, h11 b hb]; exact k0.mpr hk
  have z13 : h 13 ((nI b).toNatClampNeg) = 0 := by rw [eb, h13 b hb]; exact (p0 hp).mpr hk2
  refine k_RS_direct_0 (fun c => absurd c u0) (fun _ _ c => absurd c p1) (fun _ _ _ c => absurd c p2) (fun _ _ _ _ c => absurd c p3) (fun _ _ _ _ _ c => absurd c p4) (fun _ _ _ _ _ _ => i16) (fun _ _ _ _ _ _ => Or.inl z11) (fun _ _ _ _ _ _ c => absurd z11 c) (fun _ _ _ _ _ _ _ => i16) (fun _ _ _ _ _ _ _ => Or.inl z13) (fun _ _ _ _ _ _ _ c => absurd z13 c) (fun _ _ _ _ _ _ _ _ _ => ?_) (fun _ _ _ _ _ _ _ _ c => absurd (by rw [D.1]; exact nI_lt hn (by decide)) c) (fun _ c => absurd hj c)
  exact s_writeChanged D (by omega) (by omega) hw4 (fun h' f D' => k_RS_direct_61 (hq h' f D'))
theorem c_get_no {x1 x2 : Int32} (V : VC up num nx us kd rn pd pw h) (hu : up = 0 ∨ up = 1) (hb : up = 0 ∨ x1 < 0 ∨ nI 16 ≤ x1 ∨ x2 < 0 ∨ nI 4 ≤ x2) (hq : Q (some (nI 0)) h) : MC l E M_RS_get [.inr 0, .inl x1, .inl x2] h Q := by
  refine k_RS_get_0 (fun _ => hq) (fun _ _ => hq) (fun _ _ _ => hq) (fun _ _ _ _ => hq) (fun _ _ _ _ _ => hq) (fun a1 a3 a4 a5 a6 => ?_)
  have hup := up1 V.1 hu a1
  rcases hb with e | e | e | e | e
  · omega
  · exact absurd e a3
  · exact absurd e a4
  · exact absurd e a5
  · exact absurd e a6
theorem c_get_yes {b w : Nat} (D : DC d n es ew h) (V : VC up num nx us kd rn pd pw h) (hup : up = 1) (hb : b < 16) (hw4 : w < 4) (hp : pd b ≤ 1) (hq : Q (some (gv d n es ew kd rn pd pw b w)) h) : MC l E M_RS_get [.inr 0, .inl (nI b), .inl (nI w)] h Q := by
  have u0 : ¬ h 0 6 = 0 := by rw [V.1, hup]; decide +kernel
  refine k_RS_get_0 (fun c => absurd c u0) (fun _ c => absurd c (nnn (by omega))) (fun _ _ c => absurd c (nI_ge hb (by decide))) (fun _ _ _ c => absurd c (nnn (by omega))) (fun _ _ _ _ c => absurd c (nI_ge hw4 (by decide))) (fun _ _ _ _ _ => ?_)
  exact s_volumeWord D V hup hb hw4 hp (k_RS_get_21 hq)
theorem c_read_no {x1 x2 : Int32} (hb : x1 < 0 ∨ nI 41 ≤ x1 ∨ x2 < 0 ∨ nI 4 ≤ x2) (hq : Q (some (nI 0)) h) : MC l E M_RS_read [.inr 0, .inl x1, .inl x2] h Q := by
  refine k_RS_read_0 (fun _ => hq) (fun _ _ => hq) (fun _ _ _ => hq) (fun _ _ _ _ => hq) (fun a3 a4 a5 a6 => ?_)
  rcases hb with e | e | e | e
  · exact absurd e a3
  · exact absurd e a4
  · exact absurd e a5
  · exact absurd e a6
theorem c_read_yes {s w : Nat} (D : DC d n es ew h) (hs : s < 41) (hw4 : w < 4) (hq : Q (some (vw d es ew s w n)) h) : MC l E M_RS_read [.inr 0, .inl (nI s), .inl (nI w)] h Q := by
  refine k_RS_read_0 (fun c => absurd c (nnn (by omega))) (fun _ c => absurd c (nI_ge hs (by decide))) (fun _ _ c => absurd c (nnn (by omega))) (fun _ _ _ c => absurd c (nI_ge hw4 (by decide))) (fun _ _ _ _ => ?_)
  exact s_newest D hs hw4 (k_RS_read_17 hq)
theorem c_stored_no {x1 x2 : Int32} (hb : x1 < 0 ∨ nI 41 ≤ x1 ∨ x2 < 0 ∨ nI 4 ≤ x2) (hq : Q (some (nI 0)) h) : MC l E M_RS_stored [.inr 0, .inl x1, .inl x2] h Q := by
  have g : ∀ {A : Prop}, ¬ x1 < 0 → ¬ nI 41 ≤ x1 → ¬ x2 < 0 → ¬ nI 4 ≤ x2 → A := by
    intro A a3 a4 a5 a6
    rcases hb with e | e | e | e
    · exact absurd e a3
    · exact absurd e a4
    · exact absurd e a5
    · exact absurd e a6
  exact k_RS_stored_0 (fun _ => hq) (fun _ _ => hq) (fun _ _ _ => hq) (fun _ _ _ _ => hq) (fun a3 a4 a5 a6 => g a3 a4 a5 a6) (fun a3 a4 a5 a6 => g a3 a4 a5 a6)
theorem c_stored_yes {s w : Nat} (D : DC d n es ew h) (hs : s < 41) (hw4 : w < 4) (hq : Q (some (d (4 * s + w))) h) : MC l E M_RS_stored [.inr 0, .inl (nI s), .inl (nI w)] h Q := by
  have ei : nI s * nI 4 + nI w = nI (4 * s + w) := by rw [pk_mul, nI_add, show s * 4 + w = 4 * s + w by omega]
  refine k_RS_stored_0 (fun c => absurd c (nnn (by omega))) (fun _ c => absurd c (nI_ge hs (by decide))) (fun _ _ c => absurd c (nnn (by omega))) (fun _ _ _ c => absurd c (nI_ge hw4 (by decide))) (fun _ _ _ _ => by rw [ei]; exact vp_in_nI (by omega) (by decide)) (fun _ _ _ _ => ?_)
  rw [ei, nI_clamp (by omega), D.2.2.1 _ (by omega)]
  exact hq
/-- changed: its answer -/
def chg (kd pd : Nat → Nat) (b : Nat) : Nat := kd b + 4 * pd b
theorem c_changed_no {x1 : Int32} (V : VC up num nx us kd rn pd pw h) (hu : up = 0 ∨ up = 1) (hb : up = 0 ∨ x1 < 0 ∨ nI 16 ≤ x1) (hq : Q (some (-1)) h) : MC l E M_RS_changed [.inr 0, .inl x1] h Q := by
  have g : ∀ {A : Prop}, ¬ h 0 6 = 0 → ¬ x1 < 0 → ¬ nI 16 ≤ x1 → A := by
    intro A a1 a3 a4
    have hup := up1 V.1 hu a1
    rcases hb with e | e | e
    · omega
    · exact absurd e a3
    · exact absurd e a4
  exact k_RS_changed_0 (fun _ => hq) (fun _ _ => hq) (fun _ _ _ => hq) (fun a b c => g a b c) (fun a b c => g a b c) (fun a b c _ _ => g a b c) (fun a b c _ _ => g a b c) (fun a b c _ _ _ => g a b c) (fun a b c _ _ _ => g a b c) (fun a b c _ _ => g a b c) (fun a b c _ _ => g a b c) (fun a b c _ _ _ => g a b c) (fun a b c _ _ _ => g a b c) (fun a b c _ => g a b c) (fun a b c _ => g a b c) (fun a b c _ _ => g a b c) (fun a b c _ _ => g a b c)
theorem c_changed_yes {b : Nat} (V : VC up num nx us kd rn pd pw h) (hup : up = 1) (hb : b < 16) (hp : pd b ≤ 1) (hkd : kd b ≤ 2) (hq : Q (some (nI (chg kd pd b))) h) : MC l E M_RS_changed [.inr 0, .inl (nI b)] h Q := by
  obtain ⟨v6, hv⟩ := id V
  obtain ⟨a8, a9, a10, h7, h2, h3, h11, h12, h13, h14⟩ := hv hup
  have u0 : ¬ h 0 6 = 0 := by rw [v6, hup]; decide +kernel
  have p1 : ¬ nI b < 0 := nnn (by omega)
  have p2 : ¬ nI 16 ≤ nI b := nI_ge hb (by decide)
  have i16 : vp_in (nI b) 16 := vp_in_nI hb (by decide)
  have eb : (nI b).toNatClampNeg = b := nI_clamp (by omega)
  have z11 : h 11 ((nI b).toNatClampNeg) = nI (if kd b = 1 then 1 else 0) := by rw [eb, h11 b hb]
  have z13 : h 13 ((nI b).toNatClampNeg) = nI (pd b) := by rw [eb, h13 b hb]
  have bb : (ushr (h 0 7) (nI b)) &&& nI 1 = nI 1 ↔ kd b = 2 := by
    rw [bush (by omega), h7 b (by omega)]
    simp [hb]
  have q13 : h 13 ((nI b).toNatClampNeg) = 0 ∨ h 13 ((nI b).toNatClampNeg) = 1 := by rw [z13]; exact b01 hp
  have fin : ∀ a c : Nat, a = kd b → c = 4 * pd b → Q (some (nI a + nI c)) h := by
    intro a c e1 e2
    rw [nI_add, e1, e2]
    exact hq
  refine k_RS_changed_0 (fun c => absurd c u0) (fun _ c => absurd c p1) (fun _ _ c => absurd c p2) (fun _ _ _ => i16) (fun _ _ _ => by rw [z11]; exact k01) (fun _ _ _ _ _ => i16) (fun _ _ _ _ _ => q13) (fun _ _ _ c1 c2 c3 => ?_) (fun _ _ _ c1 c2 c3 => ?_) (fun _ _ _ _ _ => i16) (fun _ _ _ _ _ => q13) (fun _ _ _ c1 c2 c3 => ?_) (fun _ _ _ c1 c2 c3 => ?_) (fun _ _ _ _ => i16) (fun _ _ _ _ => q13) (fun _ _ _ c1 c3 => ?_) (fun _ _ _ c1 c3 => ?_)
  all_goals rw [z11, k0] at c1
  all_goals rw [z13, p0 hp] at c3
  · have c2 : ¬ kd b = 2 := fun z => c2 (bb.mpr z)
    exact fin 0 0 (by omega) (by omega)
  · have c2 : ¬ kd b = 2 := fun z => c2 (bb.mpr z)
    exact fin 0 4 (by omega) (by omega)
  · have c2 := bb.mp c2
    exact fin 2 0 (by omega) (by omega)
  · have c2 := bb.mp c2
    exact fin 2 4 (by omega) (by omega)
  · exact fin 1 0 (by omega) (by omega)
  · exact fin 1 4 (by omega) (by omega)
end VOLC2
