/-! RECOVERY in the reference: the replay and its actions -/
/-- what was found of the image that is wanted -/
def fnd (L : Nat → Nat → Int32) (Y : List xI3) (wt x16 : Int32) (f32 : Nat → Int32) : Prop := ∀ k, k < 24 → wt = nI k → k < Y.length → x16 = nI (bk L (Y.getD k (0, 0, 0))) ∧ ∀ w, w < 4 → f32 w = iw L (Y.getD k (0, 0, 0)) w
theorem pgI_eq {L : Nat → Nat → Int32} {q f a : Nat} (g : gok L q a) : pgI L q (f + 1) a = (List.range (cn L a)).map (fun j => (a, j)) ++ pgI L q f (a + (1 + cn L a)) := by
  show (if gok L q a then _ else _) = _
  rw [if_pos g]
theorem pgA_y {L : Nat → Nat → Int32} {q f a : Nat} (g : gok L q a) : pgA L q (f + 1) a = pgA L q f (a + (1 + cn L a)) := by
  show (if gok L q a then _ else _) = _
  rw [if_pos g]
theorem pgA_n {L : Nat → Nat → Int32} {q f a : Nat} (g : ¬ gok L q a) : pgA L q (f + 1) a = a := by
  show (if gok L q a then _ else _) = _
  rw [if_neg g]
theorem pgI_no {L : Nat → Nat → Int32} {q a : Nat} (g : ¬ gok L q a) : ∀ f, pgI L q f a = []
  | 0 => rfl
  | f + 1 => by
    show (if gok L q a then _ else _) = _
    rw [if_neg g]
theorem flt_y {X : List xI3} {x : xI3} {p : xI3 → Bool} (c : p x = true) : (X ++ [x]).filter p = X.filter p ++ [x] := by
  rw [List.filter_append]; congr 1; simp [c]
theorem flt_n {X : List xI3} {x : xI3} {p : xI3 → Bool} (c : ¬ p x = true) : (X ++ [x]).filter p = X.filter p := by
  rw [List.filter_append]; simp [c]
section RMR
variable {l : Launch} {E : xE} {h : xh} {Q : Option Int32 → xh → Prop} {σ : xD} {L : Nat → Nat → Int32} {p0 q0 : Nat} {wt : Int32}
/-- the loop over the images of a group -/
theorem m_group {t a : Nat} {X : List xI3} (ha : a + cn L a < 24) (hc : cn L a ≤ 4) (hq0 : q0 < 2 ^ 29) (ht : t < 24) (hX : X.length ≤ 24) (hcn : X.length + cn L a ≤ 24) : ∀ (jj j : Nat) (h : xh), j + jj = cn L a → ML σ L p0 h → RV L q0 (NV L q0) (h 33) (h 34) → fnd L ((X ++ (List.range j).map (fun i => (a, i, t))).filter (kpr L q0)) wt (h 7 16) (h 32) →
    (∀ h', fr (pm [32] [16]) h h' → fnd L ((X ++ (List.range (cn L a)).map (fun i => (a, i, t))).filter (kpr L q0)) wt (h' 7 16) (h' 32) → WP l E M_MD_replay 14 [(0, .inr 7), (1, .inl wt), (2, .inl (nI ((X ++ (List.range (cn L a)).map (fun i => (a, i, t))).filter (kpr L q0)).length)), (3, .inl (nI (a + (1 + cn L a)))), (4, .inl (nI (q0 + t)))] [] h' Q) →
    WP l E M_MD_replay 43 [(0, .inr 7), (1, .inl wt), (2, .inl (nI ((X ++ (List.range j).map (fun i => (a, i, t))).filter (kpr L q0)).length)), (3, .inl (nI a)), (4, .inl (nI (q0 + t))), (5, .inl (L a 3)), (6, .inl (nI j))] [] h Q := by
  have hnv := NV_le (L := L) (q0 := q0)
  intro jj
  induction jj with
  | zero =>
    intro j h hj M R F hq
    have ej : j = cn L a := by omega
    subst ej
    have c0 : (L a 3 &&& nI 7) ≤ nI (cn L a) := by rw [cn_and]; exact nI_le (Nat.le_refl _) (by omega)
    refine k_MD_replay_43 (fun _ => ?_) (fun c => absurd c0 c) (fun c => absurd c0 c) (fun c => absurd c0 c) (fun c => absurd c0 c) (fun c => absurd c0 c) (fun c => absurd c0 c) (fun c => absurd c0 c) (fun c => absurd c0 c) (fun c => absurd c0 c)
    rw [cn_and, nI_add, nI_add, show a + 1 + cn L a = a + (1 + cn L a) by omega]
    exact hq h fr.rf F
  | succ jj ih =>
    intro j h hj M R F hq
    have c0 : ¬ (L a 3 &&& nI 7) ≤ nI j := by rw [cn_and]; exact nI_ge (by omega) (by omega)
    have hlen : ((X ++ (List.range j).map (fun i => (a, i, t))).filter (kpr L q0)).length ≤ X.length + j := Nat.le_trans (List.length_filter_le _ _) (by rw [List.length_append, List.length_map, List.length_range]; omega)
    have eap : X ++ (List.range (j + 1)).map (fun i => (a, i, t)) = (X ++ (List.range j).map (fun i => (a, i, t))) ++ [(a, j, t)] := by rw [List.range_succ, List.map_append, List.append_assoc]; rfl
    generalize hY : X ++ (List.range j).map (fun i => (a, i, t)) = Y at *
    have e35 : nI 3 + nI 5 * nI j = nI (3 + 5 * j) := by rw [pk_mul, nI_add]
    have e75 : nI 7 + nI 5 * nI j = nI (7 + 5 * j) := by rw [pk_mul, nI_add]
    have eb : ushr (L a 3) (nI 3 + nI 5 * nI j) &&& nI 15 = nI (bk L (a, j, t)) := by rw [e35]; exact bk_and L (a, j, t)
    have hb := bk_lt L (a, j, t)
    have ecl : (nI (bk L (a, j, t))).toNatClampNeg = bk L (a, j, t) := nI_clamp (by omega)
    have i16 : vp_in (ushr (L a 3) (nI 3 + nI 5 * nI j) &&& nI 15) 16 := by rw [eb]; exact vp_in_nI hb (by decide)
    obtain ⟨r34, r33⟩ := R _ hb
    have hrv := rvk_le (L := L) (q0 := q0) (b := bk L (a, j, t)) (NV L q0)
    have z34 : h 34 ((ushr (L a 3) (nI 3 + nI 5 * nI j) &&& nI 15).toNatClampNeg) = nI (if rvk L q0 (bk L (a, j, t)) (NV L q0) = 0 then 0 else 1) := by rw [eb, ecl]; exact r34
    have z33 : h 33 ((ushr (L a 3) (nI 3 + nI 5 * nI j) &&& nI 15).toNatClampNeg) = h 33 (bk L (a, j, t)) := by rw [eb, ecl]
    have hk0 : h 34 ((ushr (L a 3) (nI 3 + nI 5 * nI j) &&& nI 15).toNatClampNeg) = 0 → kpr L q0 (a, j, t) = true := fun z => by
      rw [z34] at z
      have : rvk L q0 (bk L (a, j, t)) (NV L q0) = 0 := Classical.byContradiction (fun y => by rw [if_neg y] at z; exact absurd z (by decide +kernel))
      unfold kpr
      rw [decide_eq_true_eq, this]
      omega
    have hk1 : ¬ h 34 ((ushr (L a 3) (nI 3 + nI 5 * nI j) &&& nI 15).toNatClampNeg) = 0 → ¬ nI (q0 + t) < h 33 ((ushr (L a 3) (nI 3 + nI 5 * nI j) &&& nI 15).toNatClampNeg) → kpr L q0 (a, j, t) = true := fun z y => by
      rw [z34] at z
      have e : rvk L q0 (bk L (a, j, t)) (NV L q0) ≠ 0 := fun y => by rw [if_pos y] at z; exact z nI_0
      rw [z33, r33 e] at y
      have y := nnlt y (by omega)
      unfold kpr
      rw [decide_eq_true_eq]
      show _ ≤ t + 1
      omega
    have hk2 : ¬ h 34 ((ushr (L a 3) (nI 3 + nI 5 * nI j) &&& nI 15).toNatClampNeg) = 0 → nI (q0 + t) < h 33 ((ushr (L a 3) (nI 3 + nI 5 * nI j) &&& nI 15).toNatClampNeg) → ¬ kpr L q0 (a, j, t) = true := fun z y => by
      rw [z34] at z
      have e : rvk L q0 (bk L (a, j, t)) (NV L q0) ≠ 0 := fun y => by rw [if_pos y] at z; exact z nI_0
      rw [z33, r33 e] at y
      have y := nlt y (by omega) (by omega)
      unfold kpr
      rw [decide_eq_true_eq]
      show ¬ _ ≤ t + 1
      omega
    -- an image that is kept, and not the wanted one
    have pass : kpr L q0 (a, j, t) = true → nI (Y.filter (kpr L q0)).length ≠ wt → WP l E M_MD_replay 43 [(0, .inr 7), (1, .inl wt), (2, .inl (nI (Y.filter (kpr L q0)).length + nI 1)), (3, .inl (nI a)), (4, .inl (nI (q0 + t))), (5, .inl (L a 3)), (6, .inl (nI j + nI 1))] [] h Q := by
      intro kp ne
      have := ih (j + 1) h (by omega) M R
      rw [eap, flt_y kp, List.length_append] at this
      rw [nI_add, nI_add]
      refine this (fun k hk ek hl => ?_) hq
      rw [List.length_append] at hl
      have hl : k < (Y.filter (kpr L q0)).length + 1 := hl
      have hne : k ≠ (Y.filter (kpr L q0)).length := fun z => ne (by rw [ek, z])
      rw [getD_l (by omega)]
      exact F k hk ek (by omega)
    -- the wanted one
    have take : kpr L q0 (a, j, t) = true → nI (Y.filter (kpr L q0)).length = wt → ∀ (h1 : xh), fr (pm [32] []) h h1 → (∀ w, w < 4 → h1 32 w = iw L (a, j, t) w) → WP l E M_MD_replay 43 [(0, .inr 7), (1, .inl wt), (2, .inl (nI (Y.filter (kpr L q0)).length + nI 1)), (3, .inl (nI a)), (4, .inl (nI (q0 + t))), (5, .inl (L a 3)), (6, .inl (nI j + nI 1))] [] (hw h1 7 16 (nI (bk L (a, j, t)))) Q := by
      intro kp ew h1 f1 y
      have g : fr (pm [32] [16]) h (hw h1 7 16 (nI (bk L (a, j, t)))) := (f1.upm (L' := [32]) (S' := [16]) rfl rfl).hw rfl
      have := ih (j + 1) _ (by omega) (M.fr g rfl rfl (fun _ => rfl) (fun _ => rfl) (fun _ => rfl)) (by rw [g.cell 33 (fun _ => rfl), g.cell 34 (fun _ => rfl)]; exact R)
      rw [eap, flt_y kp, List.length_append] at this
      rw [nI_add, nI_add]
      refine this (fun k hk ek hl => ?_) (fun h2 f2 F2 => hq h2 (g.tr f2) F2)
      have hkl : k = (Y.filter (kpr L q0)).length := (neq (ew.trans ek) (by omega) (by omega)).symm
      rw [hkl, getD_r, hwk, upi, if_pos rfl]
      refine ⟨rfl, fun w hw4 => ?_⟩
      rw [hwa (by decide)]
      exact y w hw4
    have hidb : ((ushr (L a 3) (nI 7 + nI 5 * nI j)) &&& nI 1) = nI 1 ↔ hid L (a, j, t) = true := by rw [e75]; exact bush (by omega)
    have eat : nI a + nI 1 + nI j = nI (a + 1 + j) := by rw [nI_add, nI_add]
    have sayN : kpr L q0 (a, j, t) = true → nI (Y.filter (kpr L q0)).length = wt → ¬ hid L (a, j, t) = true → MC l E M_MD_logWord [.inr 7, .inl ((nI a + nI 1) + nI j), .inl (nI 0)] h (fun r h' => WP l E M_MD_replay 139 [(0, .inr 7), (1, .inl wt), (2, .inl (nI (Y.filter (kpr L q0)).length)), (3, .inl (nI a)), (4, .inl (nI (q0 + t))), (5, .inl (L a 3)), (6, .inl (nI j)), (7, .inl ((ushr (L a 3) (nI 3 + (nI 5 * nI j))) &&& nI 15)), (8, .inl (nI 0))] (rpush r [.inr 7]) h' Q) := by
      intro kp ew hd
      rw [eat]
      refine m_logWord M (by omega) (by omega) ?_
      refine k_MD_replay_139 ?_
      rw [eat]
      refine m_logWord M (by omega) (by omega) ?_
      refine k_MD_replay_150 ?_
      rw [eat]
      refine m_logWord M (by omega) (by omega) ?_
      refine k_MD_replay_161 ?_
      rw [eat]
      refine m_logWord M (by omega) (by omega) ?_
      refine k_MD_replay_172 ?_
      refine m_say (fun h1 f1 b0 b1 b2 b3 => ?_)
      refine k_MD_replay_175 ?_
      rw [eb]
      refine take kp ew h1 f1 (fun w hw4 => ?_)
      unfold iw
      rcases (show w = 0 ∨ w = 1 ∨ w = 2 ∨ w = 3 by omega) with rfl | rfl | rfl | rfl
      · rw [if_pos rfl, if_neg hd]; exact b0
      · exact b1
      · exact b2
      · exact b3
    have sayY : kpr L q0 (a, j, t) = true → nI (Y.filter (kpr L q0)).length = wt → hid L (a, j, t) = true → MC l E M_MD_logWord [.inr 7, .inl ((nI a + nI 1) + nI j), .inl (nI 1)] h (fun r h' => WP l E M_MD_replay 150 [(0, .inr 7), (1, .inl wt), (2, .inl (nI (Y.filter (kpr L q0)).length)), (3, .inl (nI a)), (4, .inl (nI (q0 + t))), (5, .inl (L a 3)), (6, .inl (nI j)), (7, .inl ((ushr (L a 3) (nI 3 + (nI 5 * nI j))) &&& nI 15)), (8, .inl (nI 1))] (rpush r [.inl (nI 77001), .inr 7]) h' Q) := by
      intro kp ew hd
      rw [eat]
      refine m_logWord M (by omega) (by omega) ?_
      refine k_MD_replay_150 ?_
      rw [eat]
      refine m_logWord M (by omega) (by omega) ?_
      refine k_MD_replay_161 ?_
      rw [eat]
      refine m_logWord M (by omega) (by omega) ?_
      refine k_MD_replay_172 ?_
      refine m_say (fun h1 f1 b0 b1 b2 b3 => ?_)
      refine k_MD_replay_175 ?_
      rw [eb]
      refine take kp ew h1 f1 (fun w hw4 => ?_)
      unfold iw
      rcases (show w = 0 ∨ w = 1 ∨ w = 2 ∨ w = 3 by omega) with rfl | rfl | rfl | rfl
      · rw [if_pos rfl, if_pos hd]; exact b0
      · exact b1
      · exact b2
      · exact b3
    refine k_MD_replay_43 (fun c => absurd c c0) (fun _ => i16) (fun _ z y => pass (hk0 z) y) (fun _ z y v => sayN (hk0 z) y (fun w => v (hidb.mpr w))) (fun _ z y v => sayY (hk0 z) y (hidb.mp v)) (fun _ _ => i16) (fun _ z y => ?_) (fun _ z y v => pass (hk1 z y) v) (fun _ z y v u => sayN (hk1 z y) v (fun w => u (hidb.mpr w))) (fun _ z y v u => sayY (hk1 z y) v (hidb.mp u))
    have := ih (j + 1) h (by omega) M R
    rw [eap, flt_n (hk2 z y)] at this
    rw [nI_add]
    exact this F hq
theorem m_replayLoop (hq0 : q0 < 2 ^ 29) : ∀ (n t : Nat) (h : xh), t + n = NV L q0 → ML σ L p0 h → h 7 20 = nI (stt L q0 (NV L q0)) → RV L q0 (NV L q0) (h 33) (h 34) → fnd L ((img L q0 t).filter (kpr L q0)) wt (h 7 16) (h 32) →
    (∀ h', fr (pm [32] [16]) h h' → fnd L (RL L q0) wt (h' 7 16) (h' 32) → Q (some (nI (RL L q0).length)) h') →
    WP l E M_MD_replay 14 [(0, .inr 7), (1, .inl wt), (2, .inl (nI ((img L q0 t).filter (kpr L q0)).length)), (3, .inl (nI (stt L q0 t))), (4, .inl (nI (q0 + t)))] [] h Q := by
  have hnv := NV_le (L := L) (q0 := q0)
  have hok := NV_ok (L := L) (q0 := q0)
  have hsn := stt_le hok.1
  intro n
  induction n with
  | zero =>
    intro t h hn M e20 R F hq
    have et : t = NV L q0 := by omega
    subst et
    refine k_MD_replay_14 (fun _ => hq h fr.rf F) (fun c => absurd (by rw [e20]; exact nI_le (Nat.le_refl _) (by omega)) c)
  | succ n ih =>
    intro t h hn M e20 R F hq
    have hv := hok.1 t (by omega)
    have hlt := tv_lt hv
    have hmo : stt L q0 (t + 1) ≤ stt L q0 (NV L q0) := by
      have := stt_mono (L := L) (q0 := q0) (t := t + 1) n
      rw [show t + 1 + n = NV L q0 by omega] at this
      exact this
    have est : stt L q0 (t + 1) = tA L (q0 + t) (stt L q0 t) + 1 := rfl
    have hst : stt L q0 t ≤ 24 := by
      have := (tA_ge (L := L) (q := q0 + t) (a := stt L q0 t)).1
      omega
    have hge := tA_ge (L := L) (q := q0 + t) (a := stt L q0 t)
    have hil := img_len (L := L) (q0 := q0) (t + 1)
    -- a place of the walk
    have pre : ∀ (a : Nat) (h' : xh) (x2 x4 : Int32), fr (pm [32] [16]) h h' → a ≤ tA L (q0 + t) (stt L q0 t) → ((L a 1 ≠ nI 1 → L a 1 ≠ nI 3 → WP l E M_MD_replay 14 [(0, .inr 7), (1, .inl wt), (2, .inl x2), (3, .inl (nI (a + 1))), (4, .inl x4)] [] h' Q) ∧ (L a 1 = nI 3 → WP l E M_MD_replay 14 [(0, .inr 7), (1, .inl wt), (2, .inl x2), (3, .inl (nI (a + 1))), (4, .inl (x4 + nI 1))] [] h' Q) ∧ (L a 1 = nI 1 → WP l E M_MD_replay 43 [(0, .inr 7), (1, .inl wt), (2, .inl x2), (3, .inl (nI a)), (4, .inl x4), (5, .inl (L a 3)), (6, .inl (nI 0))] [] h' Q)) → WP l E M_MD_replay 14 [(0, .inr 7), (1, .inl wt), (2, .inl x2), (3, .inl (nI a)), (4, .inl x4)] [] h' Q := by
      intro a h' x2 x4 f ha k
      have M' := M.fr f rfl rfl (fun _ => rfl) (fun _ => rfl) (fun _ => rfl)
      have c0 : ¬ h' 7 20 ≤ nI a := by rw [f 7 20 rfl, e20]; exact nI_ge (by omega) (by omega)
      refine k_MD_replay_14 (fun c => absurd c c0) (fun _ => ?_)
      refine m_logWord M' (by omega) (by omega) ?_
      refine k_MD_replay_28 (fun c => ?_) (fun c => ?_)
      · refine m_logWord M' (by omega) (by omega) ?_
        refine k_MD_replay_210 (fun c2 => ?_) (fun c2 => ?_)
        · rw [nI_add]; exact k.1 c c2
        · rw [nI_add]; exact k.2.1 c2
      · refine m_logWord M' (by omega) (by omega) ?_
        refine k_MD_replay_38 ?_
        exact k.2.2 c
    -- behind the groups
    have tail : ∀ (h' : xh), fr (pm [32] [16]) h h' → fnd L ((img L q0 (t + 1)).filter (kpr L q0)) wt (h' 7 16) (h' 32) → WP l E M_MD_replay 14 [(0, .inr 7), (1, .inl wt), (2, .inl (nI ((img L q0 (t + 1)).filter (kpr L q0)).length)), (3, .inl (nI (pgA L (q0 + t) 24 (stt L q0 t)))), (4, .inl (nI (q0 + t)))] [] h' Q := by
      intro h' f F'
      have n13 : ¬ (nI 3 = nI 1) := by decide +kernel
      have n21 : ¬ (nI 2 = nI 1) := by decide +kernel
      have n23 : ¬ (nI 2 = nI 3) := by decide +kernel
      have o3 : L (tA L (q0 + t) (stt L q0 t)) 1 = nI 3 := hv.1.2.2.1
      have fin : WP l E M_MD_replay 14 [(0, .inr 7), (1, .inl wt), (2, .inl (nI ((img L q0 (t + 1)).filter (kpr L q0)).length)), (3, .inl (nI (tA L (q0 + t) (stt L q0 t)))), (4, .inl (nI (q0 + t)))] [] h' Q := by
        refine pre _ h' _ _ f (Nat.le_refl _) ⟨fun _ c => absurd o3 c, fun _ => ?_, fun c => absurd (o3.symm.trans c) n13⟩
        rw [nI_add, ← est]
        exact ih (t + 1) h' (by omega) (M.fr f rfl rfl (fun _ => rfl) (fun _ => rfl) (fun _ => rfl)) (by rw [f 7 20 rfl]; exact e20) (by rw [f.cell 33 (fun _ => rfl), f.cell 34 (fun _ => rfl)]; exact R) F' (fun h2 f2 F2 => hq h2 (f.tr f2) F2)
      by_cases ow : own L (q0 + t) (pgA L (q0 + t) 24 (stt L q0 t)) 2
      · have o2 : L (pgA L (q0 + t) 24 (stt L q0 t)) 1 = nI 2 := ow.2.2.1
        refine pre _ h' _ _ f hge.2 ⟨fun _ _ => ?_, fun c => absurd (o2.symm.trans c) n23, fun c => absurd (o2.symm.trans c) n21⟩
        have e : tA L (q0 + t) (stt L q0 t) = pgA L (q0 + t) 24 (stt L q0 t) + 1 := by unfold tA; rw [if_pos ow]
        rw [← e]
        exact fin
      · have e : tA L (q0 + t) (stt L q0 t) = pgA L (q0 + t) 24 (stt L q0 t) := by unfold tA; rw [if_neg ow]
        rw [← e]
        exact fin
    -- the groups
    have key : ∀ (f a : Nat) (X : List xI3) (h' : xh), pgA L (q0 + t) f a = pgA L (q0 + t) 24 (stt L q0 t) → X ++ (pgI L (q0 + t) f a).map (fun x => (x.1, x.2, t)) = img L q0 (t + 1) → fr (pm [32] [16]) h h' → fnd L (X.filter (kpr L q0)) wt (h' 7 16) (h' 32) → WP l E M_MD_replay 14 [(0, .inr 7), (1, .inl wt), (2, .inl (nI (X.filter (kpr L q0)).length)), (3, .inl (nI a)), (4, .inl (nI (q0 + t)))] [] h' Q := by
      intro f
      induction f with
      | zero =>
        intro a X h' e1 e2 fr' F'
        have e1 : a = pgA L (q0 + t) 24 (stt L q0 t) := e1
        have e2 : X ++ [] = img L q0 (t + 1) := e2
        rw [List.append_nil] at e2
        subst e2
        rw [e1]
        exact tail h' fr' F'
      | succ f ihf =>
        intro a X h' e1 e2 fr' F'
        by_cases g : gok L (q0 + t) a
        · rw [pgA_y g] at e1
          rw [pgI_eq g, List.map_append, List.map_map, ← List.append_assoc] at e2
          have e2 : (X ++ (List.range (cn L a)).map (fun j => (a, j, t))) ++ (pgI L (q0 + t) f (a + (1 + cn L a))).map (fun x => (x.1, x.2, t)) = img L q0 (t + 1) := e2
          have o1 : L a 1 = nI 1 := g.1.2.2.1
          have n13 : ¬ (nI 1 = nI 3) := by decide +kernel
          have g2 := g.2.2.1
          have g3 := g.2.2.2
          have hge2 := pgA_ge (L := L) (q := q0 + t) f (a + (1 + cn L a))
          have hXl : X.length + cn L a ≤ 24 := by
            have := congrArg List.length e2
            rw [List.length_append, List.length_append, List.length_map, List.length_range] at this
            omega
          refine pre a h' _ _ fr' (by omega) ⟨fun c => absurd o1 c, fun c => absurd (o1.symm.trans c) n13, fun _ => ?_⟩
          have := m_group (σ := σ) (p0 := p0) (wt := wt) (l := l) (E := E) (Q := Q) (t := t) (a := a) (X := X) (q0 := q0) g3 g2 hq0 (by omega) (by omega) hXl (cn L a) 0 h' (by omega) (M.fr fr' rfl rfl (fun _ => rfl) (fun _ => rfl) (fun _ => rfl)) (by rw [fr'.cell 33 (fun _ => rfl), fr'.cell 34 (fun _ => rfl)]; exact R)
          simp only [List.range_zero, List.map_nil, List.append_nil] at this
          refine this F' (fun h2 f2 F2 => ?_)
          exact ihf _ _ h2 e1 e2 (fr'.tr f2) F2
        · rw [pgA_n g] at e1
          rw [pgI_no g, List.map_nil, List.append_nil] at e2
          subst e2
          rw [e1]
          exact tail h' fr' F'
    exact key 24 (stt L q0 t) (img L q0 t) h rfl rfl fr.rf F
theorem hQ_lt {m : Nat} (hm : vs σ 16 1 = nI m) (hm2 : m < 2 ^ 29) : hQ (vs σ) < 2 ^ 29 := by
  unfold hQ
  split
  · rw [hm, nI_clamp (by omega)]; exact hm2
  · decide
theorem m_replay {m : Nat} (D : DMt σ h) (hm : vs σ 16 1 = nI m) (hm2 : m < 2 ^ 29) (eL : ∀ a w, w < 4 → LG (vs σ) a w = L a w) (eP : hP (vs σ) = p0) (eQ : hQ (vs σ) = q0) (hq : ∀ h', fr (pm [32, 33, 34] [16, 17, 18, 19, 20]) h h' → fnd L (RL L q0) wt (h' 7 16) (h' 32) → Q (some (nI (RL L q0).length)) h') : MC l E M_MD_replay [.inr 7, .inl wt] h Q := by
  have hq0 : q0 < 2 ^ 29 := by rw [← eQ]; exact hQ_lt hm hm2
  refine k_MD_replay_0 ?_
  refine m_findRevocations D hm hm2 eL eP eQ (fun h1 f1 M1 a18 a19 a20 R1 => ?_)
  refine k_MD_replay_4 ?_
  rw [a18]
  refine m_replayLoop hq0 (NV L q0) 0 h1 (by omega) M1 a20 R1 (fun k _ _ hl => absurd hl (Nat.not_lt_zero _)) (fun h2 f2 F2 => ?_)
  exact hq h2 ((f1.upm rfl rfl).tr (f2.upm rfl rfl)) F2
variable {up num nx us : Nat} {kd : Nat → Nat} {rn : Nat → Int32} {pd : Nat → Nat} {pw : Nat → Int32}
theorem m_recover_no (V : VM up num nx us kd rn pd pw h) (hb : up = 1 ∨ ¬ h 7 12 = 0) (hq : Q (some (-1)) h) : MC l E M_MD_recover [.inr 7] h Q := by
  refine k_MD_recover_0 (fun _ => hq) (fun a1 a2 => ?_) (fun _ _ => hq)
  rcases hb with e | e
  · rw [V.1, e] at a1
    exact absurd a1 (by decide +kernel)
  · exact absurd a2 e
theorem m_recover_yes {m : Nat} (D : DMt σ h) (hm : vs σ 16 1 = nI m) (hm2 : m < 2 ^ 29) (V : VM up num nx us kd rn pd pw h) (hup : up = 0) (hj : h 7 12 = 0)
    (hq : ∀ h', fr (pm [32, 33, 34] [12, 13, 14, 16, 17, 18, 19, 20]) h h' → JM 4 0 ((RL (LG (vs σ)) (hQ (vs σ))).length + 3) h' → Q (some (nI (RL (LG (vs σ)) (hQ (vs σ))).length)) h') : MC l E M_MD_recover [.inr 7] h Q := by
  have u0 : h 7 4 = 0 := by rw [V.1, hup]; exact nI_0
  refine k_MD_recover_0 (fun c => absurd u0 c) (fun _ _ => ?_) (fun _ c => absurd hj c)
  have g0 : fr (pm [] [12, 13]) h (hw (hw h 7 12 (nI 4)) 7 13 (nI 0)) := (fr.rf.hw rfl).hw rfl
  refine m_replay (DM.fr D g0 rfl (fun _ => rfl) (fun _ => rfl) (fun _ => rfl)) hm hm2 (fun _ _ _ => rfl) rfl rfl (fun h1 f1 _ => ?_)
  refine k_MD_recover_32 ?_
  rw [nI_add, nsub (by omega), Nat.add_sub_cancel]
  refine hq _ (((g0.upm (L' := [32, 33, 34]) (S' := [12, 13, 14, 16, 17, 18, 19, 20]) rfl rfl).tr (f1.upm rfl rfl)).hw rfl) ⟨?_, ?_, ?_⟩
  · rw [hwk, upi, if_neg (by decide), f1 7 12 rfl, hwk, upi, if_neg (by decide), hwk, upi, if_pos rfl]
  · rw [hwk, upi, if_neg (by decide), f1 7 13 rfl, hwk, upi, if_pos rfl]
  · rw [hwk, upi, if_pos rfl]
theorem m_act4 {k : Nat} (hk : k < (RL L q0).length + 3) (hb : bnd 0 ((RL L q0).length + 3) k σ) (hv : k ≤ (RL L q0).length + 1 → (∀ a w, w < 4 → LG (vs σ) a w = L a w) ∧ hP (vs σ) = p0 ∧ hQ (vs σ) = q0 ∧ ∃ m, vs σ 16 1 = nI m ∧ m < 2 ^ 29) (J : JM 4 k ((RL L q0).length + 3) h) (D : DMt σ h) (hq : ∀ h2, fr pact h h2 → DMt (ac ((RL L q0).length + 3) (pt4 L q0) (pq4 L p0 q0) k σ) h2 → Q none h2) : MC l E M_MD_recoveryAction [.inr 7, .inl (nI k)] h Q := by
  have hrl := RL_len (L := L) (q0 := q0)
  have e14 : h 7 14 - nI 3 = nI (RL L q0).length := by rw [J.2.2, nsub (by omega)]; congr 1
  -- a sector written
  have wr : ∀ (h1 : xh) (K : xh → Prop), ¬ (k = (RL L q0).length + 3 - 3 ∨ k = (RL L q0).length + 3 - 1) → (∀ w, w < 4 → h1 32 w = pq4 L p0 q0 (4 * k + w)) → ∀ h2, DM σ.1 (σ.2.1 + 1) (esw σ.2.2.1 σ.2.1 (pt4 L q0 k)) (eww σ.2.2.2 σ.2.1 (h1 32)) h2 → DMt (ac ((RL L q0).length + 3) (pt4 L q0) (pq4 L p0 q0) k σ) h2 := by
    intro h1 K c y h2 D2
    unfold ac
    rw [if_neg c]
    obtain ⟨g1, g2, g3, g4, g5⟩ := D2
    refine ⟨g1, g2, g3, g4, fun i hi => ?_⟩
    rw [g5 i hi]
    show eww σ.2.2.2 σ.2.1 (h1 32) i = eww σ.2.2.2 σ.2.1 (fun j => pq4 L p0 q0 (4 * k + j)) i
    unfold eww
    by_cases c3 : 4 * σ.2.1 ≤ i
    · rw [if_pos c3, if_pos c3]
      exact y _ (by have : i < 4 * (σ.2.1 + 1) := hi; omega)
    · rw [if_neg c3, if_neg c3]
  refine k_MD_recoveryAction_0 (fun c c2 => ?_) (fun c c2 => ?_) (fun c => ?_)
  all_goals rw [e14] at c
  · -- a flush
    have c := nle c (by omega) (by omega)
    rw [e14, nI_add] at c2
    have c2 : k ≠ (RL L q0).length + 1 := fun z => c2 (by rw [z])
    refine m_flush D (fun h2 f D2 => ?_)
    refine k_MD_recoveryAction_76 (hq h2 (f.upm rfl rfl) ?_)
    unfold ac
    rw [if_pos (by omega)]
    exact D2
  · -- the head
    rw [e14, nI_add] at c2
    have c2 := neq c2 (by omega) (by omega)
    obtain ⟨eL, eP, eQ, m, hm, hm2⟩ := hv (by omega)
    have hst := stt_le (NV_ok (L := L) (q0 := q0)).1
    refine m_findRevocations D hm hm2 eL eP eQ (fun h1 f1 M1 a18 a19 a20 R1 => ?_)
    refine k_MD_recoveryAction_40 ?_
    have hp := M1.2.2.1
    rw [a19, a20, M1.2.1, nI_add, nrem (by omega)]
    refine m_say (fun h2 f2 b0 b1 b2 b3 => ?_)
    refine k_MD_recoveryAction_63 ?_
    have hn0 : σ.2.1 = 0 := hb.2.2.1 (by omega)
    have f12 : fr (pm [32, 33, 34] [17, 18, 19, 20]) h h2 := (f1.upm rfl rfl).tr (f2.upm rfl rfl)
    refine m_writeOut (DM.fr D f12 rfl (fun _ => rfl) (fun _ => rfl) (fun _ => rfl)) (by omega) (by decide) (fun h3 f3 D3 => ?_)
    refine k_MD_recoveryAction_69 (hq h3 ((f12.upm rfl rfl).tr (f3.upm rfl rfl)) ?_)
    have ept : pt4 L q0 k = 16 := by unfold pt4; rw [if_pos c2]
    refine wr h2 (fun _ => True) (by omega) (fun w hw4 => ?_) h3 (by rw [ept]; exact D3)
    unfold pq4
    rw [show (4 * k + w) / 4 = (RL L q0).length + 1 by omega, show (4 * k + w) % 4 = w by omega, if_pos rfl]
    unfold hdw
    rcases (show w = 0 ∨ w = 1 ∨ w = 2 ∨ w = 3 by omega) with rfl | rfl | rfl | rfl
    · exact b0
    · exact b1
    · exact b2
    · exact b3
  · -- an image
    have c := nnle c (by omega)
    obtain ⟨eL, eP, eQ, m, hm, hm2⟩ := hv (by omega)
    refine m_replay D hm hm2 eL eP eQ (fun h1 f1 F1 => ?_)
    obtain ⟨x1, x2⟩ := F1 k (by omega) rfl c
    refine k_MD_recoveryAction_17 ?_
    rw [x1]
    have hbk := bk_lt L ((RL L q0).getD k (0, 0, 0))
    have hnn : σ.2.1 ≤ 0 + k := hb.1 (by omega)
    refine m_writeOut (DM.fr D f1 rfl (fun _ => rfl) (fun _ => rfl) (fun _ => rfl)) (by omega) (by omega) (fun h2 f2 D2 => ?_)
    refine k_MD_recoveryAction_26 (hq h2 ((f1.upm rfl rfl).tr (f2.upm rfl rfl)) ?_)
    have ept : pt4 L q0 k = bk L ((RL L q0).getD k (0, 0, 0)) := by unfold pt4; rw [if_neg (by omega)]
    refine wr h1 (fun _ => True) (by omega) (fun w hw4 => ?_) h2 (by rw [ept]; exact D2)
    unfold pq4
    rw [show (4 * k + w) / 4 = k by omega, show (4 * k + w) % 4 = w by omega, if_neg (by omega)]
    exact x2 w hw4
end RMR
