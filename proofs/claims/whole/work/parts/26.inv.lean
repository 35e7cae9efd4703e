/-! THE INVARIANTS of the pure device -/
/-- every number that stands in a head sector is at most m -/
def HB (m : Nat) (σ : xD) : Prop := (∃ a, a ≤ m ∧ σ.1 65 = nI a) ∧ ∀ k, k < σ.2.1 → σ.2.2.1 k = 16 → ∃ a, a ≤ m ∧ σ.2.2.2 (4 * k + 1) = nI a
theorem HB.mono {m m' : Nat} {σ : xD} (H : HB m σ) (e : m ≤ m') : HB m' σ := by
  obtain ⟨⟨a, h1, h2⟩, h3⟩ := H
  refine ⟨⟨a, by omega, h2⟩, fun k hk e => ?_⟩
  obtain ⟨a, h4, h5⟩ := h3 k hk e
  exact ⟨a, by omega, h5⟩
theorem HB.vs {m : Nat} {σ : xD} (H : HB m σ) : ∃ a, a ≤ m ∧ vs σ 16 1 = nI a := by
  obtain ⟨h1, h3⟩ := H
  obtain ⟨d, n, es, ew⟩ := σ
  show ∃ a, a ≤ m ∧ vw d es ew 16 1 n = nI a
  replace h1 : ∃ a, a ≤ m ∧ d 65 = nI a := h1
  replace h3 : ∀ k, k < n → es k = 16 → ∃ a, a ≤ m ∧ ew (4 * k + 1) = nI a := h3
  induction n with
  | zero => exact h1
  | succ n ih =>
    unfold vw
    by_cases c : es n = 16
    · rw [if_pos c]; exact h3 n (by omega) c
    · rw [if_neg c]; exact ih (fun k hk => h3 k (by omega))
theorem HB_st {m s j t : Nat} {d f : Nat → Int32} (h1 : ∃ a, a ≤ m ∧ d 65 = nI a) (h2 : s = 16 → ∃ a, a ≤ m ∧ f 1 = nI a) (ht : t ≤ 4) : ∃ a, a ≤ m ∧ st4 d s f t 65 = nI a := by
  unfold st4
  by_cases c : 4 * s ≤ 65 ∧ 65 < 4 * s + t
  · rw [if_pos c, show 65 - 4 * s = 1 by omega]; exact h2 (by omega)
  · rw [if_neg c]; exact h1
theorem HB_fl {m n : Nat} {d : Nat → Int32} {es : Nat → Nat} {ew : Nat → Int32} (H : HB m (d, n, es, ew)) : HB m (fl d es ew n, 0, es, ew) := by
  obtain ⟨h1, h3⟩ := H
  refine ⟨?_, fun k hk => absurd hk (Nat.not_lt_zero _)⟩
  show ∃ a, a ≤ m ∧ fl d es ew n 65 = nI a
  replace h1 : ∃ a, a ≤ m ∧ d 65 = nI a := h1
  replace h3 : ∀ k, k < n → es k = 16 → ∃ a, a ≤ m ∧ ew (4 * k + 1) = nI a := h3
  induction n with
  | zero => exact h1
  | succ n ih => exact HB_st (j := 0) (ih (fun k hk => h3 k (by omega))) (fun e => h3 n (by omega) e) (Nat.le_refl 4)
theorem HB_cr {m n t w : Nat} {mask : Int32} {d : Nat → Int32} {es : Nat → Nat} {ew : Nat → Int32} (hw4 : w ≤ 4) (H : HB m (d, n, es, ew)) : HB m (cr d es ew mask t w n, 0, es, ew) := by
  obtain ⟨h1, h3⟩ := H
  refine ⟨?_, fun k hk => absurd hk (Nat.not_lt_zero _)⟩
  show ∃ a, a ≤ m ∧ cr d es ew mask t w n 65 = nI a
  replace h1 : ∃ a, a ≤ m ∧ d 65 = nI a := h1
  replace h3 : ∀ k, k < n → es k = 16 → ∃ a, a ≤ m ∧ ew (4 * k + 1) = nI a := h3
  induction n with
  | zero => exact h1
  | succ n ih =>
    have ih := ih (fun k hk => h3 k (by omega))
    unfold cr
    by_cases c : ushr mask (nI n) &&& nI 1 = nI 1
    · rw [if_pos c]
      refine HB_st (j := 0) ih (fun e => h3 n (by omega) e) ?_
      split <;> omega
    · rw [if_neg c]; exact ih
theorem HB_wr {m n s : Nat} {d : Nat → Int32} {es : Nat → Nat} {ew f : Nat → Int32} (H : HB m (d, n, es, ew)) (hf : s = 16 → ∃ a, a ≤ m ∧ f 1 = nI a) : HB m (d, n + 1, esw es n s, eww ew n f) := by
  obtain ⟨h1, h3⟩ := H
  refine ⟨h1, fun k hk e => ?_⟩
  have hk : k < n + 1 := hk
  have e : (if k = n then s else es k) = 16 := e
  show ∃ a, a ≤ m ∧ (if 4 * n ≤ 4 * k + 1 then f (4 * k + 1 - 4 * n) else ew (4 * k + 1)) = nI a
  by_cases c : k = n
  · rw [if_pos c] at e
    rw [if_pos (by omega), show 4 * k + 1 - 4 * n = 1 by omega]
    exact hf e
  · rw [if_neg c] at e
    rw [if_neg (by omega)]
    exact h3 k (show k < n by omega) e
theorem HB_ac {m tot k : Nat} {pt : Nat → Nat} {pq : Nat → Int32} {σ : xD} (H : HB m σ) (hp : ¬ (k = tot - 3 ∨ k = tot - 1) → pt k = 16 → ∃ a, a ≤ m ∧ pq (4 * k + 1) = nI a) : HB m (ac tot pt pq k σ) := by
  unfold ac
  by_cases c : k = tot - 3 ∨ k = tot - 1
  · rw [if_pos c]; exact HB_fl H
  · rw [if_neg c]; exact HB_wr H (fun e => hp c e)
/-! the view -/
theorem vw_cong {d : Nat → Int32} {es es' : Nat → Nat} {ew ew' : Nat → Int32} {s w : Nat} (hw4 : w < 4) : ∀ n, (∀ k, k < n → es k = es' k) → (∀ i, i < 4 * n → ew i = ew' i) → vw d es ew s w n = vw d es' ew' s w n
  | 0, _, _ => rfl
  | n + 1, h1, h2 => by
    unfold vw
    rw [h1 n (by omega), h2 (4 * n + w) (by omega), vw_cong hw4 n (fun k hk => h1 k (by omega)) (fun i hi => h2 i (by omega))]
theorem vw_fl {d : Nat → Int32} {es : Nat → Nat} {ew : Nat → Int32} {s w : Nat} (hw4 : w < 4) : ∀ n, fl d es ew n (4 * s + w) = vw d es ew s w n
  | 0 => rfl
  | n + 1 => by
    show st4 (fl d es ew n) (es n) (fun j => ew (4 * n + j)) 4 (4 * s + w) = if es n = s then ew (4 * n + w) else vw d es ew s w n
    unfold st4
    by_cases c : es n = s
    · rw [if_pos (by omega), if_pos c, show 4 * s + w - 4 * es n = w by omega]
    · rw [if_neg (by omega), if_neg c]; exact vw_fl hw4 n
theorem vs_ac {tot k : Nat} {pt : Nat → Nat} {pq : Nat → Int32} {σ : xD} {s w : Nat} (hw4 : w < 4) : vs (ac tot pt pq k σ) s w = if ¬ (k = tot - 3 ∨ k = tot - 1) ∧ pt k = s then pq (4 * k + w) else vs σ s w := by
  unfold ac
  by_cases c : k = tot - 3 ∨ k = tot - 1
  · rw [if_pos c, if_neg (fun z => z.1 c)]
    exact vw_fl hw4 _
  · rw [if_neg c]
    show (if esw σ.2.2.1 σ.2.1 (pt k) σ.2.1 = s then eww σ.2.2.2 σ.2.1 (fun j => pq (4 * k + j)) (4 * σ.2.1 + w) else vw σ.1 (esw σ.2.2.1 σ.2.1 (pt k)) (eww σ.2.2.2 σ.2.1 (fun j => pq (4 * k + j))) s w σ.2.1) = _
    have e1 : esw σ.2.2.1 σ.2.1 (pt k) σ.2.1 = pt k := by unfold esw; rw [if_pos rfl]
    have e2 : eww σ.2.2.2 σ.2.1 (fun j => pq (4 * k + j)) (4 * σ.2.1 + w) = pq (4 * k + w) := by unfold eww; rw [if_pos (by omega), show 4 * σ.2.1 + w - 4 * σ.2.1 = w by omega]
    have e3 : vw σ.1 (esw σ.2.2.1 σ.2.1 (pt k)) (eww σ.2.2.2 σ.2.1 (fun j => pq (4 * k + j))) s w σ.2.1 = vs σ s w := by
      refine vw_cong hw4 _ (fun i hi => ?_) (fun i hi => ?_)
      · unfold esw; rw [if_neg (by omega)]
      · unfold eww; rw [if_neg (by omega)]
    rw [e1, e2, e3]
    by_cases c2 : pt k = s
    · rw [if_pos c2, if_pos ⟨c, c2⟩]
    · rw [if_neg c2, if_neg (fun z => c2 z.2)]
/-- the view that a recovery's plan came from, and the head that it leaves -/
def OK4 (L : Nat → Nat → Int32) (p0 q0 k : Nat) (σ : xD) : Prop :=
  (k ≤ (RL L q0).length + 1 → (∀ a w, w < 4 → LG (vs σ) a w = L a w) ∧ hP (vs σ) = p0 ∧ hQ (vs σ) = q0) ∧
  ((RL L q0).length + 1 < k → vs σ 16 1 = nI (q0 + NV L q0) ∧ vs σ 16 2 = nI ((p0 + stt L q0 (NV L q0)) % 24))
theorem hP_cong {v v' : Nat → Nat → Int32} (h : ∀ w, w < 4 → v' 16 w = v 16 w) : hP v' = hP v ∧ hQ v' = hQ v := by
  have e : hgood v' ↔ hgood v := by unfold hgood; rw [h 0 (by omega), h 2 (by omega)]
  unfold hP hQ
  by_cases c : hgood v
  · rw [if_pos c, if_pos c, if_pos (e.mpr c), if_pos (e.mpr c), h 1 (by omega), h 2 (by omega)]
    exact ⟨rfl, rfl⟩
  · rw [if_neg c, if_neg c, if_neg (fun z => c (e.mp z)), if_neg (fun z => c (e.mp z))]
    exact ⟨rfl, rfl⟩
theorem OK4_ac {L : Nat → Nat → Int32} {p0 q0 k : Nat} {σ : xD} (hk : k < (RL L q0).length + 3) (H : OK4 L p0 q0 k σ) : OK4 L p0 q0 (k + 1) (ac ((RL L q0).length + 3) (pt4 L q0) (pq4 L p0 q0) k σ) := by
  refine ⟨fun c => ?_, fun c => ?_⟩
  · obtain ⟨h1, h2, h3⟩ := H.1 (by omega)
    have hv : ∀ s, 16 ≤ s → ∀ w, w < 4 → vs (ac ((RL L q0).length + 3) (pt4 L q0) (pq4 L p0 q0) k σ) s w = vs σ s w := by
      intro s hs w hw4
      rw [vs_ac hw4, if_neg]
      intro z
      have z2 := z.2
      unfold pt4 at z2
      rw [if_neg (by omega)] at z2
      have := bk_lt L ((RL L q0).getD k (0, 0, 0))
      omega
    have hp := hP_cong (v := vs σ) (v' := vs (ac ((RL L q0).length + 3) (pt4 L q0) (pq4 L p0 q0) k σ)) (fun w hw4 => hv 16 (Nat.le_refl 16) w hw4)
    refine ⟨fun a w hw4 => ?_, by rw [hp.1]; exact h2, by rw [hp.2]; exact h3⟩
    rw [← h1 a w hw4]
    unfold LG
    rw [hp.1]
    exact hv _ (by omega) w hw4
  · rcases Nat.lt_or_ge ((RL L q0).length + 1) k with q | q
    · obtain ⟨h1, h2⟩ := H.2 q
      have c2 : k = (RL L q0).length + 3 - 1 := by omega
      rw [vs_ac (by omega), vs_ac (by omega), if_neg (fun z => z.1 (Or.inr c2)), if_neg (fun z => z.1 (Or.inr c2))]
      exact ⟨h1, h2⟩
    · have c2 : k = (RL L q0).length + 1 := by omega
      have e : pt4 L q0 k = 16 := by unfold pt4; rw [if_pos c2]
      rw [vs_ac (by omega), vs_ac (by omega), if_pos ⟨by omega, e⟩, if_pos ⟨by omega, e⟩]
      unfold pq4
      rw [show (4 * k + 1) / 4 = (RL L q0).length + 1 by omega, show (4 * k + 1) % 4 = 1 by omega, show (4 * k + 2) / 4 = (RL L q0).length + 1 by omega, show (4 * k + 2) % 4 = 2 by omega, if_pos rfl, if_pos rfl]
      exact ⟨rfl, rfl⟩
/-! THE RELATION that the law's loop keeps -/
def Com (m : Nat) (σ : xD) (up num nx us : Nat) (kd : Nat → Nat) (rn : Nat → Int32) (pd : Nat → Nat) (pw : Nat → Int32) (h : xh) : Prop :=
  DCt σ h ∧ DMt σ h ∧ VC up num nx us kd rn pd pw h ∧ VM up num nx us kd rn pd pw h ∧ vi up num nx us kd pd ∧ HB m σ ∧ (up = 1 → num ≤ m) ∧ 1 ≤ m
def Jn (σ : xD) (up : Nat) (h : xh) : Prop := J0 h ∧ h 7 12 = 0 ∧ (up = 1 → σ.2.1 ≤ 12) ∧ (up = 0 → σ.2.1 = 0)
def J2 (σ : xD) (up num nx us : Nat) (kd : Nat → Nat) (rn : Nat → Int32) (h : xh) : Prop :=
  up = 1 ∧ us + (rl1 kd + 1) ≤ 23 ∧ h 4 2 = nI (rl1 kd + 1) ∧ ∃ dn, dn < rl1 kd + 3 ∧ bnd 12 (rl1 kd + 3) dn σ ∧ JR 2 dn (rl1 kd + 3) (pt2 kd nx) (pq2 kd rn num) h ∧ JM 2 dn (rl1 kd + 3) h
def J3 (σ : xD) (up num nx : Nat) (pd : Nat → Nat) (pw : Nat → Int32) (h : xh) : Prop :=
  up = 1 ∧ ∃ dn, dn < cnt pd 1 16 + 3 ∧ bnd 12 (cnt pd 1 16 + 3) dn σ ∧ JR 3 dn (cnt pd 1 16 + 3) (pt3 pd) (pq3 pd pw num nx) h ∧ JM 3 dn (cnt pd 1 16 + 3) h
def J4 (m : Nat) (σ : xD) (up : Nat) (h : xh) : Prop :=
  up = 0 ∧ ∃ L p0 q0, p0 < 24 ∧ q0 + NV L q0 ≤ m ∧ h 5 6 = nI p0 ∧ h 5 7 = nI (q0 + NV L q0) ∧ h 5 8 = nI (stt L q0 (NV L q0)) ∧ ∃ dn, dn < (RL L q0).length + 3 ∧ bnd 0 ((RL L q0).length + 3) dn σ ∧ OK4 L p0 q0 dn σ ∧ JR 4 dn ((RL L q0).length + 3) (pt4 L q0) (pq4 L p0 q0) h ∧ JM 4 dn ((RL L q0).length + 3) h
def Rel (m : Nat) (h : xh) : Prop := ∃ (σ : xD) (up num nx us : Nat) (kd : Nat → Nat) (rn : Nat → Int32) (pd : Nat → Nat) (pw : Nat → Int32), Com m σ up num nx us kd rn pd pw h ∧ (Jn σ up h ∨ J2 σ up num nx us kd rn h ∨ J3 σ up num nx pd pw h ∨ J4 m σ up h)
theorem Rel.mono {m m' : Nat} {h : xh} (R : Rel m h) (e : m ≤ m') : Rel m' h := by
  obtain ⟨σ, up, num, nx, us, kd, rn, pd, pw, ⟨C1, C2, C3, C4, C5, C6, C7, C8⟩, J⟩ := R
  refine ⟨σ, up, num, nx, us, kd, rn, pd, pw, ⟨C1, C2, C3, C4, C5, C6.mono e, fun u => Nat.le_trans (C7 u) e, by omega⟩, ?_⟩
  rcases J with J | J | J | ⟨u, L, p0, q0, a, b, c⟩
  · exact Or.inl J
  · exact Or.inr (Or.inl J)
  · exact Or.inr (Or.inr (Or.inl J))
  · exact Or.inr (Or.inr (Or.inr ⟨u, L, p0, q0, a, by omega, c⟩))
/-- both sides have the same job number -/
theorem Rel.job {m : Nat} {h : xh} (R : Rel m h) : h 6 2 = h 7 12 := by
  obtain ⟨σ, up, num, nx, us, kd, rn, pd, pw, -, J⟩ := R
  rcases J with J | ⟨-, -, -, dn, -, -, J, M⟩ | ⟨-, dn, -, -, J, M⟩ | ⟨-, L, p0, q0, -, -, -, -, -, dn, -, -, -, J, M⟩
  · rw [J.1.1, J.2.1]
  · rw [J.1, M.1]
  · rw [J.1, M.1]
  · rw [J.1, M.1]
