/-! THE SMALL MACHINE over the cells of the class alone, by program (wip/whole/gen_z.py): for comeUp, which the constructor calls -/
def lay_z : List xk := [.inl (0, [some 1, some 2, some 3, some 4, some 5, some 6, none, none, none, none, none]), .inl (1, [some 8, some 9, some 10, none]), .inl (2, [some 11, some 12, none]), .inl (2, [some 13, some 14, none]), .inl (3, [some 15, some 16, none, none]), .inl (4, [some 17, some 18, some 19, some 20, some 21, some 22, none, none, none, none, none, none, none]), .inl (5, [some 23, some 7, none, none, none]), .inr (false, 108), .inr (false, 164), .inr (false, 28), .inr (false, 112), .inr (true, 16), .inr (false, 64), .inr (true, 16), .inr (false, 64), .inr (false, 48), .inr (false, 4), .inr (false, 96), .inr (false, 24), .inr (false, 24), .inr (true, 24), .inr (false, 24), .inr (false, 16), .inr (false, 27)]
def wld_z (E : xE) (h : xh) : va_W := xW E h 0 lay_z
theorem wld_get_z {E : xE} {h : xh} {k : Nat} {q : xk} (e : lay_z[k]? = some q) : (wld_z E h)[k]? = some (E.2.1 k, xC E (h k) q) := by
  unfold wld_z
  rw [xW_get, e]
  simp
theorem wld_set_z {E : xE} {h : xh} {k : Nat} {q : xk} {f : Nat → Int32} (e : lay_z[k]? = some q) : (wld_z E h).set k (E.2.1 k, xC E f q) = wld_z E (hu h k f) := by
  unfold wld_z
  have := xW_set (E := E) (h := h) (f := f) lay_z 0 k e
  rw [Nat.zero_add] at this
  exact this
theorem wld_addr_z {E : xE} {h h' : xh} {A : Nat → Prop} (hD : va_D A (wld_z E h)) : va_D A (wld_z E h') := by
  have key : ∀ (k : Nat) (x : Nat × va_E), (wld_z E h')[k]? = some x → ∃ y, (wld_z E h)[k]? = some y ∧ y.1 = x.1 := by
    intro k x hx
    unfold wld_z at hx ⊢
    rw [xW_get] at hx ⊢
    cases hq : lay_z[k]? with
    | none => rw [hq] at hx; cases hx
    | some q =>
      rw [hq] at hx
      cases hx
      exact ⟨_, rfl, rfl⟩
  refine ⟨fun i j x y hi hj hxy => ?_, fun k x hk => ?_⟩
  · obtain ⟨x', h1, h2⟩ := key i x hi
    obtain ⟨y', h3, h4⟩ := key j y hj
    exact hD.1 i j x' y' h1 h3 (h2.trans (hxy.trans h4.symm))
  · obtain ⟨x', h1, h2⟩ := key k x hk
    rw [← h2]
    exact hD.2 k x' h1
def xA_z (E : xE) (sz : Nat) : Nat → Prop := fun q => (∃ k, k < lay_z.length ∧ q = E.2.1 k) ∨ sz ≤ q
theorem xA_of_z {E : xE} {h : xh} {A : Nat → Prop} (hD : va_D A (wld_z E h)) {k : Nat} (hk : k < lay_z.length) : A (E.2.1 k) := by
  have h1 : lay_z[k]? = some lay_z[k] := List.getElem?_eq_getElem hk
  exact hD.2 k _ (wld_get_z h1)
theorem xA_D_z {E : xE} {h : xh} {A : Nat → Prop} {sz : Nat} (hD : va_D A (wld_z E h)) : va_D (xA_z E sz) (wld_z E h) := by
  refine ⟨hD.1, fun k x hk => ?_⟩
  unfold wld_z at hk
  rw [xW_get] at hk
  cases hq : lay_z[k]? with
  | none => rw [hq] at hk; cases hk
  | some q =>
    rw [hq] at hk
    cases hk
    exact Or.inl ⟨k, (List.getElem?_eq_some_iff.mp hq).1, by simp⟩
def xPc_z (E : xE) (sz : Nat) (h : xh) (as : List xv) : Array Value → State → Prop := va_Pc (as.map (xV E)) (fun U => U.heap.size = sz ∧ va_P E.1 vwCl (wld_z E h) U.heap ∧ xK E U ∧ va_D (fun _ => True) (wld_z E h))
def xQc_z (E : xE) (A : Nat → Prop) (Q : Option Int32 → xh → Prop) : Array Value → State → Outcome → State → Prop := fun _ st oc t => (∃ (r : Option Int32) (h' : xh), oc = .returned (r.map Value.int) ∧ Q r h' ∧ va_P E.1 vwCl (wld_z E h') t.heap ∧ va_D A (wld_z E h')) ∧ va_F A st t
def xI_z (E : xE) (A : Nat → Prop) (s : State) (h : xh) (H : Heap) (locs : List Loc) : Prop := va_P E.1 vwCl (wld_z E h) H ∧ va_D A (wld_z E h) ∧ va_S A s.heap H locs
def WP_z (l : Launch) (E : xE) (μ : xM) (pc : Nat) (ls : List (Nat × xv)) (st : List xv) (h : xh) (Q : Option Int32 → xh → Prop) : Prop :=
  ∀ (p : Program) (e : Env) (s : State) (m : MethodId) (args : Array Value) (below : List Frame) (meth : Method) (c : Code) (A : Nat → Prop) (H : Heap) (locs : List Loc) (lsA : Array Slot),
    CX E μ p s m args meth c A → xI_z E A s h H locs → lv_has lsA μ.2.2.1 (xls E ls) →
    W p l e (rmOf μ.2.2.2.2) s m args below meth c H locs 0 0 (MQ below (xQc_z E A Q) args s 0 0 A) (F0 m pc lsA (st.map (xV E)))
section RULES
variable {l : Launch} {E : xE} {μ : xM} {pc : Nat} {ls ls' : List (Nat × xv)} {st : List xv} {h : xh} {Q : Option Int32 → xh → Prop}
theorem wp_iconst_z {n : Int} {v : Int32} (hd : decode μ.2.1 pc = .ok (.iconst n, 1)) (hv : Int32.ofInt n = v) (k : WP_z l E μ (pc + 1) ls (.inl v :: st) h Q) : WP_z l E μ pc ls st h Q := by
  intro p e s m args below meth c A H locs lsA C I hl
  exact lv_iconst C.1 C.2.1 hd hv (k p e s m args below meth c A H locs lsA C I hl)
theorem wp_bipush_z {n : Int} {v : Int32} (hd : decode μ.2.1 pc = .ok (.bipush n, 2)) (hv : (Int8.ofInt n).toInt32 = v) (k : WP_z l E μ (pc + 2) ls (.inl v :: st) h Q) : WP_z l E μ pc ls st h Q := by
  intro p e s m args below meth c A H locs lsA C I hl
  exact lv_bipush C.1 C.2.1 hd hv (k p e s m args below meth c A H locs lsA C I hl)
theorem wp_iload_n_z {k : Fin 4} {x : Int32} (hd : decode μ.2.1 pc = .ok (.iload_n k, 1)) (hg : lget ls k.val = some (.inl x)) (kk : WP_z l E μ (pc + 1) ls (.inl x :: st) h Q) : WP_z l E μ pc ls st h Q := by
  intro p e s m args below meth c A H locs lsA C I hl
  exact lv_iload_n C.1 C.2.1 hd rfl (xls_get hl hg) (kk p e s m args below meth c A H locs lsA C I hl)
theorem wp_istore_n_z {k : Fin 4} {x : Int32} (hd : decode μ.2.1 pc = .ok (.istore_n k, 1)) (hn : k.val < μ.2.2.1) (hs : lset ls k.val (.inl x) = ls') (kk : WP_z l E μ (pc + 1) ls' st h Q) : WP_z l E μ pc ls (.inl x :: st) h Q := by
  intro p e s m args below meth c A H locs lsA C I hl
  exact lv_istore_n C.1 C.2.1 hd rfl hl hn rfl (fun lsB hB => kk p e s m args below meth c A H locs lsB C I (xls_set (v := .inl x) rfl hB hs))
theorem wp_aload_n_z {k : Fin 4} {x : Nat} (hd : decode μ.2.1 pc = .ok (.aload_n k, 1)) (hg : lget ls k.val = some (.inr x)) (kk : WP_z l E μ (pc + 1) ls (.inr x :: st) h Q) : WP_z l E μ pc ls st h Q := by
  intro p e s m args below meth c A H locs lsA C I hl
  exact lv_aload_n C.1 C.2.1 hd rfl (xls_get hl hg) (kk p e s m args below meth c A H locs lsA C I hl)
theorem wp_iinc_z {i : Nat} {n : Int} {x v : Int32} (hd : decode μ.2.1 pc = .ok (.iinc i n, 3)) (hg : lget ls i = some (.inl x)) (hv : x + Int32.ofInt n = v) (hn : i < μ.2.2.1) (hs : lset ls i (.inl v) = ls') (kk : WP_z l E μ (pc + 3) ls' st h Q) : WP_z l E μ pc ls st h Q := by
  intro p e s m args below meth c A H locs lsA C I hl
  obtain ⟨k, hk⟩ := List.getElem?_of_mem (List.mem_map.mpr ⟨(i, .inl x), lget_mem hg, rfl⟩ : (i, xV E (.inl x)) ∈ xls E ls)
  exact lv_iinc C.1 C.2.1 hd hl hk hv hn rfl (fun lsB hB => kk p e s m args below meth c A H locs lsB C I (xls_set (v := .inl v) rfl hB hs))
theorem wp_goto_z {off : Int} {tgt : Nat} (hd : decode μ.2.1 pc = .ok (.goto off, 3)) (ht : (pc : Int) + off = (tgt : Int)) (kk : WP_z l E μ tgt ls st h Q) : WP_z l E μ pc ls st h Q := by
  intro p e s m args below meth c A H locs lsA C I hl
  exact lv_goto C.1 C.2.1 hd ht (kk p e s m args below meth c A H locs lsA C I hl)
theorem wp_ic_ge_z {x y : Int32} {off : Int} {tgt : Nat} (hd : decode μ.2.1 pc = .ok (.if_icmp .ge off, 3)) (ht : (pc : Int) + off = (tgt : Int)) (kt : y ≤ x → WP_z l E μ tgt ls st h Q) (kf : ¬ y ≤ x → WP_z l E μ (pc + 3) ls st h Q) : WP_z l E μ pc ls (.inl y :: .inl x :: st) h Q := by
  intro p e s m args below meth c A H locs lsA C I hl
  exact lv_icmp_ge C.1 C.2.1 hd ht (fun z => kt z p e s m args below meth c A H locs lsA C I hl) (fun z => kf z p e s m args below meth c A H locs lsA C I hl)
theorem wp_return_z (hd : decode μ.2.1 pc = .ok (.return_, 1)) (hr : μ.2.2.2.1 = none) (hq : Q none h) : WP_z l E μ pc ls [] h Q := by
  intro p e s m args below meth c A H locs lsA C I hl
  have hlocks : meth.locks = false := C.2.2.2.2.2.2.1
  exact W.vret C.1 C.2.1 (C.2.2.1.trans hr) (fun t ht hW => ⟨⟨none, h, rfl, hq, by rw [ht]; exact I.1, I.2.1⟩, I.2.2.F ht⟩) I.2.2.2.2 hd hlocks
theorem wp_get_z {idx k ci j : Nat} {ty : FieldType} {fs : List (Option Nat)} {v : xv} (hd : decode μ.2.1 pc = .ok (.getfield idx, 3)) (F : FL μ.1.cls idx ci j ty) (hq : lay_z[k]? = some (.inl (ci, fs))) (hf : (xF E (h k) 0 fs)[j]? = some (xV E v)) (kk : WP_z l E μ (pc + 3) ls (v :: st) h Q) : WP_z l E μ pc ls (.inr k :: st) h Q := by
  intro p e s m args below meth c A H locs lsA C I hl
  obtain ⟨Cn, T, N, ty0, hc, hj, hin, hTC, hpa, hty, hnm, hlink⟩ := F
  have hts := C.2.2.2.2.1
  rcases hlink with hlink | ⟨host, hlink⟩
  · exact va_get (D := E.1) C.1 C.2.1 hts (fun w hw => wM_g (hin w hw)) C.2.2.2.2.2.1 C.2.2.2.2.2.2.2.1.1 I.1 k (wld_get_z hq) hc j hj (hts _ (wM_g hlink)) (fun x hx => by rw [hTC] at hx; exact hx) hf hd (kk p e s m args below meth c A H locs lsA C I hl)
  · exact va_getN (D := E.1) C.1 C.2.1 hts (fun w hw => wM_g (hin w hw)) C.2.2.2.2.2.1 C.2.2.2.2.2.2.2.1.1 I.1 k (wld_get_z hq) hc j hj (va_Nw.use rfl (C.2.2.2.2.2.2.2.1.2 _ hlink)) (fun x hx => by rw [hTC] at hx; exact hx) hf hd (kk p e s m args below meth c A H locs lsA C I hl)
theorem wp_getR_z {idx k ci j r : Nat} {ty : FieldType} {fs : List (Option Nat)} (hd : decode μ.2.1 pc = .ok (.getfield idx, 3)) (F : FL μ.1.cls idx ci j ty) (hq : lay_z[k]? = some (.inl (ci, fs))) (hf : fs[j]? = some (some r)) (kk : WP_z l E μ (pc + 3) ls (.inr r :: st) h Q) : WP_z l E μ pc ls (.inr k :: st) h Q :=
  wp_get_z (v := .inr r) hd F hq (xF_ref fs 0 j hf) kk
theorem wp_put_z {idx k ci j : Nat} {ty : FieldType} {fs : List (Option Nat)} {v : Int32} (hd : decode μ.2.1 pc = .ok (.putfield idx, 3)) (F : FM μ.1.cls idx ci j ty) (hq : lay_z[k]? = some (.inl (ci, fs))) (hf : fs[j]? = some none) (hn : narrow ty (.int v) = .int v) (hfit : fits ty (.int v) = true) (kk : WP_z l E μ (pc + 3) ls st (hw h k j v) Q) : WP_z l E μ pc ls (.inl v :: .inr k :: st) h Q := by
  intro p e s m args below meth c A H locs lsA C I hl
  obtain ⟨⟨Cn, T, N, ty0, hc, hj, hin, hTC, hpa, hty, hnm, hlink⟩, hfin⟩ := F
  have hts := C.2.2.2.2.1
  have hfi : (T j).2.2.2 = false := hfin _ hc
  have hle : j < (xF E (h k) 0 fs).length := by rw [xF_len]; exact (List.getElem?_eq_some_iff.mp hf).1
  have he : (wld_z E h).set k (E.2.1 k, .inr (ci, (xF E (h k) 0 fs).set j (.int v))) = wld_z E (hw h k j v) := by
    rw [xF_set fs 0 j hf, Nat.zero_add, ← hw_eq]
    exact wld_set_z (E := E) (h := h) (f := upd (h k) j v) hq
  rcases hlink with hlink | ⟨host, hlink⟩
  · exact va_put (D := E.1) C.1 C.2.1 hts (fun w hw => wM_g (hin w hw)) ty0 hty hnm C.2.2.2.2.2.1 C.2.2.2.2.2.2.2.1.1 I.1 I.2.1 I.2.2 k (wld_get_z hq) hc j hj (hts _ (wM_g hlink)) (fun x hx => by rw [hTC] at hx; exact hx) hfi hpa hn hfit hle hd (fun H1 locs1 hP1 hD1 hS1 => kk p e s m args below meth c A H1 locs1 lsA C ⟨he ▸ hP1, he ▸ hD1, hS1⟩ hl)
  · exact va_putN (D := E.1) C.1 C.2.1 hts (fun w hw => wM_g (hin w hw)) ty0 hty hnm C.2.2.2.2.2.1 C.2.2.2.2.2.2.2.1.1 I.1 I.2.1 I.2.2 k (wld_get_z hq) hc j hj (va_Nw.use rfl (C.2.2.2.2.2.2.2.1.2 _ hlink)) (fun x hx => by rw [hTC] at hx; exact hx) hfi hpa hn hfit hle hd (fun H1 locs1 hP1 hD1 hS1 => kk p e s m args below meth c A H1 locs1 lsA C ⟨he ▸ hP1, he ▸ hD1, hS1⟩ hl)
theorem wp_putI_z {idx k ci j : Nat} {fs : List (Option Nat)} {v : Int32} (hd : decode μ.2.1 pc = .ok (.putfield idx, 3)) (F : FM μ.1.cls idx ci j .int) (hq : lay_z[k]? = some (.inl (ci, fs))) (hf : fs[j]? = some none) (kk : WP_z l E μ (pc + 3) ls st (hw h k j v) Q) : WP_z l E μ pc ls (.inl v :: .inr k :: st) h Q := wp_put_z hd F hq hf rfl rfl kk
theorem wp_putZ_z {idx k ci j : Nat} {fs : List (Option Nat)} {v : Int32} (hd : decode μ.2.1 pc = .ok (.putfield idx, 3)) (F : FM μ.1.cls idx ci j .boolean) (hq : lay_z[k]? = some (.inl (ci, fs))) (hf : fs[j]? = some none) (hv : v = 0 ∨ v = 1) (kk : WP_z l E μ (pc + 3) ls st (hw h k j v) Q) : WP_z l E μ pc ls (.inl v :: .inr k :: st) h Q := wp_put_z hd F hq hf (by rcases hv with rfl | rfl <;> decide) (by rcases hv with rfl | rfl <;> decide) kk
theorem wp_bastore_z {k n : Nat} {i x : Int32} (hd : decode μ.2.1 pc = .ok (.bastore, 1)) (hq : lay_z[k]? = some (.inr (true, n))) (hin : vp_in i n) (hx : vp_nar .boolean x = x) (kk : WP_z l E μ (pc + 1) ls st (hw h k i.toNatClampNeg x) Q) : WP_z l E μ pc ls (.inl x :: .inl i :: .inr k :: st) h Q := by
  intro p e s m args below meth c A H locs lsA C I hl
  have he := wld_set_z (E := E) (h := h) (f := upd (h k) i.toNatClampNeg x) hq
  rw [hw_eq] at he
  refine va_zast C.1 C.2.1 C.2.2.2.2.2.2.2.1.1 I.1 I.2.1 I.2.2 k 1 (wld_get_z hq) rfl hin hd (fun H1 locs1 hP1 hD1 hS1 => ?_)
  rw [hx] at hP1 hD1
  exact kk p e s m args below meth c A H1 locs1 lsA C ⟨he ▸ hP1, he ▸ hD1, hS1⟩ hl
def MC_z (l : Launch) (E : xE) (μ : xM) (as : List xv) (h : xh) (Q : Option Int32 → xh → Prop) : Prop := WP_z l E μ 0 (ent 0 as) [] h Q
theorem met_of_z {μ : xM} {as : List xv} {h : xh} {Q : Option Int32 → xh → Prop} (sz : Nat) (hy : plainName μ.1.cls = true) (hlen : as.length ≤ μ.2.2.1) (k : MC_z l E μ as h Q) : Met l μ.1 (wM μ) (rmOf μ.2.2.2.2) (xPc_z E sz h as) (xQc_z E (xA_z E sz) Q) 0 0 (xA_z E sz) := by
  refine Met.ofW (cc := μ.2.1) (maxL := μ.2.2.1) (ret := μ.2.2.2.1) hy rfl ?_
  intro p e s m args below meth c s₁ B hml hv
  obtain ⟨rfl, hsz, hP, hK, hD0⟩ := hv
  have hts := atoms_spec (ws := wM μ) B.pre
  have hl := lv_entry (as.map (xV E)) (n := μ.2.2.1) (by rw [lg_sl_len]; exact hlen)
  rw [ent_args] at hl
  rw [lg_entry_eq]
  subst hsz
  exact k p e s m _ below meth c (xA_z E s.heap.size) s.heap [] _ ⟨B.exec, B.bytes, B.returns, hml, hts, findClass_of_methodNamed B.named, B.notSynchronized, hK, fun q h => Or.inr h⟩ ⟨hP, xA_D_z hD0, va_S.rf⟩ hl
theorem xBlind_z {E : xE} {sz : Nat} {h : xh} {as : List xv} : FrameBlind (xPc_z E sz h as) := by
  intro a U g mk q
  obtain ⟨q0, q1, qP, qK, qD⟩ := q
  exact ⟨q0, q1, qP, xK.same (s := U) (U := U.calling g mk a) rfl qK, qD⟩
theorem wp_after_z {E : xE} {A : Nat → Prop} {p : Program} {e : Env} {s : State} {m : MethodId} {args : Array Value} {below : List Frame} {meth : Method} {c : Code} {H : Heap} {locs : List Loc} {lsA : Array Slot} {h : xh} {st0 rest : List xv} {Q' : Option Int32 → xh → Prop} {a : Array Value}
    (C : CX E μ p s m args meth c A) (I : xI_z E A s h H locs) (hl : lv_has lsA μ.2.2.1 (xls E ls))
    (hr : va_Run p l e (rmOf μ.2.2.2.2) s m args below meth c H locs 0 0 0 0 (F0 m pc lsA (st0.map (xV E))) (rest.map (xV E)) (xQc_z E (xA_z E H.size) Q' a) (xA_z E H.size))
    (kk : ∀ r h', Q' r h' → WP_z l E μ (pc + 3) ls (rpush r rest) h' Q) : W p l e (rmOf μ.2.2.2.2) s m args below meth c H locs 0 0 (MQ below (xQc_z E A Q) args s 0 0 A) (F0 m pc lsA (st0.map (xV E))) := by
  intro T hT X
  obtain ⟨v, st₀, t, T', L, h0, X', hL, e1, e2, ⟨⟨r, h', hv, hp, hP', hD'⟩, hz, hk⟩, stp⟩ := hr T hT X
  have hv : v = r.map Value.int := Outcome.returned.inj hv
  subst hv
  rw [h0] at hz hk
  have hA : ∀ q, xA_z E H.size q → A q := fun q z => by
    rcases z with ⟨k, hk, rfl⟩ | z
    · exact xA_of_z I.2.1 hk
    · exact C.2.2.2.2.2.2.2.2 q (Nat.le_trans I.2.2.1 z)
  have hS := I.2.2
  have I' : xI_z E A s h' T'.heap (locs ++ L) := by
    refine ⟨by rw [e1]; exact hP', wld_addr_z I.2.1, Nat.le_trans hS.1 (by rw [e1]; exact hz), fun q h1 h2 => ?_, fun q hq => ?_⟩
    · rw [e1, hk q (Nat.lt_of_lt_of_le h1 hS.1) (fun z => h2 (hA q z))]
      exact hS.2.1 q h1 h2
    · rcases List.mem_append.mp hq with h | h
      · exact hS.2.2 q h
      · exact hA _ (hL q h)
  obtain ⟨t2, a1, b1⟩ := kk r h' hp p e s m args below meth c A T'.heap (locs ++ L) lsA C I' hl T' rfl X'
  refine ⟨t2, stp t2 ?_, b1⟩
  have : (r.map Value.int).toList ++ rest.map (xV E) = (rpush r rest).map (xV E) := by cases r <;> rfl
  rw [this]
  exact a1
theorem wp_callV_z {μ' : xM} {idx n b ci : Nat} {fs : List (Option Nat)} {cq : vw_C} {as rest st0 : List xv} {Q' : Option Int32 → xh → Prop} (hd : decode μ.2.1 pc = .ok (.invokevirtual idx, 3)) (V : VB μ μ' idx n) (hs : Cond.instanceMethod μ'.1 ∈ gW ∧ Cond.selects μ'.1.cls μ'.1 μ'.1 ∈ gW) (hq : lay_z[b]? = some (.inl (ci, fs))) (hc : vwCl[ci]? = some cq) (hcn : cq.1 = μ'.1.cls) (hn : as.length = n) (hlen : as.length + 1 ≤ μ'.2.2.1) (hst : st0 = as.reverse ++ .inr b :: rest) (hre : rest.length ≤ 8) (k : MC_z l E μ' (.inr b :: as) h Q') (kk : ∀ r h', Q' r h' → WP_z l E μ (pc + 3) ls (rpush r rest) h' Q) : WP_z l E μ pc ls st0 h Q := by
  intro p e s m args below meth c A H locs lsA C I hl
  obtain ⟨hpl, hco, hin, hde, hdp, hli⟩ := V
  have hts := C.2.2.2.2.1
  have M := met_of_z (l := l) (E := E) (as := .inr b :: as) H.size hpl hlen k
  have hrec : ∃ cell : Cell, H[E.2.1 b]? = some cell ∧ cell.vm.isStatics = false ∧ s.vm.findClass μ'.1.cls = some cell.cls := by
    rw [← hcn]
    exact va_recv C.2.2.2.2.2.2.2.1.1 I.1 hc (wld_get_z hq)
  have hp : PreV s H μ'.1.cls (E.2.1 b) (xPc_z E H.size h (.inr b :: as)) (as.map (xV E)) := ⟨xBlind_z, hrec, fun U hU hW => ⟨rfl, by rw [hU], by rw [hU]; exact I.1, C.2.2.2.2.2.2.2.1.warm hW, I.2.1.weaken (fun _ _ _ _ => trivial)⟩⟩
  have hR : (rmOf μ'.2.2.2.2).frames + 1 ≤ (rmOf μ.2.2.2.2).frames ∧ 8 + (μ'.2.2.1 + 11) + (rmOf μ'.2.2.2.2).locals ≤ (rmOf μ.2.2.2.2).locals := ⟨hdp.1, hdp.2⟩
  have hstk : st0.map (xV E) = (as.map (xV E)).reverse ++ .ref (E.2.1 b) :: rest.map (xV E) := by rw [hst, List.map_append, List.map_reverse]; rfl
  refine wp_after_z (a := (Value.ref (E.2.1 b) :: as.map (xV E)).toArray) (st0 := st0) (rest := rest) (Q' := Q') C I hl ?_ kk
  rcases hli with hli | ⟨host, hli⟩
  · exact va_runV (Ts := wM μ) (own := μ.1.cls) (C := μ'.1.cls) (b := E.2.1 b) (As := as.map (xV E)) ⟨C.1, C.2.1, C.2.2.2.1, C.2.2.2.2.2.1, hts⟩ M ⟨callB_of n hts (xGood hco) rfl rfl rfl (hts _ (wM_g hin)) (hts _ (wM_g hli)) hde hR, hts _ (wM_g hs.1), hts _ (wM_g hs.2)⟩ hp rfl (by rw [List.length_map]; exact hn) hl.1 hstk (lv_room (by rw [cats]; exact hre)) hd ⟨Nat.le_refl 0, Nat.le_refl 0⟩
  · exact va_runVN (Ts := wM μ) (own := μ.1.cls) (C := μ'.1.cls) (b := E.2.1 b) (As := as.map (xV E)) ⟨C.1, C.2.1, C.2.2.2.1, C.2.2.2.2.2.1, hts⟩ M ⟨va_cnB n hts (xGood hco) rfl rfl rfl (C.2.2.2.2.2.2.2.1.2 _ hli) (hts _ (wM_g hin)) hde hR, hts _ (wM_g hs.1), hts _ (wM_g hs.2)⟩ hp rfl (by rw [List.length_map]; exact hn) hl.1 hstk (lv_room (by rw [cats]; exact hre)) hd ⟨Nat.le_refl 0, Nat.le_refl 0⟩
end RULES
set_option maxRecDepth 100000 in
set_option maxHeartbeats 4000000 in
theorem k_IM_clear_r_0_z {l : Launch} {E : xE} {h : xh} {Q : Option Int32 → xh → Prop}
    (e1 : WP_z l E M_IM_clear 2 [(0, .inr 2), (1, .inl (nI 0))] [] h Q) : MC_z l E M_IM_clear [.inr 2] h Q := by
  refine wp_iconst_z (v := nI 0) d_IM_clear_0 c_iconst_0 ?_
  refine wp_istore_n_z (ls' := [(0, .inr 2), (1, .inl (nI 0))]) d_IM_clear_1 (by decide) rfl ?_
  exact e1
set_option maxRecDepth 100000 in
set_option maxHeartbeats 4000000 in
theorem k_IM_clear_r_2_z {l : Launch} {E : xE} {x1 : Int32} {h : xh} {Q : Option Int32 → xh → Prop}
    (e1 : (nI 16) ≤ x1 → Q none (hw h 2 2 (nI 0)))
    (o1 : ¬ (nI 16) ≤ x1 → vp_in (x1) 16)
    (e2 : ¬ (nI 16) ≤ x1 → WP_z l E M_IM_clear 2 [(0, .inr 2), (1, .inl (x1 + nI 1))] [] (hw h 11 ((x1).toNatClampNeg) (nI 0)) Q) : WP_z l E M_IM_clear 2 [(0, .inr 2), (1, .inl (x1))] [] h Q := by
  refine wp_iload_n_z d_IM_clear_2 rfl ?_
  refine wp_bipush_z (v := nI 16) d_IM_clear_3 c_bipush_16 ?_
  refine wp_ic_ge_z (tgt := 21) d_IM_clear_5 (by decide) (fun c1 => ?_) (fun c1 => ?_)
  · refine wp_aload_n_z d_IM_clear_21 rfl ?_
    refine wp_iconst_z (v := nI 0) d_IM_clear_22 c_iconst_0 ?_
    refine wp_putI_z d_IM_clear_23 fm_IM_19 rfl rfl ?_
    refine wp_return_z d_IM_clear_26 rfl ?_
    exact e1 c1
  · refine wp_aload_n_z d_IM_clear_8 rfl ?_
    refine wp_getR_z d_IM_clear_9 fl_IM_9 rfl rfl ?_
    refine wp_iload_n_z d_IM_clear_12 rfl ?_
    refine wp_iconst_z (v := nI 0) d_IM_clear_13 c_iconst_0 ?_
    refine wp_bastore_z d_IM_clear_14 rfl (o1 c1) (nar01 (by decide)) ?_
    refine wp_iinc_z (v := x1 + nI 1) (ls' := [(0, .inr 2), (1, .inl (x1 + nI 1))]) d_IM_clear_15 rfl (c_inc_1 _) (by decide) rfl ?_
    refine wp_goto_z (tgt := 2) d_IM_clear_18 (by decide) ?_
    exact e2 c1
set_option maxRecDepth 100000 in
set_option maxHeartbeats 4000000 in
theorem k_IM_clear_p_0_z {l : Launch} {E : xE} {h : xh} {Q : Option Int32 → xh → Prop}
    (e1 : WP_z l E M_IM_clear 2 [(0, .inr 3), (1, .inl (nI 0))] [] h Q) : MC_z l E M_IM_clear [.inr 3] h Q := by
  refine wp_iconst_z (v := nI 0) d_IM_clear_0 c_iconst_0 ?_
  refine wp_istore_n_z (ls' := [(0, .inr 3), (1, .inl (nI 0))]) d_IM_clear_1 (by decide) rfl ?_
  exact e1
set_option maxRecDepth 100000 in
set_option maxHeartbeats 4000000 in
theorem k_IM_clear_p_2_z {l : Launch} {E : xE} {x1 : Int32} {h : xh} {Q : Option Int32 → xh → Prop}
    (e1 : (nI 16) ≤ x1 → Q none (hw h 3 2 (nI 0)))
    (o1 : ¬ (nI 16) ≤ x1 → vp_in (x1) 16)
    (e2 : ¬ (nI 16) ≤ x1 → WP_z l E M_IM_clear 2 [(0, .inr 3), (1, .inl (x1 + nI 1))] [] (hw h 13 ((x1).toNatClampNeg) (nI 0)) Q) : WP_z l E M_IM_clear 2 [(0, .inr 3), (1, .inl (x1))] [] h Q := by
  refine wp_iload_n_z d_IM_clear_2 rfl ?_
  refine wp_bipush_z (v := nI 16) d_IM_clear_3 c_bipush_16 ?_
  refine wp_ic_ge_z (tgt := 21) d_IM_clear_5 (by decide) (fun c1 => ?_) (fun c1 => ?_)
  · refine wp_aload_n_z d_IM_clear_21 rfl ?_
    refine wp_iconst_z (v := nI 0) d_IM_clear_22 c_iconst_0 ?_
    refine wp_putI_z d_IM_clear_23 fm_IM_19 rfl rfl ?_
    refine wp_return_z d_IM_clear_26 rfl ?_
    exact e1 c1
  · refine wp_aload_n_z d_IM_clear_8 rfl ?_
    refine wp_getR_z d_IM_clear_9 fl_IM_9 rfl rfl ?_
    refine wp_iload_n_z d_IM_clear_12 rfl ?_
    refine wp_iconst_z (v := nI 0) d_IM_clear_13 c_iconst_0 ?_
    refine wp_bastore_z d_IM_clear_14 rfl (o1 c1) (nar01 (by decide)) ?_
    refine wp_iinc_z (v := x1 + nI 1) (ls' := [(0, .inr 3), (1, .inl (x1 + nI 1))]) d_IM_clear_15 rfl (c_inc_1 _) (by decide) rfl ?_
    refine wp_goto_z (tgt := 2) d_IM_clear_18 (by decide) ?_
    exact e2 c1

set_option maxRecDepth 100000 in
set_option maxHeartbeats 4000000 in
theorem k_RS_comeUp_0_z {l : Launch} {E : xE} {x1 x2 : Int32} {h : xh} {Q : Option Int32 → xh → Prop}
    (e1 : MC_z l E M_IM_clear [.inr 2] (hw (hw (hw (hw h 0 6 (nI 1)) 0 8 (x1)) 0 9 (x2)) 0 10 (nI 0)) (fun r h' => WP_z l E M_RS_comeUp 27 [(0, .inr 0), (1, .inl (x1)), (2, .inl (x2))] (rpush r []) h' Q)) : MC_z l E M_RS_comeUp [.inr 0, .inl (x1), .inl (x2)] h Q := by
  refine wp_aload_n_z d_RS_comeUp_0 rfl ?_
  refine wp_iconst_z (v := nI 1) d_RS_comeUp_1 c_iconst_1 ?_
  refine wp_putZ_z d_RS_comeUp_2 fm_RS_127 rfl rfl (by decide) ?_
  refine wp_aload_n_z d_RS_comeUp_5 rfl ?_
  refine wp_iload_n_z d_RS_comeUp_6 rfl ?_
  refine wp_putI_z d_RS_comeUp_7 fm_RS_91 rfl rfl ?_
  refine wp_aload_n_z d_RS_comeUp_10 rfl ?_
  refine wp_iload_n_z d_RS_comeUp_11 rfl ?_
  refine wp_putI_z d_RS_comeUp_12 fm_RS_121 rfl rfl ?_
  refine wp_aload_n_z d_RS_comeUp_15 rfl ?_
  refine wp_iconst_z (v := nI 0) d_RS_comeUp_16 c_iconst_0 ?_
  refine wp_putI_z d_RS_comeUp_17 fm_RS_98 rfl rfl ?_
  refine wp_aload_n_z d_RS_comeUp_20 rfl ?_
  refine wp_getR_z d_RS_comeUp_21 fl_RS_19 rfl rfl ?_
  refine wp_callV_z (as := []) (rest := []) (Q' := fun r h' => WP_z l E M_RS_comeUp 27 [(0, .inr 0), (1, .inl (x1)), (2, .inl (x2))] (rpush r []) h' Q) d_RS_comeUp_24 vb_RS_comeUp_203 ⟨gw_1_149, gw_1_150⟩ rfl rfl rfl rfl (Nat.le_of_ble_eq_true rfl) rfl (Nat.le_of_ble_eq_true rfl) ?_ (fun r h' z => z)
  exact e1
set_option maxRecDepth 100000 in
set_option maxHeartbeats 4000000 in
theorem k_RS_comeUp_27_z {l : Launch} {E : xE} {x1 x2 : Int32} {h : xh} {Q : Option Int32 → xh → Prop}
    (e1 : MC_z l E M_IM_clear [.inr 3] (hw h 0 7 (nI 0)) (fun r h' => WP_z l E M_RS_comeUp 39 [(0, .inr 0), (1, .inl (x1)), (2, .inl (x2))] (rpush r []) h' Q)) : WP_z l E M_RS_comeUp 27 [(0, .inr 0), (1, .inl (x1)), (2, .inl (x2))] [] h Q := by
  refine wp_aload_n_z d_RS_comeUp_27 rfl ?_
  refine wp_iconst_z (v := nI 0) d_RS_comeUp_28 c_iconst_0 ?_
  refine wp_putI_z d_RS_comeUp_29 fm_RS_81 rfl rfl ?_
  refine wp_aload_n_z d_RS_comeUp_32 rfl ?_
  refine wp_getR_z d_RS_comeUp_33 fl_RS_23 rfl rfl ?_
  refine wp_callV_z (as := []) (rest := []) (Q' := fun r h' => WP_z l E M_RS_comeUp 39 [(0, .inr 0), (1, .inl (x1)), (2, .inl (x2))] (rpush r []) h' Q) d_RS_comeUp_36 vb_RS_comeUp_203 ⟨gw_1_149, gw_1_150⟩ rfl rfl rfl rfl (Nat.le_of_ble_eq_true rfl) rfl (Nat.le_of_ble_eq_true rfl) ?_ (fun r h' z => z)
  exact e1
set_option maxRecDepth 100000 in
set_option maxHeartbeats 4000000 in
theorem k_RS_comeUp_39_z {l : Launch} {E : xE} {x1 x2 : Int32} {h : xh} {Q : Option Int32 → xh → Prop}
    (e1 : Q none h) : WP_z l E M_RS_comeUp 39 [(0, .inr 0), (1, .inl (x1)), (2, .inl (x2))] [] h Q := by
  refine wp_return_z d_RS_comeUp_39 rfl ?_
  exact e1

section FINC
variable {l : Launch} {E : xE} {h : xh} {Q : Option Int32 → xh → Prop}
variable {up num nx us : Nat} {kd : Nat → Nat} {rn : Nat → Int32} {pd : Nat → Nat} {pw : Nat → Int32}
theorem s_clear_r_z (hq : ∀ h', fr (pc [2, 11]) h h' → (∀ b, b < 16 → h' 11 b = nI 0) → h' 2 2 = nI 0 → Q none h') : MC_z l E M_IM_clear [.inr 2] h Q := by
  refine k_IM_clear_r_0_z ?_
  have key : ∀ (j i : Nat) (h' : xh), i + j = 16 → fr (pc [2, 11]) h h' → (∀ b, b < i → h' 11 b = nI 0) → WP_z l E M_IM_clear 2 [(0, .inr 2), (1, .inl (nI i))] [] h' Q := by
    intro j
    induction j with
    | zero =>
      intro i h' hi f x
      have ei : i = 16 := by omega
      subst ei
      have c0 : nI 16 ≤ nI 16 := nI_le (Nat.le_refl 16) (by decide)
      refine k_IM_clear_r_2_z (fun _ => ?_) (fun c => absurd c0 c) (fun c => absurd c0 c)
      refine hq _ (f.hw rfl) (fun b hb => ?_) ?_
      · rw [hwa (by decide)]; exact x b hb
      · rw [hwk, upi, if_pos rfl]
    | succ j ih =>
      intro i h' hi f x
      have c0 : ¬ nI 16 ≤ nI i := nI_ge (by omega) (by decide)
      refine k_IM_clear_r_2_z (fun c => absurd c c0) (fun _ => vp_in_nI (by omega) (by decide)) (fun _ => ?_)
      rw [nI_add, nI_clamp (by omega)]
      refine ih (i + 1) _ (by omega) (f.hw rfl) (fun b hb => ?_)
      rw [hwk, upi]
      by_cases c : b = i
      · rw [if_pos c]
      · rw [if_neg c]; exact x b (by omega)
  exact key 16 0 h (by omega) fr.rf (fun b hb => absurd hb (Nat.not_lt_zero _))
theorem s_clear_p_z (hq : ∀ h', fr (pc [3, 13]) h h' → (∀ b, b < 16 → h' 13 b = nI 0) → h' 3 2 = nI 0 → Q none h') : MC_z l E M_IM_clear [.inr 3] h Q := by
  refine k_IM_clear_p_0_z ?_
  have key : ∀ (j i : Nat) (h' : xh), i + j = 16 → fr (pc [3, 13]) h h' → (∀ b, b < i → h' 13 b = nI 0) → WP_z l E M_IM_clear 2 [(0, .inr 3), (1, .inl (nI i))] [] h' Q := by
    intro j
    induction j with
    | zero =>
      intro i h' hi f x
      have ei : i = 16 := by omega
      subst ei
      have c0 : nI 16 ≤ nI 16 := nI_le (Nat.le_refl 16) (by decide)
      refine k_IM_clear_p_2_z (fun _ => ?_) (fun c => absurd c0 c) (fun c => absurd c0 c)
      refine hq _ (f.hw rfl) (fun b hb => ?_) ?_
      · rw [hwa (by decide)]; exact x b hb
      · rw [hwk, upi, if_pos rfl]
    | succ j ih =>
      intro i h' hi f x
      have c0 : ¬ nI 16 ≤ nI i := nI_ge (by omega) (by decide)
      refine k_IM_clear_p_2_z (fun c => absurd c c0) (fun _ => vp_in_nI (by omega) (by decide)) (fun _ => ?_)
      rw [nI_add, nI_clamp (by omega)]
      refine ih (i + 1) _ (by omega) (f.hw rfl) (fun b hb => ?_)
      rw [hwk, upi]
      by_cases c : b = i
      · rw [if_pos c]
      · rw [if_neg c]; exact x b (by omega)
  exact key 16 0 h (by omega) fr.rf (fun b hb => absurd hb (Nat.not_lt_zero _))
theorem s_comeUp_z {num' nx' : Nat} (hq : ∀ h', fr (pc [0, 2, 3, 11, 13]) h h' → VC 1 num' nx' 0 k00 rn k00 pw h' → Q none h') : MC_z l E M_RS_comeUp [.inr 0, .inl (nI num'), .inl (nI nx')] h Q := by
  refine k_RS_comeUp_0_z ?_
  refine s_clear_r_z (fun h1 f1 a1 a2 => ?_)
  refine k_RS_comeUp_27_z ?_
  refine s_clear_p_z (fun h2 f2 b1 b2 => ?_)
  refine k_RS_comeUp_39_z ?_
  have g0 : fr (pc [0, 2, 3, 11, 13]) h (hw (hw (hw (hw h 0 6 (nI 1)) 0 8 (nI num')) 0 9 (nI nx')) 0 10 (nI 0)) := (((fr.rf.hw rfl).hw rfl).hw rfl).hw rfl
  have g1 : fr (pc [0, 2, 3, 11, 13]) h h1 := g0.tr (f1.up rfl)
  have g2 : fr (pc [0, 2, 3, 11, 13]) h h2 := (g1.hw rfl).tr (f2.up rfl)
  have c0 : h2 0 = hw h1 0 7 (nI 0) 0 := f2.cell 0 (fun _ => rfl)
  have c1 : h1 0 = hw (hw (hw (hw h 0 6 (nI 1)) 0 8 (nI num')) 0 9 (nI nx')) 0 10 (nI 0) 0 := f1.cell 0 (fun _ => rfl)
  have e : ∀ j, h2 0 j = if j = 7 then nI 0 else if j = 10 then nI 0 else if j = 9 then nI nx' else if j = 8 then nI num' else if j = 6 then nI 1 else h 0 j := by
    intro j
    rw [c0, hwk, upi, c1, hwk, upi, hwk, upi, hwk, upi, hwk, upi]
  refine hq h2 g2 ⟨by rw [e]; rfl, fun _ => ⟨by rw [e]; rfl, by rw [e]; rfl, by rw [e]; rfl, fun i hi => ?_, ?_, ?_, fun b hb => ?_, fun b hb hk => absurd hk (by unfold k00; omega), fun b hb => b1 b hb, fun b hb hk => absurd hk (by unfold k00; omega)⟩⟩
  · rw [e, if_pos rfl, bt0 i hi]
    simp [k00]
  · rw [cnt_0 (by decide), f2 2 2 rfl, hwa (by decide)]; exact a2
  · rw [cnt_0 (by decide)]; exact b2
  · rw [f2 11 b rfl, hwa (by decide), a1 b hb]
    rfl
end FINC
