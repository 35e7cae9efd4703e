/-! CONSTRUCTORS: a walk judgement over a world that grows -/
def M_RS_init : xM := (⟨"RedoShelf", "<init>", "()V"⟩, prog_1_method_1_code, 1, none, 2, 43)
def M_DV_init : xM := (⟨"RedoShelf$Device", "<init>", "()V"⟩, prog_2_method_1_code, 1, none, 1, 12)
def M_IM_init : xM := (⟨"RedoShelf$Images", "<init>", "()V"⟩, prog_3_method_1_code, 1, none, 1, 12)
def M_JB_init : xM := (⟨"RedoShelf$Job", "<init>", "()V"⟩, prog_4_method_1_code, 1, none, 1, 12)
def M_LR_init : xM := (⟨"RedoShelf$LogReader", "<init>", "()V"⟩, prog_5_method_1_code, 1, none, 1, 12)
def M_RW_init : xM := (⟨"RedoShelf$Row", "<init>", "()V"⟩, prog_6_method_1_code, 1, none, 1, 12)
def M_MD_init : xM := (⟨"RedoShelfModel", "<init>", "()V"⟩, prog_8_method_1_code, 1, none, 1, 12)
def rmK (μ : xM) (nc ns : Nat) : Room := { frames := μ.2.2.2.2.1, cells := nc, slots := ns, locals := μ.2.2.2.2.2 }
def kQ (E : xE) (A : Nat → Prop) (Q : va_W → Prop) : Array Value → State → Outcome → State → Prop := fun _ s oc t => (∃ w, oc = .returned none ∧ Q w ∧ va_P E.1 vwCl w t.heap ∧ va_D A w) ∧ va_F A s t
def KP (l : Launch) (E : xE) (μ : xM) (nc ns pc a : Nat) (st : List Value) (ws : va_W) (cells slots : Nat) (Q : va_W → Prop) : Prop :=
  ∀ (p : Program) (e : Env) (s : State) (m : MethodId) (args : Array Value) (below : List Frame) (meth : Method) (c : Code) (A : Nat → Prop) (H : Heap) (locs : List Loc) (lsA : Array Slot),
    CX E μ p s m args meth c A → meth.name = "<init>" → va_P E.1 vwCl ws H → va_D A ws → va_S A s.heap H locs → lv_has lsA μ.2.2.1 [(0, .ref a)] →
    W p l e (rmK μ nc ns) s m args below meth c H locs cells slots (MQ below (kQ E A Q) args s nc ns A) (F0 m pc lsA st)
/-- a final field of the method's own class -/
def FK (own : String) (idx ci j : Nat) (ty : FieldType) : Prop := ∃ (T : u_T) (N : Nat) (ty0 : Nat → FieldType), vwCl[ci]? = some (own, T, N) ∧ j < N ∧ (∀ w ∈ u_ws own T N, w ∈ gW) ∧ (T j).1 = own ∧ (T j).2.2.2 = true ∧ parseFieldDescriptor (T j).2.2.1 = some ty ∧ (∀ k, k < N → parseFieldDescriptor (T k).2.2.1 = some (ty0 k)) ∧ (∀ a, a < N → ∀ b, b < N → a ≠ b → (T a).2.1 ≠ (T b).2.1) ∧ Cond.fieldLink own idx own (T j).2.1 (T j).2.2.1 ∈ gW
/-- a new object of the class ci, its fields at rest -/
def NK (own : String) (idx ci : Nat) (fs : List Value) : Prop := ∃ (C : String) (T : u_T) (N : Nat) (ty0 : Nat → FieldType), vwCl[ci]? = some (C, T, N) ∧ (∀ w ∈ u_ws C T N, w ∈ gW) ∧ (∀ k, k < N → parseFieldDescriptor (T k).2.2.1 = some (ty0 k)) ∧ Cond.classLink own idx C ∈ gW ∧ Cond.instantiable C N ∈ gW ∧ Cond.initialized C ∈ gW ∧ (∀ j, j < N → defaultValue (ty0 j) = vp_V fs j) ∧ N = fs.length
section KPR
variable {l : Launch} {E : xE} {μ : xM} {nc ns pc a : Nat} {st : List Value} {ws ws' : va_W} {cells slots : Nat} {Q : va_W → Prop}
theorem kp_aload (hd : decode μ.2.1 pc = .ok (.aload_n 0, 1)) (kk : KP l E μ nc ns (pc + 1) a (.ref a :: st) ws cells slots Q) : KP l E μ nc ns pc a st ws cells slots Q := by
  intro p e s m args below meth c A H locs lsA C hn hP hD hS hl
  exact lv_aload_n C.1 C.2.1 hd rfl (lv_at hl 0 rfl) (kk p e s m args below meth c A H locs lsA C hn hP hD hS hl)
theorem kp_iconst {n : Int} {v : Int32} (hd : decode μ.2.1 pc = .ok (.iconst n, 1)) (hv : Int32.ofInt n = v) (kk : KP l E μ nc ns (pc + 1) a (.int v :: st) ws cells slots Q) : KP l E μ nc ns pc a st ws cells slots Q := by
  intro p e s m args below meth c A H locs lsA C hn hP hD hS hl
  exact lv_iconst C.1 C.2.1 hd hv (kk p e s m args below meth c A H locs lsA C hn hP hD hS hl)
theorem kp_bipush {n : Int} {v : Int32} (hd : decode μ.2.1 pc = .ok (.bipush n, 2)) (hv : (Int8.ofInt n).toInt32 = v) (kk : KP l E μ nc ns (pc + 2) a (.int v :: st) ws cells slots Q) : KP l E μ nc ns pc a st ws cells slots Q := by
  intro p e s m args below meth c A H locs lsA C hn hP hD hS hl
  exact lv_bipush C.1 C.2.1 hd hv (kk p e s m args below meth c A H locs lsA C hn hP hD hS hl)
theorem kp_sipush {n : Int} {v : Int32} (hd : decode μ.2.1 pc = .ok (.sipush n, 3)) (hv : (Int16.ofInt n).toInt32 = v) (kk : KP l E μ nc ns (pc + 3) a (.int v :: st) ws cells slots Q) : KP l E μ nc ns pc a st ws cells slots Q := by
  intro p e s m args below meth c A H locs lsA C hn hP hD hS hl
  exact lv_sipush C.1 C.2.1 hd hv (kk p e s m args below meth c A H locs lsA C hn hP hD hS hl)
theorem kp_ldc {idx : Nat} {v v2 : Int32} (hd : decode μ.2.1 pc = .ok (.ldc idx, 2)) (hw : Jvm.Cond.constant μ.1.cls idx v ∈ gW) (hv : v = v2) (kk : KP l E μ nc ns (pc + 2) a (.int v2 :: st) ws cells slots Q) : KP l E μ nc ns pc a st ws cells slots Q := by
  intro p e s m args below meth c A H locs lsA C hn hP hD hS hl
  subst hv
  exact lv_ldc C.1 C.2.1 C.2.2.2.2.2.1 (C.2.2.2.2.1 _ (wM_g hw)) hd (kk p e s m args below meth c A H locs lsA C hn hP hD hS hl)
theorem kp_dup {v : Value} (hc : v.category = 1) (hd : decode μ.2.1 pc = .ok (.dup, 1)) (kk : KP l E μ nc ns (pc + 1) a (v :: v :: st) ws cells slots Q) : KP l E μ nc ns pc a (v :: st) ws cells slots Q := by
  intro p e s m args below meth c A H locs lsA C hn hP hD hS hl
  exact lv_dup C.1 C.2.1 hd hc (kk p e s m args below meth c A H locs lsA C hn hP hD hS hl)
theorem kp_objInit {idx : Nat} (hd : decode μ.2.1 pc = .ok (.invokespecial idx, 3)) (w1 : Cond.methodLink μ.1.cls idx Lib.objectInit ∈ gW) (w2 : Cond.instanceMethod Lib.objectInit ∈ gW) (w3 : Cond.code Lib.objectInit ⟨#[0xb1]⟩ 1 none ∈ gW) (h1 : 1 ≤ μ.2.2.2.2.1) (h2 : 12 ≤ μ.2.2.2.2.2) (kk : KP l E μ nc ns (pc + 3) a [] ws cells slots Q) : KP l E μ nc ns pc a [.ref a] ws cells slots Q := by
  intro p e s m args below meth c A H locs lsA C hn hP hD hS hl
  have hts := C.2.2.2.2.1
  refine W.objInit C.1 C.2.1 C.2.2.2.2.2.1 (hts _ (wM_g w1)) (hts _ (wM_g w2)) (hts _ (wM_g w3)) rfl (by rw [C.2.2.2.1]; exact hl.1) rfl hd h1 h2 ?_
  exact W.eq (g2 := F0 m (pc + 3) lsA []) rfl (kk p e s m args below meth c A H locs lsA C hn hP hD hS hl)
theorem xK_int {s : State} {cA : ClassId} (h : xK E s) (e : va_RA s cA .int) : cA = E.2.2.1 := by
  have h1 := (h.1.2 0 _ rfl).2
  exact Option.some.inj ((show s.vm.findClass _ = some cA from e).symm.trans h1)
theorem xK_bool {s : State} {cA : ClassId} (h : xK E s) (e : va_RA s cA .boolean) : cA = E.2.2.2 := by
  have h1 := (h.1.2 1 _ rfl).2
  exact Option.some.inj ((show s.vm.findClass _ = some cA from e).symm.trans h1)
theorem kp_newI {atype : ArrayType} {n : Int32} {N : Nat} (hd : decode μ.2.1 pc = .ok (.newarray atype, 2)) (ht : newarray.typeOf atype = .int) (hw : Cond.arrayClass .int ∈ gW) (hn : n = nI N) (hN : N < 1000) (h1 : cells + 1 ≤ nc) (h2 : slots + N ≤ ns) (kk : ∀ q, KP l E μ nc ns (pc + 2) a (.ref q :: st) (ws ++ [(q, .inl (E.2.2.1, N, .inl (fun _ => 0)))]) (cells + 1) (slots + N) Q) : KP l E μ nc ns pc a (.int n :: st) ws cells slots Q := by
  intro p e s m args below meth c A H locs lsA C hnm hP hD hS hl
  subst hn
  have hK := C.2.2.2.2.2.2.2.1
  refine va_newa C.1 C.2.1 (atype := atype) (by rw [ht]; exact C.2.2.2.2.1 _ (wM_g hw)) ht hK.1 hP hD hS C.2.2.2.2.2.2.2.2 (a0 := (N, .inl (fun _ => 0))) (fun cA => rfl) (nI_pos (by omega)) (nI_clamp (by omega)) (by show N * 4 ≤ _; omega) h1 h2 hd (fun q cA H1 hK1 hP1 hD1 hS1 => ?_)
  have e : cA = E.2.2.1 := xK_int hK (hK1.2 2 (cA, .int) rfl).2
  subst e
  exact kk q p e s m args below meth c A H1 locs lsA C hnm hP1 hD1 hS1 hl
theorem kp_newZ {atype : ArrayType} {n : Int32} {N : Nat} (hd : decode μ.2.1 pc = .ok (.newarray atype, 2)) (ht : newarray.typeOf atype = .boolean) (hw : Cond.arrayClass .boolean ∈ gW) (hn : n = nI N) (hN : N < 1000) (h1 : cells + 1 ≤ nc) (h2 : slots + N ≤ ns) (kk : ∀ q, KP l E μ nc ns (pc + 2) a (.ref q :: st) (ws ++ [(q, .inl (E.2.2.2, N, .inl (fun _ => 0)))]) (cells + 1) (slots + N) Q) : KP l E μ nc ns pc a (.int n :: st) ws cells slots Q := by
  intro p e s m args below meth c A H locs lsA C hnm hP hD hS hl
  subst hn
  have hK := C.2.2.2.2.2.2.2.1
  refine va_newa C.1 C.2.1 (atype := atype) (by rw [ht]; exact C.2.2.2.2.1 _ (wM_g hw)) ht hK.1 hP hD hS C.2.2.2.2.2.2.2.2 (a0 := (N, .inl (fun _ => 0))) (fun cA => rfl) (nI_pos (by omega)) (nI_clamp (by omega)) (by show N * 1 ≤ _; omega) h1 h2 hd (fun q cA H1 hK1 hP1 hD1 hS1 => ?_)
  have e : cA = E.2.2.2 := xK_bool hK (hK1.2 2 (cA, .boolean) rfl).2
  subst e
  exact kk q p e s m args below meth c A H1 locs lsA C hnm hP1 hD1 hS1 hl
theorem kp_putF {idx ci j q0 b : Nat} {ty : FieldType} {fs : List Value} {v : Value} (hd : decode μ.2.1 pc = .ok (.putfield idx, 3)) (F : FK μ.1.cls idx ci j ty) (hq : ws[q0]? = some (b, .inr (ci, fs))) (hn : narrow ty v = v) (hfit : fits ty v = true) (hl0 : j < fs.length) (hs : ws.set q0 (b, .inr (ci, fs.set j v)) = ws') (kk : KP l E μ nc ns (pc + 3) a st ws' cells slots Q) : KP l E μ nc ns pc a (v :: .ref b :: st) ws cells slots Q := by
  intro p e s m args below meth c A H locs lsA C hnm hP hD hS hl
  obtain ⟨T, N, ty0, hc, hj, hin, hTC, hfin, hpa, hty, hnms, hlink⟩ := F
  have hts := C.2.2.2.2.1
  subst hs
  exact va_putF (D := E.1) C.1 C.2.1 hts (fun w hw => wM_g (hin w hw)) ty0 hty hnms C.2.2.2.2.2.1 C.2.2.2.2.2.2.2.1.1 hP hD hS q0 hq hc j hj (hts _ (wM_g hlink)) (fun x hx => by rw [hTC] at hx; exact hx) hfin hnm hTC hpa hn hfit hl0 hd (fun H1 locs1 hP1 hD1 hS1 => kk p e s m args below meth c A H1 locs1 lsA C hnm hP1 hD1 hS1 hl)
theorem kp_put {idx ci j q0 b : Nat} {ty : FieldType} {fs : List Value} {v : Value} (hd : decode μ.2.1 pc = .ok (.putfield idx, 3)) (F : FM μ.1.cls idx ci j ty) (hq : ws[q0]? = some (b, .inr (ci, fs))) (hn : narrow ty v = v) (hfit : fits ty v = true) (hl0 : j < fs.length) (hs : ws.set q0 (b, .inr (ci, fs.set j v)) = ws') (kk : KP l E μ nc ns (pc + 3) a st ws' cells slots Q) : KP l E μ nc ns pc a (v :: .ref b :: st) ws cells slots Q := by
  intro p e s m args below meth c A H locs lsA C hnm hP hD hS hl
  obtain ⟨⟨Cn, T, N, ty0, hc, hj, hin, hTC, hpa, hty, hnms, hlink⟩, hfin⟩ := F
  have hts := C.2.2.2.2.1
  have hfi : (T j).2.2.2 = false := hfin _ hc
  subst hs
  rcases hlink with hlink | ⟨host, hlink⟩
  · exact va_put (D := E.1) C.1 C.2.1 hts (fun w hw => wM_g (hin w hw)) ty0 hty hnms C.2.2.2.2.2.1 C.2.2.2.2.2.2.2.1.1 hP hD hS q0 hq hc j hj (hts _ (wM_g hlink)) (fun x hx => by rw [hTC] at hx; exact hx) hfi hpa hn hfit hl0 hd (fun H1 locs1 hP1 hD1 hS1 => kk p e s m args below meth c A H1 locs1 lsA C hnm hP1 hD1 hS1 hl)
  · exact va_putN (D := E.1) C.1 C.2.1 hts (fun w hw => wM_g (hin w hw)) ty0 hty hnms C.2.2.2.2.2.1 C.2.2.2.2.2.2.2.1.1 hP hD hS q0 hq hc j hj (va_Nw.use rfl (C.2.2.2.2.2.2.2.1.2 _ hlink)) (fun x hx => by rw [hTC] at hx; exact hx) hfi hpa hn hfit hl0 hd (fun H1 locs1 hP1 hD1 hS1 => kk p e s m args below meth c A H1 locs1 lsA C hnm hP1 hD1 hS1 hl)
theorem kp_get {idx ci j q0 b : Nat} {ty : FieldType} {fs : List Value} {v : Value} (hd : decode μ.2.1 pc = .ok (.getfield idx, 3)) (F : FL μ.1.cls idx ci j ty) (hq : ws[q0]? = some (b, .inr (ci, fs))) (hv : fs[j]? = some v) (kk : KP l E μ nc ns (pc + 3) a (v :: st) ws cells slots Q) : KP l E μ nc ns pc a (.ref b :: st) ws cells slots Q := by
  intro p e s m args below meth c A H locs lsA C hnm hP hD hS hl
  obtain ⟨Cn, T, N, ty0, hc, hj, hin, hTC, hpa, hty, hnms, hlink⟩ := F
  have hts := C.2.2.2.2.1
  rcases hlink with hlink | ⟨host, hlink⟩
  · exact va_get (D := E.1) C.1 C.2.1 hts (fun w hw => wM_g (hin w hw)) C.2.2.2.2.2.1 C.2.2.2.2.2.2.2.1.1 hP q0 hq hc j hj (hts _ (wM_g hlink)) (fun x hx => by rw [hTC] at hx; exact hx) hv hd (kk p e s m args below meth c A H locs lsA C hnm hP hD hS hl)
  · exact va_getN (D := E.1) C.1 C.2.1 hts (fun w hw => wM_g (hin w hw)) C.2.2.2.2.2.1 C.2.2.2.2.2.2.2.1.1 hP q0 hq hc j hj (va_Nw.use rfl (C.2.2.2.2.2.2.2.1.2 _ hlink)) (fun x hx => by rw [hTC] at hx; exact hx) hv hd (kk p e s m args below meth c A H locs lsA C hnm hP hD hS hl)
theorem kp_iast {q0 b n i : Nat} {f : Nat → Int32} {x ix : Int32} (hd : decode μ.2.1 pc = .ok (.iastore, 1)) (hq : ws[q0]? = some (b, .inl (E.2.2.1, n, .inl f))) (hi : ix = nI i) (hin : i < n) (hN : n < 1000) (hs : ws.set q0 (b, .inl (E.2.2.1, n, .inl (upd f i x))) = ws') (kk : KP l E μ nc ns (pc + 1) a st ws' cells slots Q) : KP l E μ nc ns pc a (.int x :: .int ix :: .ref b :: st) ws cells slots Q := by
  intro p e s m args below meth c A H locs lsA C hnm hP hD hS hl
  subst hi
  subst hs
  have hv : vp_in (nI i) n := vp_in_nI hin (by omega)
  refine va_iast C.1 C.2.1 C.2.2.2.2.2.2.2.1.1 hP hD hS q0 0 hq rfl hv hd (fun H1 locs1 hP1 hD1 hS1 => ?_)
  rw [nI_clamp (by omega)] at hP1 hD1
  exact kk p e s m args below meth c A H1 locs1 lsA C hnm hP1 hD1 hS1 hl
theorem kp_ret (hd : decode μ.2.1 pc = .ok (.return_, 1)) (hr : μ.2.2.2.1 = none) (hc : cells ≤ nc) (hs : slots ≤ ns) (hq : Q ws) : KP l E μ nc ns pc a [] ws cells slots Q := by
  intro p e s m args below meth c A H locs lsA C hnm hP hD hS hl
  have hlocks : meth.locks = false := C.2.2.2.2.2.2.1
  refine W.widen hc hs ?_
  exact W.vret C.1 C.2.1 (C.2.2.1.trans hr) (fun t ht hW => ⟨⟨ws, rfl, hq, by rw [ht]; exact hP, hD⟩, hS.F ht⟩) hS.2.2 hd hlocks
theorem kp_new {idx ci : Nat} {fs : List Value} (hd : decode μ.2.1 pc = .ok (.new idx, 3)) (F : NK μ.1.cls idx ci fs) (h1 : cells + 1 ≤ nc) (h2 : slots + fs.length ≤ ns) (kk : ∀ q, KP l E μ nc ns (pc + 3) a (.ref q :: st) (ws ++ [(q, .inr (ci, fs))]) (cells + 1) (slots + fs.length) Q) : KP l E μ nc ns pc a st ws cells slots Q := by
  intro p e s m args below meth c A H locs lsA C hnm hP hD hS hl
  obtain ⟨Cn, T, N, ty0, hc, hin, hty, w1, w2, w3, hfs, hN⟩ := F
  have hts := C.2.2.2.2.1
  subst hN
  exact va_new C.1 C.2.1 hts (fun w hw => wM_g (hin w hw)) ty0 hty C.2.2.2.2.2.1 (hts _ (wM_g w1)) (hts _ (wM_g w2)) (hts _ (wM_g w3)) C.2.2.2.2.2.2.2.1.1 hP hD hS C.2.2.2.2.2.2.2.2 hc hfs h1 h2 hd (fun q H1 hP1 hD1 hS1 => kk q p e s m args below meth c A H1 locs lsA C hnm hP1 hD1 hS1 hl)
/-- a constructor's contract -/
def kPc (E : xE) (sz : Nat) (ws : va_W) (a : Nat) : Array Value → State → Prop := va_Pc [.ref a] (fun U => U.heap.size = sz ∧ va_P E.1 vwCl ws U.heap ∧ xK E U ∧ va_D (fun _ => True) ws)
theorem kmet (sz : Nat) (hy : plainName μ.1.cls = true) (hlen : 1 ≤ μ.2.2.1) (hi : μ.1.name = "<init>") (k : KP l E μ nc ns 0 a [] ws 0 0 Q) : Met l μ.1 (wM μ) (rmK μ nc ns) (kPc E sz ws a) (kQ E (va_A ws sz) Q) nc ns (va_A ws sz) := by
  refine Met.ofW (cc := μ.2.1) (maxL := μ.2.2.1) (ret := μ.2.2.2.1) hy rfl ?_
  intro p e s m args below meth c s₁ B hml hv
  obtain ⟨rfl, hsz, hP, hK, hD0⟩ := hv
  have hts := atoms_spec (ws := wM μ) B.pre
  have hl := lv_entry [.ref a] (n := μ.2.2.1) hlen
  rw [lg_entry_eq]
  subst hsz
  have hin : meth.name = "<init>" := (name_of_methodNamed B.named B.method).1.trans hi
  exact k p e s m _ below meth c (va_A ws s.heap.size) s.heap [] _ ⟨B.exec, B.bytes, B.returns, hml, hts, findClass_of_methodNamed B.named, B.notSynchronized, hK, fun q h => Or.inr h⟩ hin hP hD0.self va_S.rf hl
theorem kBlind {sz : Nat} : FrameBlind (kPc E sz ws a) := by
  intro x U g mk q
  obtain ⟨q0, q1, qP, qK, qD⟩ := q
  exact ⟨q0, q1, qP, xK.same (s := U) (U := U.calling g mk x) rfl qK, qD⟩
theorem kp_callI {μ' : xM} {idx nc' ns' b : Nat} {wc wr : va_W} {rest : List Value} {Q' : va_W → Prop} (hd : decode μ.2.1 pc = .ok (.invokespecial idx, 3)) (V : VB μ μ' idx 0) (hi : Cond.instanceMethod μ'.1 ∈ gW) (hn : μ'.1.name = "<init>") (hr : μ'.2.2.2.1 = none) (hlen : 1 ≤ μ'.2.2.1) (isC isR : List Nat) (hC : isC.map (fun i => ws[i]?) = wc.map some) (hR : isR.map (fun i => ws[i]?) = wr.map some) (hnd : va_nd isR = true) (hndC : va_nd isC = true) (hdis : ∀ i ∈ isR, i ∉ isC) (hre : (rest.map fun v => v.category).sum ≤ 8) (h1 : cells + nc' ≤ nc) (h2 : slots + ns' ≤ ns)
    (k : KP l E μ' nc' ns' 0 b [] wc 0 0 Q') (kk : ∀ w1, Q' w1 → KP l E μ nc ns (pc + 3) a rest (wr ++ w1) (cells + nc') (slots + ns') Q) : KP l E μ nc ns pc a (.ref b :: rest) ws cells slots Q := by
  intro p e s m args below meth c A H locs lsA C hnm hP hD hS hl
  obtain ⟨hpl, hco, hin, hde, hdp, hli⟩ := V
  have hts := C.2.2.2.2.1
  have hK := C.2.2.2.2.2.2.2.1
  have hA := C.2.2.2.2.2.2.2.2
  have M := kmet (l := l) (E := E) H.size hpl hlen hn k
  have hPc : va_P E.1 vwCl wc H := fun k q hq => by
    have h1 : (isC.map (fun i => ws[i]?))[k]? = some (some q) := by rw [hC, List.getElem?_map, hq]; rfl
    rw [List.getElem?_map] at h1
    cases hi : isC[k]? with
    | none => rw [hi] at h1; cases h1
    | some i => rw [hi] at h1; exact hP i q (Option.some.inj h1)
  have hDc := hD.sub isC hndC hC
  have hF := va_free hD hS hA isC hC
  have hp : PreS s H (kPc E H.size wc b) [.ref b] := ⟨kBlind, fun U hU hW => ⟨rfl, by rw [hU], by rw [hU]; exact hPc, hK.warm hW, hDc.weaken (fun _ _ _ _ => trivial)⟩⟩
  have hR' : (rmK μ' nc' ns').frames + 1 ≤ (rmK μ nc ns).frames ∧ 8 + (μ'.2.2.1 + 11) + (rmK μ' nc' ns').locals ≤ (rmK μ nc ns).locals := ⟨hdp.1, hdp.2⟩
  have hrun : va_Run p l e (rmK μ nc ns) s m args below meth c H locs cells slots nc' ns' (F0 m pc lsA (.ref b :: rest)) rest (kQ E (va_A wc H.size) Q' #[Value.ref b]) (va_A wc H.size) := by
    rcases hli with hli | ⟨host, hli⟩
    · exact va_runI (Ts := wM μ) (own := μ.1.cls) (bytes := μ'.2.1) (maxL := μ'.2.2.1) (b := b) (As := []) ⟨C.1, C.2.1, C.2.2.2.1, C.2.2.2.2.2.1, hts⟩ M ⟨callB_of 0 hts (xGood hco) (by unfold wM; rw [hr]) rfl rfl (hts _ (wM_g hin)) (hts _ (wM_g hli)) hde hR', hn, hts _ (wM_g hi)⟩ hp rfl rfl hl.1 rfl (lv_room hre) hd ⟨h1, h2⟩
    · exact va_runIN (Ts := wM μ) (own := μ.1.cls) (bytes := μ'.2.1) (maxL := μ'.2.2.1) (b := b) (As := []) ⟨C.1, C.2.1, C.2.2.2.1, C.2.2.2.2.2.1, hts⟩ M ⟨va_cnB 0 hts (xGood hco) (by unfold wM; rw [hr]) rfl rfl (hK.2 _ hli) (hts _ (wM_g hin)) hde hR', hn, hts _ (wM_g hi)⟩ hp rfl rfl hl.1 rfl (lv_room hre) hd ⟨h1, h2⟩
  intro T hT X
  obtain ⟨v, st₀, t, T', L, h0, X', hL, e1, e2, ⟨⟨w1, hv, hq, hP1, hD1⟩, hz, hk⟩, stp⟩ := hrun T hT X
  cases hv
  rw [h0] at hz hk
  rw [← e1] at hP1 hz
  have hk' : ∀ q : Nat, q < H.size → ¬ va_A wc H.size q → T'.heap[q]? = H[q]? := fun q h1 h2 => by rw [e1]; exact hk q h1 h2
  obtain ⟨hPn, hDn⟩ := va_join hP hD isC isR hC hR hnd hdis hk' hF hP1 hD1
  have hSn : va_S A s.heap T'.heap (locs ++ L) := by
    refine ⟨Nat.le_trans hS.1 hz, fun q h1 h2 => ?_, fun q hq => ?_⟩
    · rw [hk' q (Nat.lt_of_lt_of_le h1 hS.1) (fun z => h2 (hF q z))]
      exact hS.2.1 q h1 h2
    · rcases List.mem_append.mp hq with h | h
      · exact hS.2.2 q h
      · exact hF _ (hL q h)
  obtain ⟨t2, a1, b1⟩ := kk w1 hq p e s m args below meth c A T'.heap (locs ++ L) lsA C hnm hPn hDn hSn hl T' rfl X'
  exact ⟨t2, stp t2 a1, b1⟩
/-- the call of comeUp, over the whole world of the class -/
theorem kp_callZ {μ' : xM} {idx n b ci : Nat} {ad : Nat → Nat} {h : xh} {fs : List (Option Nat)} {cq : vw_C} {as : List xv} {st0 : List Value} {Q' : Option Int32 → xh → Prop} (hd : decode μ.2.1 pc = .ok (.invokevirtual idx, 3)) (V : VB μ μ' idx n) (hs : Cond.instanceMethod μ'.1 ∈ gW ∧ Cond.selects μ'.1.cls μ'.1 μ'.1 ∈ gW) (hq : lay_z[b]? = some (.inl (ci, fs))) (hc : vwCl[ci]? = some cq) (hcn : cq.1 = μ'.1.cls) (hn : as.length = n) (hlen : as.length + 1 ≤ μ'.2.2.1) (hst : st0 = (as.map (xV (E.1, ad, E.2.2))).reverse ++ [.ref (ad b)]) (hw : ws = wld_z (E.1, ad, E.2.2) h) (hcl : cells ≤ nc) (hsl : slots ≤ ns)
    (k : MC_z l (E.1, ad, E.2.2) μ' (.inr b :: as) h Q') (kk : ∀ r h', Q' r h' → r = none ∧ KP l E μ nc ns (pc + 3) a [] (wld_z (E.1, ad, E.2.2) h') cells slots Q) : KP l E μ nc ns pc a st0 ws cells slots Q := by
  intro p e s m args below meth c A H locs lsA C hnm hP hD hS hl
  obtain ⟨hpl, hco, hin, hde, hdp, hli⟩ := V
  have hts := C.2.2.2.2.1
  have hK := C.2.2.2.2.2.2.2.1
  have hA := C.2.2.2.2.2.2.2.2
  subst hw
  have M := met_of_z (l := l) (E := (E.1, ad, E.2.2)) (as := .inr b :: as) H.size hpl hlen k
  have hrec : ∃ cell : Cell, H[ad b]? = some cell ∧ cell.vm.isStatics = false ∧ s.vm.findClass μ'.1.cls = some cell.cls := by
    rw [← hcn]
    exact va_recv hK.1 hP hc (wld_get_z (E := (E.1, ad, E.2.2)) hq)
  have hKE : ∀ U : State, xK E U → xK (E.1, ad, E.2.2) U := fun U h => h
  have hp : PreV s H μ'.1.cls (ad b) (xPc_z (E.1, ad, E.2.2) H.size h (.inr b :: as)) (as.map (xV (E.1, ad, E.2.2))) := ⟨xBlind_z, hrec, fun U hU hW => ⟨rfl, by rw [hU], by rw [hU]; exact hP, hKE U (hK.warm hW), hD.weaken (fun _ _ _ _ => trivial)⟩⟩
  have hR : (rmOf μ'.2.2.2.2).frames + 1 ≤ (rmK μ nc ns).frames ∧ 8 + (μ'.2.2.1 + 11) + (rmOf μ'.2.2.2.2).locals ≤ (rmK μ nc ns).locals := ⟨hdp.1, hdp.2⟩
  have hrun : va_Run p l e (rmK μ nc ns) s m args below meth c H locs cells slots 0 0 (F0 m pc lsA st0) [] (xQc_z (E.1, ad, E.2.2) (xA_z (E.1, ad, E.2.2) H.size) Q' (Value.ref (ad b) :: as.map (xV (E.1, ad, E.2.2))).toArray) (xA_z (E.1, ad, E.2.2) H.size) := by
    rcases hli with hli | ⟨host, hli⟩
    · exact va_runV (Ts := wM μ) (own := μ.1.cls) (C := μ'.1.cls) (b := ad b) (As := as.map (xV (E.1, ad, E.2.2))) ⟨C.1, C.2.1, C.2.2.2.1, C.2.2.2.2.2.1, hts⟩ M ⟨callB_of n hts (xGood hco) rfl rfl rfl (hts _ (wM_g hin)) (hts _ (wM_g hli)) hde hR, hts _ (wM_g hs.1), hts _ (wM_g hs.2)⟩ hp rfl (by rw [List.length_map]; exact hn) hl.1 hst (lv_room (Nat.zero_le _)) hd ⟨hcl, hsl⟩
    · exact va_runVN (Ts := wM μ) (own := μ.1.cls) (C := μ'.1.cls) (b := ad b) (As := as.map (xV (E.1, ad, E.2.2))) ⟨C.1, C.2.1, C.2.2.2.1, C.2.2.2.2.2.1, hts⟩ M ⟨va_cnB n hts (xGood hco) rfl rfl rfl (hK.2 _ hli) (hts _ (wM_g hin)) hde hR, hts _ (wM_g hs.1), hts _ (wM_g hs.2)⟩ hp rfl (by rw [List.length_map]; exact hn) hl.1 hst (lv_room (Nat.zero_le _)) hd ⟨hcl, hsl⟩
  intro T hT X
  obtain ⟨v, st₀, t, T', L, h0, X', hL, e1, e2, ⟨⟨r, h', hv, hq', hP', hD'⟩, hz, hk⟩, stp⟩ := hrun T hT X
  obtain ⟨hr, kk'⟩ := kk r h' hq'
  subst hr
  cases hv
  rw [h0] at hz hk
  have hAA : ∀ q, xA_z (E.1, ad, E.2.2) H.size q → A q := fun q z => by
    rcases z with ⟨k, hk, rfl⟩ | z
    · exact xA_of_z hD hk
    · exact hA q (Nat.le_trans hS.1 z)
  have hSn : va_S A s.heap T'.heap (locs ++ L) := by
    refine ⟨Nat.le_trans hS.1 (by rw [e1]; exact hz), fun q h1 h2 => ?_, fun q hq => ?_⟩
    · rw [e1, hk q (Nat.lt_of_lt_of_le h1 hS.1) (fun z => h2 (hAA q z))]
      exact hS.2.1 q h1 h2
    · rcases List.mem_append.mp hq with h | h
      · exact hS.2.2 q h
      · exact hAA _ (hL q h)
  obtain ⟨t2, a1, b1⟩ := kk' p e s m args below meth c A T'.heap (locs ++ L) lsA C hnm (by rw [e1]; exact hP') (wld_addr_z hD) hSn hl T' rfl X'
  exact ⟨t2, stp t2 a1, b1⟩
end KPR
