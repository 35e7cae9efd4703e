/-! THE SMALL MACHINE: the world behind the constructors is a fixed list of cells (lay); a method's walk is WP, over a pure heap of ints. -/
abbrev xv : Type := Int32 ⊕ Nat
abbrev xh : Type := Nat → Nat → Int32
abbrev xE : Type := va_G × (Nat → Nat) × ClassId × ClassId
abbrev xM : Type := MethodName × ByteArray × Nat × Option FieldType × Nat × Nat
def hu (h : xh) (k : Nat) (f : Nat → Int32) : xh := fun j => if j = k then f else h j
theorem hu_s {h : xh} {k : Nat} {f : Nat → Int32} : hu h k f k = f := by simp [hu]
theorem hu_n {h : xh} {k j : Nat} {f : Nat → Int32} (e : j ≠ k) : hu h k f j = h j := by simp [hu, e]
def xV (E : xE) (v : xv) : Value := match v with
  | .inl x => .int x
  | .inr k => .ref (E.2.1 k)
theorem xV_cat (E : xE) (v : xv) : (xV E v).category = 1 := by cases v <;> rfl
def xF (E : xE) (f : Nat → Int32) : Nat → List (Option Nat) → List Value
  | _, [] => []
  | j, none :: r => .int (f j) :: xF E f (j + 1) r
  | j, some q :: r => .ref (E.2.1 q) :: xF E f (j + 1) r
theorem xF_cong {E : xE} {f g : Nat → Int32} : ∀ (fs : List (Option Nat)) (i : Nat), (∀ x, i ≤ x → f x = g x) → xF E f i fs = xF E g i fs
  | [], _, _ => rfl
  | none :: r, i, e => by
    simp only [xF]
    rw [e i (Nat.le_refl i), xF_cong r (i + 1) (fun x hx => e x (by omega))]
  | some q :: r, i, e => by
    simp only [xF]
    rw [xF_cong r (i + 1) (fun x hx => e x (by omega))]
theorem xF_len {E : xE} {f : Nat → Int32} : ∀ (fs : List (Option Nat)) (i : Nat), (xF E f i fs).length = fs.length
  | [], _ => rfl
  | none :: r, i => by simp [xF, xF_len r (i + 1)]
  | some q :: r, i => by simp [xF, xF_len r (i + 1)]
theorem xF_int {E : xE} {f : Nat → Int32} : ∀ (fs : List (Option Nat)) (i j : Nat), fs[j]? = some none → (xF E f i fs)[j]? = some (.int (f (i + j)))
  | [], _, _, h => by simp at h
  | none :: r, i, 0, _ => by simp [xF]
  | some q :: r, i, 0, h => by simp at h
  | none :: r, i, j + 1, h => by
    simp only [xF, List.getElem?_cons_succ] at h ⊢
    rw [xF_int r (i + 1) j h, show i + 1 + j = i + (j + 1) by omega]
  | some q :: r, i, j + 1, h => by
    simp only [xF, List.getElem?_cons_succ] at h ⊢
    rw [xF_int r (i + 1) j h, show i + 1 + j = i + (j + 1) by omega]
theorem xF_ref {E : xE} {f : Nat → Int32} {z : Nat} : ∀ (fs : List (Option Nat)) (i j : Nat), fs[j]? = some (some z) → (xF E f i fs)[j]? = some (.ref (E.2.1 z))
  | [], _, _, h => by simp at h
  | none :: r, i, 0, h => by simp at h
  | some q :: r, i, 0, h => by
    simp only [List.getElem?_cons_zero, Option.some.injEq] at h
    simp [xF, h]
  | none :: r, i, j + 1, h => by
    simp only [xF, List.getElem?_cons_succ] at h ⊢
    exact xF_ref r (i + 1) j h
  | some q :: r, i, j + 1, h => by
    simp only [xF, List.getElem?_cons_succ] at h ⊢
    exact xF_ref r (i + 1) j h
theorem xF_set {E : xE} {f : Nat → Int32} {v : Int32} : ∀ (fs : List (Option Nat)) (i j : Nat), fs[j]? = some none → (xF E f i fs).set j (.int v) = xF E (upd f (i + j) v) i fs
  | [], _, _, h => by simp at h
  | none :: r, i, 0, _ => by
    simp only [xF, List.set_cons_zero, Nat.add_zero]
    rw [xF_cong (g := upd f i v) r (i + 1) (fun x hx => by simp [upd, show ¬ x = i by omega])]
    simp [upd]
  | some q :: r, i, 0, h => by simp at h
  | none :: r, i, j + 1, h => by
    simp only [List.getElem?_cons_succ] at h
    simp only [xF, List.set_cons_succ]
    rw [xF_set r (i + 1) j h, show i + 1 + j = i + (j + 1) by omega]
    simp [upd]
  | some q :: r, i, j + 1, h => by
    simp only [List.getElem?_cons_succ] at h
    simp only [xF, List.set_cons_succ]
    rw [xF_set r (i + 1) j h, show i + 1 + j = i + (j + 1) by omega]
def xC (E : xE) (f : Nat → Int32) (q : xk) : va_E := match q with
  | .inl o => .inr (o.1, xF E f 0 o.2)
  | .inr a => .inl ((bif a.1 then E.2.2.2 else E.2.2.1), a.2, .inl f)
def xW (E : xE) (h : xh) : Nat → List xk → va_W
  | _, [] => []
  | k, q :: r => (E.2.1 k, xC E (h k) q) :: xW E h (k + 1) r
theorem xW_get {E : xE} {h : xh} : ∀ (L : List xk) (i k : Nat), (xW E h i L)[k]? = (L[k]?).map (fun q => (E.2.1 (i + k), xC E (h (i + k)) q))
  | [], _, _ => by simp [xW]
  | q :: r, i, 0 => by simp [xW]
  | q :: r, i, k + 1 => by
    simp only [xW, List.getElem?_cons_succ]
    rw [xW_get r (i + 1) k, show i + 1 + k = i + (k + 1) by omega]
theorem xW_cong {E : xE} {h h' : xh} : ∀ (L : List xk) (i : Nat), (∀ x, i ≤ x → h x = h' x) → xW E h i L = xW E h' i L
  | [], _, _ => rfl
  | q :: r, i, e => by
    simp only [xW]
    rw [e i (Nat.le_refl i), xW_cong r (i + 1) (fun x hx => e x (by omega))]
theorem xW_set {E : xE} {h : xh} {f : Nat → Int32} {q : xk} : ∀ (L : List xk) (i k : Nat), L[k]? = some q → (xW E h i L).set k (E.2.1 (i + k), xC E f q) = xW E (hu h (i + k) f) i L
  | [], _, _, e => by simp at e
  | z :: r, i, 0, e => by
    simp only [List.getElem?_cons_zero, Option.some.injEq] at e
    subst e
    simp only [xW, List.set_cons_zero, Nat.add_zero]
    rw [xW_cong (h' := hu h i f) r (i + 1) (fun x hx => by simp [hu, show ¬ x = i by omega])]
    simp [hu]
  | z :: r, i, k + 1, e => by
    simp only [List.getElem?_cons_succ] at e
    simp only [xW, List.set_cons_succ]
    have e2 := xW_set (E := E) (h := h) (f := f) r (i + 1) k e
    rw [show i + 1 + k = i + (k + 1) by omega] at e2
    rw [e2]
    have e3 : hu h (i + (k + 1)) f i = h i := hu_n (by omega)
    rw [e3]
def wld (E : xE) (h : xh) : va_W := xW E h 0 lay
theorem wld_get {E : xE} {h : xh} {k : Nat} {q : xk} (e : lay[k]? = some q) : (wld E h)[k]? = some (E.2.1 k, xC E (h k) q) := by
  unfold wld
  rw [xW_get, e]
  simp
theorem wld_set {E : xE} {h : xh} {k : Nat} {q : xk} {f : Nat → Int32} (e : lay[k]? = some q) : (wld E h).set k (E.2.1 k, xC E f q) = wld E (hu h k f) := by
  unfold wld
  have := xW_set (E := E) (h := h) (f := f) lay 0 k e
  rw [Nat.zero_add] at this
  exact this
theorem wld_addr {E : xE} {h h' : xh} {A : Nat → Prop} (hD : va_D A (wld E h)) : va_D A (wld E h') := by
  have key : ∀ (k : Nat) (x : Nat × va_E), (wld E h')[k]? = some x → ∃ y, (wld E h)[k]? = some y ∧ y.1 = x.1 := by
    intro k x hx
    unfold wld at hx ⊢
    rw [xW_get] at hx ⊢
    cases hq : lay[k]? with
    | none => rw [hq] at hx; cases hx
    | some q =>
      rw [hq] at hx
      cases hx
      exact ⟨_, rfl, rfl⟩
  refine ⟨fun i j x y hi hj hxy => ?_, fun k x hk => ?_⟩
  · obtain ⟨x', h1, h2⟩ := key i x hi
    obtain ⟨y', h3, h4⟩ := key j y hj
    exact hD.1 i j x' y' h1 h3 (h2.trans (hxy.trans h4.symm))
  · obtain ⟨x', h1, h2⟩ := key k x hk
    rw [← h2]
    exact hD.2 k x' h1
def isNest : Cond → Bool
  | .fieldLinkNest .. => true
  | .methodLinkNest .. => true
  | _ => false
def isGood (w : Cond) : Bool := k2_isCode w || goodWord w
def gW : List Cond := lw_tbl.filter isGood
def nW : List Cond := lw_tbl.filter isNest
theorem gW_in {w : Cond} (h : w ∈ lw_tbl) (g : isGood w = true) : w ∈ gW := List.mem_filter.mpr ⟨h, g⟩
theorem nW_in {w : Cond} (h : w ∈ lw_tbl) (g : isNest w = true) : w ∈ nW := List.mem_filter.mpr ⟨h, g⟩
theorem isGood_of {w : Cond} (h : isGood w = true) : (w.onTables && w.keeps) = true ∨ ∃ ty, w = .arrayClass ty := by
  unfold isGood at h
  rcases Bool.or_eq_true_iff.mp h with h | h
  · cases w <;> first | (simp [k2_isCode] at h; done) | exact Or.inl rfl
  · exact good_of_word h
def wM (μ : xM) : List Cond := .code μ.1 μ.2.1 μ.2.2.1 μ.2.2.2.1 :: gW
theorem wM_g {μ : xM} {w : Cond} (h : w ∈ gW) : w ∈ wM μ := List.mem_cons_of_mem _ h
def rmOf (d : Nat × Nat) : Room := { frames := d.1, cells := 0, slots := 0, locals := d.2 }
def xtys (E : xE) : List (ClassId × FieldType) := [(E.2.2.1, .int), (E.2.2.2, .boolean)]
def xK (E : xE) (U : State) : Prop := va_K E.1 vwCl (xtys E) U ∧ ∀ w ∈ nW, va_Nw w U
theorem xK.warm {E : xE} {s U : State} (hW : s.WarmedH U.vm) (h : xK E s) : xK E U := by
  refine ⟨va_K.moved hW.alike h.1, fun w hw => ?_⟩
  have h1 := h.2 w hw
  have h2 := (List.mem_filter.mp hw).2
  cases w <;> first | (simp [isNest] at h2; done) | exact va_Nw.warmF hW h1 | exact va_Nw.warmM hW h1
theorem xK.same {E : xE} {s U : State} (hW : s.vm = U.vm) (h : xK E s) : xK E U := by
  refine ⟨va_K.moved (by rw [hW]; exact Vm.Alike.refl U.vm) h.1, fun w hw => ?_⟩
  have h1 := h.2 w hw
  have h2 := (List.mem_filter.mp hw).2
  cases w <;> first | (simp [isNest] at h2; done) | exact va_Nw.same rfl hW h1
/-- what a method may change: the world's cells, and new ones -/
def xA (E : xE) (sz : Nat) : Nat → Prop := fun q => (∃ k, k < lay.length ∧ q = E.2.1 k) ∨ sz ≤ q
theorem xA_of {E : xE} {h : xh} {A : Nat → Prop} (hD : va_D A (wld E h)) {k : Nat} (hk : k < lay.length) : A (E.2.1 k) := by
  have h1 : lay[k]? = some lay[k] := List.getElem?_eq_getElem hk
  exact hD.2 k _ (wld_get h1)
theorem xA_D {E : xE} {h : xh} {A : Nat → Prop} {sz : Nat} (hD : va_D A (wld E h)) : va_D (xA E sz) (wld E h) := by
  refine ⟨hD.1, fun k x hk => ?_⟩
  unfold wld at hk
  rw [xW_get] at hk
  cases hq : lay[k]? with
  | none => rw [hq] at hk; cases hk
  | some q =>
    rw [hq] at hk
    cases hk
    exact Or.inl ⟨k, (List.getElem?_eq_some_iff.mp hq).1, by simp⟩
def xPc (E : xE) (sz : Nat) (h : xh) (as : List xv) : Array Value → State → Prop := va_Pc (as.map (xV E)) (fun U => U.heap.size = sz ∧ va_P E.1 vwCl (wld E h) U.heap ∧ xK E U ∧ va_D (fun _ => True) (wld E h))
def xQc (E : xE) (A : Nat → Prop) (Q : Option Int32 → xh → Prop) : Array Value → State → Outcome → State → Prop := fun _ st oc t => (∃ (r : Option Int32) (h' : xh), oc = .returned (r.map Value.int) ∧ Q r h' ∧ va_P E.1 vwCl (wld E h') t.heap ∧ va_D A (wld E h')) ∧ va_F A st t
def CX (E : xE) (μ : xM) (p : Program) (s : State) (m : MethodId) (args : Array Value) (meth : Method) (c : Code) (A : Nat → Prop) : Prop :=
  p.tables.exec = Jvm.exec ∧ c.code = μ.2.1 ∧ meth.sig.returnType = μ.2.2.2.1 ∧ c.maxLocals = μ.2.2.1 ∧ (∀ w ∈ wM μ, w.before args s = true) ∧ s.vm.findClass μ.1.cls = some m.cls ∧ meth.locks = false ∧ xK E s ∧ (∀ q, s.heap.size ≤ q → A q)
def xI (E : xE) (A : Nat → Prop) (s : State) (h : xh) (H : Heap) (locs : List Loc) : Prop := va_P E.1 vwCl (wld E h) H ∧ va_D A (wld E h) ∧ va_S A s.heap H locs
abbrev xls (E : xE) (ls : List (Nat × xv)) : List (Nat × Value) := ls.map (fun q => (q.1, xV E q.2))
/-- from this place of this method the machine comes to its end with Q -/
def WP (l : Launch) (E : xE) (μ : xM) (pc : Nat) (ls : List (Nat × xv)) (st : List xv) (h : xh) (Q : Option Int32 → xh → Prop) : Prop :=
  ∀ (p : Program) (e : Env) (s : State) (m : MethodId) (args : Array Value) (below : List Frame) (meth : Method) (c : Code) (A : Nat → Prop) (H : Heap) (locs : List Loc) (lsA : Array Slot),
    CX E μ p s m args meth c A → xI E A s h H locs → lv_has lsA μ.2.2.1 (xls E ls) →
    W p l e (rmOf μ.2.2.2.2) s m args below meth c H locs 0 0 (MQ below (xQc E A Q) args s 0 0 A) (F0 m pc lsA (st.map (xV E)))
def lget : List (Nat × xv) → Nat → Option xv
  | [], _ => none
  | (j, v) :: r, i => bif Nat.beq j i then some v else lget r i
def lrem (i : Nat) : List (Nat × xv) → List (Nat × xv)
  | [] => []
  | (j, v) :: r => bif Nat.beq j i then lrem i r else (j, v) :: lrem i r
def lins (i : Nat) (v : xv) : List (Nat × xv) → List (Nat × xv)
  | [] => [(i, v)]
  | (j, w) :: r => bif Nat.ble i j then (i, v) :: (j, w) :: r else (j, w) :: lins i v r
def lset (ls : List (Nat × xv)) (i : Nat) (v : xv) : List (Nat × xv) := lins i v (lrem i ls)
theorem lget_mem : ∀ {ls : List (Nat × xv)} {i : Nat} {v : xv}, lget ls i = some v → (i, v) ∈ ls
  | [], _, _, h => by cases h
  | (j, w) :: r, i, v, h => by
    unfold lget at h
    cases hb : Nat.beq j i with
    | true =>
      rw [hb] at h
      simp only [cond_true, Option.some.injEq] at h
      have := Nat.eq_of_beq_eq_true hb
      subst this; subst h
      exact List.mem_cons_self
    | false =>
      rw [hb] at h
      simp only [cond_false] at h
      exact List.mem_cons_of_mem _ (lget_mem h)
theorem lrem_mem {i : Nat} : ∀ {ls : List (Nat × xv)} {q : Nat × xv}, q ∈ lrem i ls → q ∈ ls ∧ ¬ q.1 = i
  | [], _, h => by cases h
  | (j, w) :: r, q, h => by
    unfold lrem at h
    cases hb : Nat.beq j i with
    | true =>
      rw [hb] at h
      simp only [cond_true] at h
      exact ⟨List.mem_cons_of_mem _ (lrem_mem h).1, (lrem_mem h).2⟩
    | false =>
      rw [hb] at h
      simp only [cond_false] at h
      rcases List.mem_cons.mp h with rfl | h
      · exact ⟨List.mem_cons_self, Nat.ne_of_beq_eq_false hb⟩
      · exact ⟨List.mem_cons_of_mem _ (lrem_mem h).1, (lrem_mem h).2⟩
theorem lins_mem {i : Nat} {v : xv} : ∀ {ls : List (Nat × xv)} {q : Nat × xv}, q ∈ lins i v ls → q = (i, v) ∨ q ∈ ls
  | [], _, h => by
    unfold lins at h
    exact Or.inl (List.mem_singleton.mp h)
  | (j, w) :: r, q, h => by
    unfold lins at h
    cases hb : Nat.ble i j with
    | true =>
      rw [hb] at h
      simp only [cond_true] at h
      rcases List.mem_cons.mp h with h | h
      · exact Or.inl h
      · exact Or.inr h
    | false =>
      rw [hb] at h
      simp only [cond_false] at h
      rcases List.mem_cons.mp h with h | h
      · exact Or.inr (by rw [h]; exact List.mem_cons_self)
      · rcases lins_mem h with h | h
        · exact Or.inl h
        · exact Or.inr (List.mem_cons_of_mem _ h)
theorem xls_get {E : xE} {ls : List (Nat × xv)} {lsA : Array Slot} {nL i : Nat} {v : xv} (hl : lv_has lsA nL (xls E ls)) (h : lget ls i = some v) : lsA[i]? = some (.val (xV E v)) :=
  hl.2.2 (i, xV E v) (List.mem_map.mpr ⟨(i, v), lget_mem h, rfl⟩)
theorem xls_set {E : xE} {ls ls' : List (Nat × xv)} {lsA : Array Slot} {nL i : Nat} {v : xv} {f : Nat × Value → Bool} (hf : f = (fun q => !(q.1 == i) && !(q.1 + 1 == i && q.2.category == 2))) (hl : lv_has lsA nL ((i, xV E v) :: (xls E ls).filter f)) (h : lset ls i v = ls') : lv_has lsA nL (xls E ls') := by
  refine ⟨hl.1, hl.2.1, fun q hq => hl.2.2 q ?_⟩
  subst h
  obtain ⟨z, hz, rfl⟩ := List.mem_map.mp hq
  rcases lins_mem hz with rfl | hz
  · exact List.mem_cons_self
  · obtain ⟨h1, h2⟩ := lrem_mem hz
    refine List.mem_cons_of_mem _ (List.mem_filter.mpr ⟨List.mem_map.mpr ⟨z, h1, rfl⟩, ?_⟩)
    rw [hf]
    simp [h2, xV_cat]
