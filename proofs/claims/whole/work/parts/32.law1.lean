def R_law : String := "RedoShelfLaw"
def lw_P (b : Addr) (xs : List Int32) (args : Array Value) (s : State) : Prop := args = #[.ref b] ∧ s.IntsAt b xs ∧ xs.length ≤ 2048 ∧ (Jvm.Cond.and given_1 narrow_1).before args s = true
def lw_Q (_ : Array Value) (s : State) (o : Outcome) (t : State) : Prop := o = .returned (some (.int 1)) ∧ Framed s o t [] 35 1445
def lw_Z (below : List Frame) (a : Array Value) (s : State) : State → Prop := fun t => ∃ o, t.status = .running ∧ Ended t below o ∧ lw_Q a s o t
/-- the law's own end, with 1 on the stack, nothing written that was there before, its room as the claim has it -/
theorem lw_ret {p : Program} {l : Launch} {e : Env} {s : State} {m : MethodId} {below : List Frame} {meth : Method} {c : Code} {b : Nat} (hx : p.tables.exec = Jvm.exec) (hb : c.code = code) (hr : meth.sig.returnType = ret) (hlocks : meth.locks = false) {pc : Nat} {H : Heap} {ls : Array Slot} (hdg : decode code pc = .ok (.ireturn, 1)) : W p l e room_1 s m #[Value.ref b] below meth c H [] 35 1445 (lw_Z below #[Value.ref b] s) (F0 m pc ls [.int 1]) := by
  intro T hT X
  obtain ⟨fs, hret, hrun, hended, hW, hframe⟩ := X.leave (v := some (.int 1)) (hlocks := hlocks) (fun h => by rw [hr] at h; cases h)
  have hmeth' : T.vm.method? m = some meth := X.method'
  refine ⟨T.setFrames fs, ?_, .returned (some (.int 1)), hrun, hended, rfl, ⟨_, rfl⟩, hW, hframe⟩
  jvm_step X.here [X.here.top, hx, hb, hdg, hmeth', hr, ret, narrow_b1]
  (try refine ⟨rfl, ?_⟩); (try refine ⟨rfl, ?_⟩)
  first | (intro acts; rw [hret _ acts rfl rfl rfl]) | rw [hret _ _ rfl rfl rfl]
  exact Steps.refl _
/-- what holds at the law's entry: the machine, the code, the tables' words (any of lw_tbl by 'hts w (by decide +kernel)'), the script of L ints xs at the cell b, what the Statement gives of the start (any of its parts by flat_of_before) -/
def lw_At (p : Program) (s : State) (m : MethodId) (meth : Method) (c : Code) (b L : Nat) (xs : Nat → Int32) : Prop :=
  p.tables.exec = Jvm.exec ∧ c.code = code ∧ meth.sig.returnType = ret ∧ c.maxLocals = 4 ∧ s.vm.findClass R_law = some m.cls ∧ (∀ w ∈ lw_tbl, w.before #[Value.ref b] s = true) ∧ va_X b L xs s s.heap ∧ b < s.heap.size ∧ meth.locks = false ∧ (Jvm.Cond.and given_1 narrow_1).before #[Value.ref b] s = true

/-! THE LAW'S BODY: a walk judgement, the 35 cells being there -/
def xLP (l : Launch) (E : xE) (p : Program) (e : Env) (s : State) (m : MethodId) (below : List Frame) (meth : Method) (c : Code) (b i pc : Nat) (st : List Value) (h : xh) : Prop :=
  ∀ (H : Heap) (locs : List Loc) (lsA : Array Slot), va_P E.1 vwCl (wld E h) H → va_D (fun q : Nat => s.heap.size ≤ q) (wld E h) → va_S (fun q : Nat => s.heap.size ≤ q) s.heap H locs → lv_has lsA 4 [(0, .ref b), (1, .ref (E.2.1 0)), (2, .ref (E.2.1 7)), (3, .int (nI i))] →
    W p l e room_1 s m #[Value.ref b] below meth c H locs 35 1445 (lw_Z below #[Value.ref b] s) (F0 m pc lsA st)
theorem lGood {μ' : xM} (h : Cond.code μ'.1 μ'.2.1 μ'.2.2.1 μ'.2.2.2.1 ∈ gW) : GoodIn lw_tbl (wM μ') := by
  intro w hw
  have key : ∀ w ∈ gW, w ∈ lw_tbl ∧ ((w.onTables && w.keeps) = true ∨ ∃ ty, w = .arrayClass ty) := fun w hw => ⟨(List.mem_filter.mp hw).1, isGood_of (List.mem_filter.mp hw).2⟩
  rcases List.mem_cons.mp hw with rfl | hw
  · exact key _ h
  · exact key _ hw
theorem gW_t {w : Cond} (h : w ∈ gW) : w ∈ lw_tbl := (List.mem_filter.mp h).1
/-- a call's words, out of the law -/
def VL (μ' : xM) (idx n : Nat) : Prop := plainName μ'.1.cls = true ∧ Cond.code μ'.1 μ'.2.1 μ'.2.2.1 μ'.2.2.2.1 ∈ gW ∧ Cond.initialized μ'.1.cls ∈ gW ∧ (μ'.1.cls ≠ "java/lang/invoke/MethodHandle" ∧ μ'.1.cls ≠ "java/lang/invoke/VarHandle" ∧ (parseMethodDescriptor μ'.1.desc).map (fun d => d.parameters.length) = some n) ∧ (μ'.2.2.2.2.1 + 1 ≤ 10 ∧ 8 + (μ'.2.2.1 + 11) + μ'.2.2.2.2.2 ≤ 392) ∧ Cond.methodLink R_law idx μ'.1 ∈ gW
section LPR
variable {l : Launch} {E : xE} {p : Program} {e : Env} {s : State} {m : MethodId} {below : List Frame} {meth : Method} {c : Code} {b i pc L : Nat} {xs : Nat → Int32} {st : List Value} {h : xh}
theorem lp_al0 (C0 : lw_At p s m meth c b L xs) (hd : decode code pc = .ok (.aload_n 0, 1)) (kk : xLP l E p e s m below meth c b i (pc + 1) (.ref b :: st) h) : xLP l E p e s m below meth c b i pc st h := by
  intro H locs lsA hP hD hS hl
  exact lv_aload_n C0.1 C0.2.1 hd rfl (lv_at hl 0 rfl) (kk H locs lsA hP hD hS hl)
theorem lp_al1 (C0 : lw_At p s m meth c b L xs) (hd : decode code pc = .ok (.aload_n 1, 1)) (kk : xLP l E p e s m below meth c b i (pc + 1) (.ref (E.2.1 0) :: st) h) : xLP l E p e s m below meth c b i pc st h := by
  intro H locs lsA hP hD hS hl
  exact lv_aload_n C0.1 C0.2.1 hd rfl (lv_at hl 1 rfl) (kk H locs lsA hP hD hS hl)
theorem lp_al2 (C0 : lw_At p s m meth c b L xs) (hd : decode code pc = .ok (.aload_n 2, 1)) (kk : xLP l E p e s m below meth c b i (pc + 1) (.ref (E.2.1 7) :: st) h) : xLP l E p e s m below meth c b i pc st h := by
  intro H locs lsA hP hD hS hl
  exact lv_aload_n C0.1 C0.2.1 hd rfl (lv_at hl 2 rfl) (kk H locs lsA hP hD hS hl)
theorem lp_il3 (C0 : lw_At p s m meth c b L xs) (hd : decode code pc = .ok (.iload_n 3, 1)) (kk : xLP l E p e s m below meth c b i (pc + 1) (.int (nI i) :: st) h) : xLP l E p e s m below meth c b i pc st h := by
  intro H locs lsA hP hD hS hl
  exact lv_iload_n C0.1 C0.2.1 hd rfl (lv_at hl 3 rfl) (kk H locs lsA hP hD hS hl)
theorem lp_iconst {n : Int} {v : Int32} (C0 : lw_At p s m meth c b L xs) (hd : decode code pc = .ok (.iconst n, 1)) (hv : Int32.ofInt n = v) (kk : xLP l E p e s m below meth c b i (pc + 1) (.int v :: st) h) : xLP l E p e s m below meth c b i pc st h := by
  intro H locs lsA hP hD hS hl
  exact lv_iconst C0.1 C0.2.1 hd hv (kk H locs lsA hP hD hS hl)
theorem lp_iadd {x y : Int32} (C0 : lw_At p s m meth c b L xs) (hd : decode code pc = .ok (.iadd, 1)) (kk : xLP l E p e s m below meth c b i (pc + 1) (.int (x + y) :: st) h) : xLP l E p e s m below meth c b i pc (.int y :: .int x :: st) h := by
  intro H locs lsA hP hD hS hl
  exact lv_iadd C0.1 C0.2.1 hd (kk H locs lsA hP hD hS hl)
theorem lp_sld {j : Nat} (C0 : lw_At p s m meth c b L xs) (hL : L ≤ 2048) (hj : j < L) (hd : decode code pc = .ok (.iaload, 1)) (kk : xLP l E p e s m below meth c b i (pc + 1) (.int (xs j) :: st) h) : xLP l E p e s m below meth c b i pc (.int (nI j) :: .ref b :: st) h := by
  intro H locs lsA hP hD hS hl
  obtain ⟨hx, hb, hr, hml, hown, hts, hX, hbl, hlocks, hgv⟩ := C0
  have hbA : ¬ (fun q : Nat => s.heap.size ≤ q) b := Nat.not_le.mpr hbl
  have hin : vp_in (nI j) L := vp_in_nI hj (by omega)
  refine va_sld hx hb hX hbl hbA hS hin hd ?_
  rw [nI_clamp (by omega)]
  exact kk H locs lsA hP hD hS hl
/-- an argument: script[i + k] -/
theorem lp_arg {k : Nat} (C0 : lw_At p s m meth c b L xs) (hL : L ≤ 2048) (hj : i + k < L) (d0 : decode code pc = .ok (.aload_n 0, 1)) (d1 : decode code (pc + 1) = .ok (.iload_n 3, 1)) (d2 : decode code (pc + 2) = .ok (.iconst (k : Int), 1)) (hv : Int32.ofInt (k : Int) = nI k) (d3 : decode code (pc + 3) = .ok (.iadd, 1)) (d4 : decode code (pc + 4) = .ok (.iaload, 1)) (kk : xLP l E p e s m below meth c b i (pc + 5) (.int (xs (i + k)) :: st) h) : xLP l E p e s m below meth c b i pc st h := by
  refine lp_al0 C0 d0 (lp_il3 C0 d1 (lp_iconst C0 d2 hv (lp_iadd C0 d3 ?_)))
  rw [nI_add]
  exact lp_sld C0 hL hj d4 kk
theorem lp_call {μ' : xM} {idx n b' ci : Nat} {fs : List (Option Nat)} {cq : vw_C} {as : List xv} {st0 rest : List Value} {Q' : Option Int32 → xh → Prop} (C0 : lw_At p s m meth c b L xs) (K : xK E s) (hd : decode code pc = .ok (.invokevirtual idx, 3)) (V : VL μ' idx n) (hs : Cond.instanceMethod μ'.1 ∈ gW ∧ Cond.selects μ'.1.cls μ'.1 μ'.1 ∈ gW) (hq : lay[b']? = some (.inl (ci, fs))) (hc : vwCl[ci]? = some cq) (hcn : cq.1 = μ'.1.cls) (hn : as.length = n) (hlen : as.length + 1 ≤ μ'.2.2.1) (hst : st0 = (as.map (xV E)).reverse ++ .ref (E.2.1 b') :: rest) (hre : (rest.map fun v => v.category).sum ≤ 8)
    (k : MC l E μ' (.inr b' :: as) h Q') (kk : ∀ r h', Q' r h' → ∃ v, r = some v ∧ xLP l E p e s m below meth c b i (pc + 3) (.int v :: rest) h') : xLP l E p e s m below meth c b i pc st0 h := by
  intro H locs lsA hP hD hS hl
  obtain ⟨hx, hb, hr, hml, hown, hts, hX, hbl, hlocks, hgv⟩ := C0
  obtain ⟨hpl, hco, hin, hde, hdp, hli⟩ := V
  have M := met_of (l := l) (E := E) (as := .inr b' :: as) H.size hpl hlen k
  have hrec : ∃ cell : Cell, H[E.2.1 b']? = some cell ∧ cell.vm.isStatics = false ∧ s.vm.findClass μ'.1.cls = some cell.cls := by
    rw [← hcn]
    exact va_recv K.1 hP hc (wld_get hq)
  have hp : PreV s H μ'.1.cls (E.2.1 b') (xPc E H.size h (.inr b' :: as)) (as.map (xV E)) := ⟨xBlind, hrec, fun U hU hW => ⟨rfl, by rw [hU], by rw [hU]; exact hP, K.warm hW, hD.weaken (fun _ _ _ _ => trivial)⟩⟩
  have hR : (rmOf μ'.2.2.2.2).frames + 1 ≤ room_1.frames ∧ 8 + (μ'.2.2.1 + 11) + (rmOf μ'.2.2.2.2).locals ≤ room_1.locals := ⟨hdp.1, hdp.2⟩
  have hrun : va_Run p l e room_1 s m #[Value.ref b] below meth c H locs 35 1445 0 0 (F0 m pc lsA st0) rest (xQc E (xA E H.size) Q' (Value.ref (E.2.1 b') :: as.map (xV E)).toArray) (xA E H.size) :=
    va_runV (Ts := lw_tbl) (own := R_law) (C := μ'.1.cls) (b := E.2.1 b') (As := as.map (xV E)) ⟨hx, hb, hml, hown, hts⟩ M ⟨callB_of n hts (lGood hco) rfl rfl rfl (hts _ (gW_t hin)) (hts _ (gW_t hli)) hde hR, hts _ (gW_t hs.1), hts _ (gW_t hs.2)⟩ hp rfl (by rw [List.length_map]; exact hn) hl.1 hst (lv_room hre) hd ⟨Nat.le_refl 35, Nat.le_refl 1445⟩
  intro T hT X
  obtain ⟨v, st₀, t, T', Lo, h0, X', hL', e1, e2, ⟨⟨r, h', hv, hq', hP', hD'⟩, hz, hk⟩, stp⟩ := hrun T hT X
  have hv : v = r.map Value.int := Outcome.returned.inj hv
  subst hv
  obtain ⟨v, hr', kk'⟩ := kk r h' hq'
  subst hr'
  rw [h0] at hz hk
  have hAA : ∀ q, xA E H.size q → s.heap.size ≤ q := fun q z => by
    rcases z with ⟨k, hk, rfl⟩ | z
    · exact xA_of hD hk
    · exact Nat.le_trans hS.1 z
  have hSn : va_S (fun q : Nat => s.heap.size ≤ q) s.heap T'.heap (locs ++ Lo) := by
    refine ⟨Nat.le_trans hS.1 (by rw [e1]; exact hz), fun q h1 h2 => ?_, fun q hq => ?_⟩
    · rw [e1, hk q (Nat.lt_of_lt_of_le h1 hS.1) (fun z => h2 (hAA q z))]
      exact hS.2.1 q h1 h2
    · rcases List.mem_append.mp hq with h | h
      · exact hS.2.2 q h
      · exact hAA _ (hL' q h)
  obtain ⟨t2, a1, b1⟩ := kk' T'.heap (locs ++ Lo) lsA (by rw [e1]; exact hP') (wld_addr hD) hSn hl T' rfl X'
  exact ⟨t2, stp t2 a1, b1⟩
theorem lp_iceq {x y : Int32} {off : Int} {tgt : Nat} (C0 : lw_At p s m meth c b L xs) (hd : decode code pc = .ok (.if_icmp .eq off, 3)) (ht : (pc : Int) + off = (tgt : Int)) (hxy : x = y) (kk : xLP l E p e s m below meth c b i tgt st h) : xLP l E p e s m below meth c b i pc (.int y :: .int x :: st) h := by
  intro H locs lsA hP hD hS hl
  exact lv_icmp_eq C0.1 C0.2.1 hd ht (fun _ => kk H locs lsA hP hD hS hl) (fun z => absurd hxy z)
end LPR
