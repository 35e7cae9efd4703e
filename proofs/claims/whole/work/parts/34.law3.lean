/-! THE LAW: its loop, and its start -/
theorem ls_1_1 : (Jvm.Cond.initialized "RedoShelf") ∈ gW := gW_in (tb_1 (List.mem_of_getElem? (i := 1) rfl)) rfl
theorem ls_1_11 : (Jvm.Cond.classLink "RedoShelfLaw" (7 : Nat) "RedoShelf") ∈ gW := gW_in (tb_1 (List.mem_of_getElem? (i := 11) rfl)) rfl
theorem ls_1_12 : (Jvm.Cond.instantiable "RedoShelf" (11 : Nat)) ∈ gW := gW_in (tb_1 (List.mem_of_getElem? (i := 12) rfl)) rfl
theorem ls_1_123 : (Jvm.Cond.instantiable "RedoShelf$Job" (5 : Nat)) ∈ gW := gW_in (tb_1 (List.mem_of_getElem? (i := 123) rfl)) rfl
theorem ls_1_13 : (Jvm.Cond.methodLink "RedoShelfLaw" (9 : Nat) ({ cls := "RedoShelf", name := "<init>", desc := "()V" } : Jvm.MethodName)) ∈ gW := gW_in (tb_1 (List.mem_of_getElem? (i := 13) rfl)) rfl
theorem ls_1_14 : (Jvm.Cond.instanceMethod ({ cls := "RedoShelf", name := "<init>", desc := "()V" } : Jvm.MethodName)) ∈ gW := gW_in (tb_1 (List.mem_of_getElem? (i := 14) rfl)) rfl
theorem ls_1_15 : (Jvm.Cond.code ({ cls := "RedoShelf", name := "<init>", desc := "()V" } : Jvm.MethodName) prog_1_method_1_code (1 : Nat) (Option.none : Option Jvm.ClassFile.FieldType)) ∈ gW := gW_in (tb_1 (List.mem_of_getElem? (i := 15) rfl)) rfl
theorem ls_1_20 : (Jvm.Cond.instantiable "RedoShelf$Device" (4 : Nat)) ∈ gW := gW_in (tb_1 (List.mem_of_getElem? (i := 20) rfl)) rfl
theorem ls_1_39 : (Jvm.Cond.arrayClass Jvm.ClassFile.FieldType.int) ∈ gW := gW_in (tb_1 (List.mem_of_getElem? (i := 39) rfl)) rfl
theorem ls_1_41 : (Jvm.Cond.instantiable "RedoShelf$Images" (3 : Nat)) ∈ gW := gW_in (tb_1 (List.mem_of_getElem? (i := 41) rfl)) rfl
theorem ls_1_56 : (Jvm.Cond.arrayClass Jvm.ClassFile.FieldType.boolean) ∈ gW := gW_in (tb_1 (List.mem_of_getElem? (i := 56) rfl)) rfl
theorem ls_1_58 : (Jvm.Cond.instantiable "RedoShelf$Row" (4 : Nat)) ∈ gW := gW_in (tb_1 (List.mem_of_getElem? (i := 58) rfl)) rfl
theorem ls_1_7 : (Jvm.Cond.initialized "RedoShelfModel") ∈ gW := gW_in (tb_1 (List.mem_of_getElem? (i := 7) rfl)) rfl
theorem ls_1_77 : (Jvm.Cond.instantiable "RedoShelf$LogReader" (13 : Nat)) ∈ gW := gW_in (tb_1 (List.mem_of_getElem? (i := 77) rfl)) rfl
theorem ls_3_23 : (Jvm.Cond.classLink "RedoShelfLaw" (10 : Nat) "RedoShelfModel") ∈ gW := gW_in (tb_3 (List.mem_of_getElem? (i := 23) rfl)) rfl
theorem ls_3_24 : (Jvm.Cond.instantiable "RedoShelfModel" (23 : Nat)) ∈ gW := gW_in (tb_3 (List.mem_of_getElem? (i := 24) rfl)) rfl
theorem ls_3_25 : (Jvm.Cond.methodLink "RedoShelfLaw" (12 : Nat) ({ cls := "RedoShelfModel", name := "<init>", desc := "()V" } : Jvm.MethodName)) ∈ gW := gW_in (tb_3 (List.mem_of_getElem? (i := 25) rfl)) rfl
theorem ls_3_26 : (Jvm.Cond.instanceMethod ({ cls := "RedoShelfModel", name := "<init>", desc := "()V" } : Jvm.MethodName)) ∈ gW := gW_in (tb_3 (List.mem_of_getElem? (i := 26) rfl)) rfl
theorem ls_3_27 : (Jvm.Cond.code ({ cls := "RedoShelfModel", name := "<init>", desc := "()V" } : Jvm.MethodName) prog_8_method_1_code (1 : Nat) (Option.none : Option Jvm.ClassFile.FieldType)) ∈ gW := gW_in (tb_3 (List.mem_of_getElem? (i := 27) rfl)) rfl
theorem lv_RS_init : VL M_RS_init 9 0 := ⟨by decide +kernel, ls_1_15, ls_1_1, ⟨by decide +kernel, by decide +kernel, by decide +kernel⟩, ⟨by decide, by decide⟩, ls_1_13⟩
theorem lv_MD_init : VL M_MD_init 12 0 := ⟨by decide +kernel, ls_3_27, ls_1_7, ⟨by decide +kernel, by decide +kernel, by decide +kernel⟩, ⟨by decide, by decide⟩, ls_3_25⟩
theorem c4 : Int32.ofInt 4 = nI 4 := by decide +kernel
theorem c31 : (Int8.ofInt 31).toInt32 = nI 31 := by decide +kernel
section LLO
variable {l : Launch} {E : xE} {p : Program} {e : Env} {s : State} {m : MethodId} {below : List Frame} {meth : Method} {c : Code} {b L : Nat} {xs : Nat → Int32}
theorem law_exit {i : Nat} {h : xh} (C0 : lw_At p s m meth c b L xs) : xLP l E p e s m below meth c b i 513 [] h := by
  intro H locs lsA hP hD hS hl
  obtain ⟨hx, hb, hr, hml, hown, hts, hX, hbl, hlocks, hgv⟩ := C0
  refine lv_iconst (v := 1) hx hb dl_513 (by decide) ?_
  refine va_forget (fun q hq => hS.2.2 q hq) ?_
  exact lw_ret hx hb hr hlocks dl_514
theorem law_loop (C0 : lw_At p s m meth c b L xs) (K : xK E s) (hL : L ≤ 2048) : ∀ (n i : Nat) (h : xh), L < i + 4 * n → i ≤ L → Rel (1 + 6 * i) h → xLP l E p e s m below meth c b i 18 [] h := by
  intro n
  induction n with
  | zero => intro i h h1 h2; exact absurd h1 (by omega)
  | succ n ih =>
    intro i h h1 h2 R
    have cont : i + 4 ≤ L → ∀ h', Rel (1 + 6 * i + 24) h' → xLP l E p e s m below meth c b i 507 [] h' := by
      intro hi h' R' H locs lsA hP hD hS hl
      refine lv_iinc (v := nI (i + 4)) (lv' := [(3, .int (nI (i + 4))), (0, .ref b), (1, .ref (E.2.1 0)), (2, .ref (E.2.1 7))]) C0.1 C0.2.1 dl_507 hl (k := 3) rfl (by rw [c4, nI_add]) (by decide) rfl (fun ls hl => ?_)
      refine lv_goto (tgt := 18) C0.1 C0.2.1 dl_510 (by decide) ?_
      have R2 : Rel (1 + 6 * (i + 4)) h' := R'.mono (by omega)
      exact ih (i + 4) h' (by omega) hi R2 H locs ls hP hD hS (lv_sub hl [1, 2, 3, 0] rfl)
    intro H locs lsA hP hD hS hl
    obtain ⟨hx, hb, hr, hml, hown, hts, hX, hbl, hlocks, hgv⟩ := id C0
    have hbA : ¬ (fun q : Nat => s.heap.size ≤ q) b := Nat.not_le.mpr hbl
    refine lv_iload_n hx hb dl_18 rfl (lv_at hl 3 rfl) ?_
    refine lv_aload_n hx hb dl_19 rfl (lv_at hl 0 rfl) ?_
    refine va_slen hx hb hX hbl hbA hS dl_20 ?_
    refine lv_iconst (v := nI 4) hx hb dl_21 c4 ?_
    refine lv_isub hx hb dl_22 ?_
    show W p l e room_1 s m #[Value.ref b] below meth c H locs 35 1445 (lw_Z below #[Value.ref b] s) (F0 m 23 lsA [.int (nI L - nI 4), .int (nI i)])
    refine lv_icmp_gt (tgt := 513) hx hb dl_23 (by decide) (fun _ => law_exit C0 H locs lsA hP hD hS hl) (fun cg => ?_)
    have hi : i + 4 ≤ L := by
      rcases Nat.lt_or_ge L 4 with q | q
      · have e1 : nI L - nI 4 < 0 := pk_sneg (by decide) q
        exact absurd (Int32.lt_of_lt_of_le e1 (nI_pos' (by omega))) cg
      · rw [nsub q] at cg
        have := nnlt cg (by omega)
        omega
    refine lv_aload_n hx hb dl_26 rfl (lv_at hl 0 rfl) ?_
    refine lv_iload_n hx hb dl_27 rfl (lv_at hl 3 rfl) ?_
    have hin : vp_in (nI i) L := vp_in_nI (by omega) (by omega)
    refine va_sld hx hb hX hbl hbA hS hin dl_28 ?_
    refine lv_bipush (v := nI 31) hx hb dl_29 c31 ?_
    refine lv_iand hx hb dl_31 ?_
    obtain ⟨j, hj, ej⟩ := pk_andE (xs (nI i).toNatClampNeg) (m := nI 31) 5 (by decide +kernel)
    rw [ej]
    have hj : j < 32 := hj
    rcases (show j = 0 ∨ j = 1 ∨ j = 2 ∨ j = 3 ∨ j = 4 ∨ j = 5 ∨ j = 6 ∨ j = 7 ∨ j = 8 ∨ j = 9 ∨ j = 10 ∨ j = 11 ∨ j = 12 ∨ j = 13 ∨ j = 14 ∨ j = 15 ∨ j = 16 ∨ 17 ≤ j by omega) with rfl | rfl | rfl | rfl | rfl | rfl | rfl | rfl | rfl | rfl | rfl | rfl | rfl | rfl | rfl | rfl | rfl | hj
    · exact lv_tableIn (off := 84) (tgt := 116) hx hb dl_32 (by decide +kernel) (by decide +kernel) (by decide +kernel) (by decide) (lk_0 C0 K hL (by omega) (by omega) R (cont hi) H locs lsA hP hD hS hl)
    · exact lv_tableIn (off := 127) (tgt := 159) hx hb dl_32 (by decide +kernel) (by decide +kernel) (by decide +kernel) (by decide) (lk_1 C0 K hL (by omega) (by omega) R (cont hi) H locs lsA hP hD hS hl)
    · exact lv_tableIn (off := 150) (tgt := 182) hx hb dl_32 (by decide +kernel) (by decide +kernel) (by decide +kernel) (by decide) (lk_2 C0 K hL (by omega) (by omega) R (cont hi) H locs lsA hP hD hS hl)
    · exact lv_tableIn (off := 193) (tgt := 225) hx hb dl_32 (by decide +kernel) (by decide +kernel) (by decide +kernel) (by decide) (lk_3 C0 K hL (by omega) (by omega) R (cont hi) H locs lsA hP hD hS hl)
    · exact lv_tableIn (off := 206) (tgt := 238) hx hb dl_32 (by decide +kernel) (by decide +kernel) (by decide +kernel) (by decide) (lk_4 C0 K hL (by omega) (by omega) R (cont hi) H locs lsA hP hD hS hl)
    · exact lv_tableIn (off := 219) (tgt := 251) hx hb dl_32 (by decide +kernel) (by decide +kernel) (by decide +kernel) (by decide) (lk_5 C0 K hL (by omega) (by omega) R (cont hi) H locs lsA hP hD hS hl)
    · exact lv_tableIn (off := 232) (tgt := 264) hx hb dl_32 (by decide +kernel) (by decide +kernel) (by decide +kernel) (by decide) (lk_6 C0 K hL (by omega) (by omega) R (cont hi) H locs lsA hP hD hS hl)
    · exact lv_tableIn (off := 255) (tgt := 287) hx hb dl_32 (by decide +kernel) (by decide +kernel) (by decide +kernel) (by decide) (lk_7 C0 K hL (by omega) (by omega) R (cont hi) H locs lsA hP hD hS hl)
    · exact lv_tableIn (off := 288) (tgt := 320) hx hb dl_32 (by decide +kernel) (by decide +kernel) (by decide +kernel) (by decide) (lk_8 C0 K hL (by omega) (by omega) R (cont hi) H locs lsA hP hD hS hl)
    · exact lv_tableIn (off := 321) (tgt := 353) hx hb dl_32 (by decide +kernel) (by decide +kernel) (by decide +kernel) (by decide) (lk_9 C0 K hL (by omega) (by omega) R (cont hi) H locs lsA hP hD hS hl)
    · exact lv_tableIn (off := 354) (tgt := 386) hx hb dl_32 (by decide +kernel) (by decide +kernel) (by decide +kernel) (by decide) (lk_10 C0 K hL (by omega) (by omega) R (cont hi) H locs lsA hP hD hS hl)
    · exact lv_tableIn (off := 387) (tgt := 419) hx hb dl_32 (by decide +kernel) (by decide +kernel) (by decide +kernel) (by decide) (lk_11 C0 K hL (by omega) (by omega) R (cont hi) H locs lsA hP hD hS hl)
    · exact lv_tableIn (off := 400) (tgt := 432) hx hb dl_32 (by decide +kernel) (by decide +kernel) (by decide +kernel) (by decide) (lk_12 C0 K hL (by omega) (by omega) R (cont hi) H locs lsA hP hD hS hl)
    · exact lv_tableIn (off := 413) (tgt := 445) hx hb dl_32 (by decide +kernel) (by decide +kernel) (by decide +kernel) (by decide) (lk_13 C0 K hL (by omega) (by omega) R (cont hi) H locs lsA hP hD hS hl)
    · exact lv_tableIn (off := 426) (tgt := 458) hx hb dl_32 (by decide +kernel) (by decide +kernel) (by decide +kernel) (by decide) (lk_14 C0 K hL (by omega) (by omega) R (cont hi) H locs lsA hP hD hS hl)
    · exact lv_tableIn (off := 439) (tgt := 471) hx hb dl_32 (by decide +kernel) (by decide +kernel) (by decide +kernel) (by decide) (lk_15 C0 K hL (by omega) (by omega) R (cont hi) H locs lsA hP hD hS hl)
    · exact lv_tableIn (off := 462) (tgt := 494) hx hb dl_32 (by decide +kernel) (by decide +kernel) (by decide +kernel) (by decide) (lk_16 C0 K hL (by omega) (by omega) R (cont hi) H locs lsA hP hD hS hl)
    · have e1 : (nI j).toInt = (j : Int) := nI_toInt (by omega)
      exact lv_tableOut (tgt := 507) hx hb dl_32 (Or.inr (by rw [e1]; omega)) (by decide) (cont hi h (R.mono (by omega)) H locs lsA hP hD hS hl)
end LLO

section LCT
variable {l : Launch} {E : xE} {p : Program} {e : Env} {s : State} {m : MethodId} {below : List Frame} {meth : Method} {c : Code} {b L : Nat} {xs : Nat → Int32}
/-- a constructor, called by the law -/
theorem lw_ctor {μ' : xM} {idx nc ns b' pc cells slots : Nat} {ws wc wr : va_W} {rest : List Value} {Q' : va_W → Prop} {Qf : State → Prop} {H : Heap} {locs : List Loc} {lsA : Array Slot} {lsl : List (Nat × Value)} (C0 : lw_At p s m meth c b L xs) (K : xK E s) (hd : decode code pc = .ok (.invokespecial idx, 3)) (V : VL μ' idx 0) (hi : Cond.instanceMethod μ'.1 ∈ gW) (hn : μ'.1.name = "<init>") (hr : μ'.2.2.2.1 = none) (hlen : 1 ≤ μ'.2.2.1) (isC isR : List Nat) (hC : isC.map (fun i => ws[i]?) = wc.map some) (hR : isR.map (fun i => ws[i]?) = wr.map some) (hnd : va_nd isR = true) (hndC : va_nd isC = true) (hdis : ∀ i ∈ isR, i ∉ isC) (hre : (rest.map fun v => v.category).sum ≤ 8) (h1 : cells + nc ≤ 35) (h2 : slots + ns ≤ 1445)
    (k : KP l E μ' nc ns 0 b' [] wc 0 0 Q') (hP : va_P E.1 vwCl ws H) (hD : va_D (fun q : Nat => s.heap.size ≤ q) ws) (hS : va_S (fun q : Nat => s.heap.size ≤ q) s.heap H locs) (hl : lv_has lsA 4 lsl)
    (kk : ∀ (w1 : va_W) (H1 : Heap) (locs1 : List Loc), Q' w1 → va_P E.1 vwCl (wr ++ w1) H1 → va_D (fun q : Nat => s.heap.size ≤ q) (wr ++ w1) → va_S (fun q : Nat => s.heap.size ≤ q) s.heap H1 locs1 → W p l e room_1 s m #[Value.ref b] below meth c H1 locs1 (cells + nc) (slots + ns) Qf (F0 m (pc + 3) lsA rest)) : W p l e room_1 s m #[Value.ref b] below meth c H locs cells slots Qf (F0 m pc lsA (.ref b' :: rest)) := by
  obtain ⟨hx, hb, hrt, hml, hown, hts, hX, hbl, hlocks, hgv⟩ := C0
  obtain ⟨hpl, hco, hin, hde, hdp, hli⟩ := V
  have hA : ∀ q : Nat, s.heap.size ≤ q → (fun q : Nat => s.heap.size ≤ q) q := fun _ h => h
  have M := kmet (l := l) (E := E) H.size hpl hlen hn k
  have hPc : va_P E.1 vwCl wc H := fun k q hq => by
    have h1 : (isC.map (fun i => ws[i]?))[k]? = some (some q) := by rw [hC, List.getElem?_map, hq]; rfl
    rw [List.getElem?_map] at h1
    cases hi : isC[k]? with
    | none => rw [hi] at h1; cases h1
    | some i => rw [hi] at h1; exact hP i q (Option.some.inj h1)
  have hDc := hD.sub isC hndC hC
  have hF := va_free hD hS hA isC hC
  have hp : PreS s H (kPc E H.size wc b') [.ref b'] := ⟨kBlind, fun U hU hW => ⟨rfl, by rw [hU], by rw [hU]; exact hPc, K.warm hW, hDc.weaken (fun _ _ _ _ => trivial)⟩⟩
  have hR' : (rmK μ' nc ns).frames + 1 ≤ room_1.frames ∧ 8 + (μ'.2.2.1 + 11) + (rmK μ' nc ns).locals ≤ room_1.locals := ⟨hdp.1, hdp.2⟩
  have hrun : va_Run p l e room_1 s m #[Value.ref b] below meth c H locs cells slots nc ns (F0 m pc lsA (.ref b' :: rest)) rest (kQ E (va_A wc H.size) Q' #[Value.ref b']) (va_A wc H.size) :=
    va_runI (Ts := lw_tbl) (own := R_law) (bytes := μ'.2.1) (maxL := μ'.2.2.1) (b := b') (As := []) ⟨hx, hb, hml, hown, hts⟩ M ⟨callB_of 0 hts (lGood hco) (by unfold wM; rw [hr]) rfl rfl (hts _ (gW_t hin)) (hts _ (gW_t hli)) hde hR', hn, hts _ (gW_t hi)⟩ hp rfl rfl hl.1 rfl (lv_room hre) hd ⟨h1, h2⟩
  intro T hT X
  obtain ⟨v, st₀, t, T', Lo, h0, X', hL', e1, e2, ⟨⟨w1, hv, hq, hP1, hD1⟩, hz, hk⟩, stp⟩ := hrun T hT X
  cases hv
  rw [h0] at hz hk
  rw [← e1] at hP1 hz
  have hk' : ∀ q : Nat, q < H.size → ¬ va_A wc H.size q → T'.heap[q]? = H[q]? := fun q h1 h2 => by rw [e1]; exact hk q h1 h2
  obtain ⟨hPn, hDn⟩ := va_join hP hD isC isR hC hR hnd hdis hk' hF hP1 hD1
  have hSn : va_S (fun q : Nat => s.heap.size ≤ q) s.heap T'.heap (locs ++ Lo) := by
    refine ⟨Nat.le_trans hS.1 hz, fun q h1 h2 => ?_, fun q hq => ?_⟩
    · rw [hk' q (Nat.lt_of_lt_of_le h1 hS.1) (fun z => h2 (hF q z))]
      exact hS.2.1 q h1 h2
    · rcases List.mem_append.mp hq with h | h
      · exact hS.2.2 q h
      · exact hF _ (hL' q h)
  obtain ⟨t2, a1, b1⟩ := kk w1 T'.heap (locs ++ Lo) hq hPn hDn hSn T' rfl X'
  exact ⟨t2, stp t2 a1, b1⟩
end LCT
def hm7 : Nat → Int32 := fun j => bif Nat.beq j 4 || Nat.beq j 5 then nI 1 else 0
def dk0 : Nat → Int32 := upd (upd (fun _ => 0) 64 (nI 77001)) 65 (nI 1)
/-- the whole heap at the loop's start -/
def h_all (h : xh) : xh := fun k => bif Nat.beq k 7 then hm7 else bif Nat.beq k 24 then h 7 else bif Nat.beq k 25 then dk0 else bif Nat.ble 26 k then (fun _ => 0) else h k
theorem rel0 {h : xh} (I : h_init h) : Rel 1 (h_all h) := by
  obtain ⟨V, a1, a8, j2, j3, j4⟩ := I
  refine ⟨(dk0, 0, fun _ => 0, fun _ => 0), 1, 1, 0, 0, k00, (fun _ => 0), k00, (fun _ => 0), ⟨⟨?_, Nat.zero_le _, fun i _ => ?_, fun k hk => absurd hk (Nat.not_lt_zero _), fun i hi => absurd hi (Nat.not_lt_zero _)⟩, ⟨rfl, Nat.zero_le _, fun i _ => rfl, fun k hk => absurd hk (Nat.not_lt_zero _), fun i hi => absurd hi (Nat.not_lt_zero _)⟩, V, ⟨rfl, fun _ => ⟨rfl, rfl, rfl, fun b _ => rfl, fun b _ hk => absurd hk (by unfold k00; omega), fun b _ => rfl, fun b _ hk => absurd hk (by unfold k00; omega)⟩⟩, ⟨Or.inr rfl, fun _ => ⟨by omega, by omega, by omega, fun b _ => by unfold k00; omega, fun b _ => by unfold k00; omega, by rw [cnt_0 (by decide)]; omega⟩⟩, ⟨⟨1, Nat.le_refl 1, rfl⟩, fun k hk => absurd hk (Nat.not_lt_zero _)⟩, fun _ => Nat.le_refl 1, Nat.le_refl 1⟩, Or.inl ⟨⟨j2, j3, j4⟩, rfl, fun _ => Nat.zero_le _, fun _ => rfl⟩⟩
  · show h 1 3 = nI 0
    rw [a1]; exact nI_0.symm
  · show h 8 i = dk0 i
    rw [a8]; rfl

set_option maxHeartbeats 4000000 in
set_option maxRecDepth 100000 in
/-- the law, from its entry -/
theorem whole_start {p : Program} {e : Env} {s : State} {m : MethodId} {below : List Frame} {meth : Method} {c : Code} (l : Launch) {b L : Nat} {xs : Nat → Int32} (hL : L ≤ 2048) (C0 : lw_At p s m meth c b L xs) : W p l e room_1 s m #[Value.ref b] below meth c s.heap [] 0 0 (lw_Z below #[Value.ref b] s) (entryFrame m ([Value.ref b] : List Value).toArray 4) := by
  obtain ⟨hx, hb, hr, hml, hown, hts, hX, hbl, hlocks, hgv⟩ := id C0
  have hA : ∀ q : Nat, s.heap.size ≤ q → (fun q : Nat => s.heap.size ≤ q) q := fun _ h => h
  obtain ⟨c0, iS0, hKn0⟩ := u_known (C := "RedoShelf") (T := T_RS) (N := 11) (n := 11) hts i_RS (hts _ (gW_t ls_1_12))
  obtain ⟨c1, iS1, hKn1⟩ := u_known (C := "RedoShelf$Device") (T := T_DV) (N := 4) (n := 4) hts i_DV (hts _ (gW_t ls_1_20))
  obtain ⟨c2, iS2, hKn2⟩ := u_known (C := "RedoShelf$Images") (T := T_IM) (N := 3) (n := 3) hts i_IM (hts _ (gW_t ls_1_41))
  obtain ⟨c3, iS3, hKn3⟩ := u_known (C := "RedoShelf$Row") (T := T_RW) (N := 4) (n := 4) hts i_RW (hts _ (gW_t ls_1_58))
  obtain ⟨c4, iS4, hKn4⟩ := u_known (C := "RedoShelf$LogReader") (T := T_LR) (N := 13) (n := 13) hts i_LR (hts _ (gW_t ls_1_77))
  obtain ⟨c5, iS5, hKn5⟩ := u_known (C := "RedoShelf$Job") (T := T_JB) (N := 5) (n := 5) hts i_JB (hts _ (gW_t ls_1_123))
  obtain ⟨c6, iS6, hKn6⟩ := u_known (C := "RedoShelfModel") (T := T_MD) (N := 23) (n := 23) hts i_MD (hts _ (gW_t ls_3_24))
  obtain ⟨dC, dI, hKc⟩ : ∃ (dC : Nat → ClassId) (dI : Nat → Nat → Nat), ∀ (k : Nat) (q : vw_C), vwCl[k]? = some q → u_Kn s q.1 q.2.1 q.2.2 (dC k) (dI k) := by
    refine ⟨fun k => [c0, c1, c2, c3, c4, c5, c6].getD k c0, fun k => [iS0, iS1, iS2, iS3, iS4, iS5, iS6].getD k iS0, ?_⟩
    intro k q hq
    match k, hq with
    | 0, hq => cases hq; exact hKn0
    | 1, hq => cases hq; exact hKn1
    | 2, hq => cases hq; exact hKn2
    | 3, hq => cases hq; exact hKn3
    | 4, hq => cases hq; exact hKn4
    | 5, hq => cases hq; exact hKn5
    | 6, hq => cases hq; exact hKn6
    | k + 7, hq => simp [vwCl] at hq
  obtain ⟨cI, kI, compI, fI1, fI2, fI3⟩ := Cond.arrayClass_spec (hts _ (gW_t ls_1_39))
  obtain ⟨cZ, kZ, compZ, fZ1, fZ2, fZ3⟩ := Cond.arrayClass_spec (hts _ (gW_t ls_1_56))
  have hK : va_K (dC, dI) vwCl [(cI, .int), (cZ, .boolean)] s := by
    refine ⟨hKc, fun k q h => ?_⟩
    match k, h with
    | 0, h => cases h; exact ⟨fun n z => ⟨fun k h => (by cases h), kI, fI2, compI, fI3⟩, fI1⟩
    | 1, h => cases h; exact ⟨fun n z => ⟨fun k h => (by cases h), kZ, fZ2, compZ, fZ3⟩, fZ1⟩
    | k + 2, h => simp at h
  have hN : ∀ w ∈ nW, va_Nw w s := by
    intro w hw
    have h1 := hts w (List.mem_filter.mp hw).1
    have h2 := (List.mem_filter.mp hw).2
    cases w <;> first | (simp [isNest] at h2; done) | exact va_Nw.of rfl h1
  have K0 : xK ((dC, dI), (fun _ => 0), cI, cZ) s := ⟨hK, hN⟩
  have hS : va_S (fun q : Nat => s.heap.size ≤ q) s.heap s.heap [] := va_S.rf
  have hP : va_P (dC, dI) vwCl [] s.heap := fun k q h => by simp at h
  have hD : va_D (fun q : Nat => s.heap.size ≤ q) [] := ⟨fun i j p q h => by simp at h, fun k q h => by simp at h⟩
  have hl := lv_entry ([.ref b]) (n := 4) (Nat.le_of_ble_eq_true rfl)
  rw [lg_entry_eq]
  generalize (lg_sl ([.ref b]) ++ List.replicate (4 - (lg_sl ([.ref b])).length) Slot.unset).toArray = ls at hl ⊢
  have hl : lv_has ls 4 [(0, .ref b)] := hl
  refine va_new (ci := 0) (fs := [.null, .null, .null, .null, .null, .null, .int 0, .int 0, .int 0, .int 0, .int 0]) (C := "RedoShelf") (T := T_RS) (N := 11) hx hb hts i_RS t_RS t_RS_ok hown (hts _ (gW_t ls_1_11)) (hts _ (gW_t ls_1_12)) (hts _ (gW_t ls_1_1)) hK hP hD hS hA rfl (fun j hj => by rcases (show j = 0 ∨ j = 1 ∨ j = 2 ∨ j = 3 ∨ j = 4 ∨ j = 5 ∨ j = 6 ∨ j = 7 ∨ j = 8 ∨ j = 9 ∨ j = 10 by omega) with rfl | rfl | rfl | rfl | rfl | rfl | rfl | rfl | rfl | rfl | rfl <;> rfl) (Nat.le_of_ble_eq_true rfl) (Nat.le_of_ble_eq_true rfl) dl_0 (fun q0 H hP hD hS => ?_)
  refine lv_dup hx hb dl_3 rfl ?_
  refine lw_ctor (E := ((dC, dI), (fun _ => 0), cI, cZ)) (wc := [(q0, .inr (0, [.null, .null, .null, .null, .null, .null, .int 0, .int 0, .int 0, .int 0, .int 0]))]) (wr := []) C0 K0 dl_4 lv_RS_init ls_1_14 rfl rfl (by decide) [0] [] rfl rfl rfl rfl (by decide) (Nat.le_of_ble_eq_true rfl) (Nat.le_of_ble_eq_true rfl) (Nat.le_of_ble_eq_true rfl) k_RS_init hP hD hS hl (fun w1 H locs hq hP hD hS => ?_)
  obtain ⟨ad, h, rfl, ha, hI⟩ := hq
  have hP : va_P (dC, dI) vwCl (wld_z ((dC, dI), ad, cI, cZ) h) H := hP
  have hD : va_D (fun q : Nat => s.heap.size ≤ q) (wld_z ((dC, dI), ad, cI, cZ) h) := hD
  refine lv_astore_n (lv' := [(1, .ref q0), (0, .ref b)]) hx hb dl_7 rfl hl (by decide) rfl (fun ls hl => ?_)
  refine va_new (ci := 6) (fs := [.null, .int 0, .null, .null, .int 0, .int 0, .int 0, .int 0, .null, .null, .null, .null, .int 0, .int 0, .int 0, .null, .int 0, .int 0, .int 0, .int 0, .int 0, .null, .null]) (C := "RedoShelfModel") (T := T_MD) (N := 23) hx hb hts i_MD t_MD t_MD_ok hown (hts _ (gW_t ls_3_23)) (hts _ (gW_t ls_3_24)) (hts _ (gW_t ls_1_7)) hK hP hD hS hA rfl (fun j hj => by rcases (show j = 0 ∨ j = 1 ∨ j = 2 ∨ j = 3 ∨ j = 4 ∨ j = 5 ∨ j = 6 ∨ j = 7 ∨ j = 8 ∨ j = 9 ∨ j = 10 ∨ j = 11 ∨ j = 12 ∨ j = 13 ∨ j = 14 ∨ j = 15 ∨ j = 16 ∨ j = 17 ∨ j = 18 ∨ j = 19 ∨ j = 20 ∨ j = 21 ∨ j = 22 by omega) with rfl | rfl | rfl | rfl | rfl | rfl | rfl | rfl | rfl | rfl | rfl | rfl | rfl | rfl | rfl | rfl | rfl | rfl | rfl | rfl | rfl | rfl | rfl <;> rfl) (Nat.le_of_ble_eq_true rfl) (Nat.le_of_ble_eq_true rfl) dl_8 (fun q1 H hP hD hS => ?_)
  refine lv_dup hx hb dl_11 rfl ?_
  refine lw_ctor (E := ((dC, dI), (fun _ => 0), cI, cZ)) (wc := [(q1, .inr (6, [.null, .int 0, .null, .null, .int 0, .int 0, .int 0, .int 0, .null, .null, .null, .null, .int 0, .int 0, .int 0, .null, .int 0, .int 0, .int 0, .int 0, .int 0, .null, .null]))]) (wr := wld_z ((dC, dI), ad, cI, cZ) h) C0 K0 dl_12 lv_MD_init ls_3_26 rfl rfl (by decide) [24] [0, 1, 2, 3, 4, 5, 6, 7, 8, 9, 10, 11, 12, 13, 14, 15, 16, 17, 18, 19, 20, 21, 22, 23] rfl rfl rfl rfl (by decide) (Nat.le_of_ble_eq_true rfl) (Nat.le_of_ble_eq_true rfl) (Nat.le_of_ble_eq_true rfl) k_MD_init hP hD hS hl (fun w1 H locs hq hP hD hS => ?_)
  obtain ⟨m25, m26, m27, m28, m29, m30, m31, m32, m33, m34, rfl⟩ := hq
  have hP : va_P (dC, dI) vwCl (wld ((dC, dI), (fun k => [ad 0, ad 1, ad 2, ad 3, ad 4, ad 5, ad 6, q1, ad 8, ad 9, ad 10, ad 11, ad 12, ad 13, ad 14, ad 15, ad 16, ad 17, ad 18, ad 19, ad 20, ad 21, ad 22, ad 23, ad 7, m25, m26, m27, m28, m29, m30, m31, m32, m33, m34].getD k 0), cI, cZ) (h_all h)) H := hP.sub [0, 1, 2, 3, 4, 5, 6, 24, 8, 9, 10, 11, 12, 13, 14, 15, 16, 17, 18, 19, 20, 21, 22, 23, 7, 25, 26, 27, 28, 29, 30, 31, 32, 33, 34] rfl
  have hD : va_D (fun q : Nat => s.heap.size ≤ q) (wld ((dC, dI), (fun k => [ad 0, ad 1, ad 2, ad 3, ad 4, ad 5, ad 6, q1, ad 8, ad 9, ad 10, ad 11, ad 12, ad 13, ad 14, ad 15, ad 16, ad 17, ad 18, ad 19, ad 20, ad 21, ad 22, ad 23, ad 7, m25, m26, m27, m28, m29, m30, m31, m32, m33, m34].getD k 0), cI, cZ) (h_all h)) := hD.sub [0, 1, 2, 3, 4, 5, 6, 24, 8, 9, 10, 11, 12, 13, 14, 15, 16, 17, 18, 19, 20, 21, 22, 23, 7, 25, 26, 27, 28, 29, 30, 31, 32, 33, 34] (by decide) rfl
  have hl : lv_has ls 4 [(1, .ref (ad 0)), (0, .ref b)] := by rw [ha]; exact hl
  refine lv_astore_n (lv' := [(2, .ref q1), (1, .ref (ad 0)), (0, .ref b)]) hx hb dl_15 rfl hl (by decide) rfl (fun ls hl => ?_)
  refine lv_iconst (v := nI 0) hx hb dl_16 (by decide +kernel) ?_
  refine lv_istore_n (lv' := [(3, .int (nI 0)), (2, .ref q1), (1, .ref (ad 0)), (0, .ref b)]) hx hb dl_17 rfl hl (by decide) rfl (fun ls hl => ?_)
  have K1 : xK ((dC, dI), (fun k => [ad 0, ad 1, ad 2, ad 3, ad 4, ad 5, ad 6, q1, ad 8, ad 9, ad 10, ad 11, ad 12, ad 13, ad 14, ad 15, ad 16, ad 17, ad 18, ad 19, ad 20, ad 21, ad 22, ad 23, ad 7, m25, m26, m27, m28, m29, m30, m31, m32, m33, m34].getD k 0), cI, cZ) s := ⟨hK, hN⟩
  exact law_loop (E := ((dC, dI), (fun k => [ad 0, ad 1, ad 2, ad 3, ad 4, ad 5, ad 6, q1, ad 8, ad 9, ad 10, ad 11, ad 12, ad 13, ad 14, ad 15, ad 16, ad 17, ad 18, ad 19, ad 20, ad 21, ad 22, ad 23, ad 7, m25, m26, m27, m28, m29, m30, m31, m32, m33, m34].getD k 0), cI, cZ)) C0 K1 hL (L + 1) 0 (h_all h) (by omega) (Nat.zero_le L) (rel0 hI) H locs ls hP hD hS (lv_sub hl [3, 2, 1, 0] rfl)
