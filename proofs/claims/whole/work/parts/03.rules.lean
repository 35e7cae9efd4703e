def ushr (x y : Int32) : Int32 := (x.toUInt32 >>> (y.toUInt32 &&& Int32.toUInt32 31)).toInt32
def irem (x y : Int32) : Int32 := x - x / y * y
def hw (h : xh) (k j : Nat) (v : Int32) : xh := fun a b => bif Nat.beq a k && Nat.beq b j then v else h a b
theorem hw_eq {h : xh} {k j : Nat} {v : Int32} : hu h k (upd (h k) j v) = hw h k j v := by
  funext a b
  unfold hu hw upd
  by_cases e1 : a = k
  · subst e1
    by_cases e2 : b = j
    · subst e2; simp
    · have : Nat.beq b j = false := by
        cases hb : Nat.beq b j with
        | true => exact absurd (Nat.eq_of_beq_eq_true hb) e2
        | false => rfl
      simp [e2, this]
  · have : Nat.beq a k = false := by
      cases hb : Nat.beq a k with
      | true => exact absurd (Nat.eq_of_beq_eq_true hb) e1
      | false => rfl
    simp [e1, this]
def hc (h : xh) (k0 k1 : Nat) (sp dp n : Int32) : xh := hu h k1 (va_cpy (h k0) (h k1) sp.toNatClampNeg dp.toNatClampNeg n.toNatClampNeg)
def lkeep (ks : List Nat) : List (Nat × xv) → List (Nat × xv)
  | [] => []
  | (j, v) :: r => bif ks.elem j then (j, v) :: lkeep ks r else lkeep ks r
theorem lkeep_mem {ks : List Nat} : ∀ {ls : List (Nat × xv)} {q : Nat × xv}, q ∈ lkeep ks ls → q ∈ ls
  | [], _, h => by cases h
  | (j, w) :: r, q, h => by
    unfold lkeep at h
    cases hb : ks.elem j with
    | true =>
      rw [hb] at h
      simp only [cond_true] at h
      rcases List.mem_cons.mp h with rfl | h
      · exact List.mem_cons_self
      · exact List.mem_cons_of_mem _ (lkeep_mem h)
    | false =>
      rw [hb] at h
      simp only [cond_false] at h
      exact List.mem_cons_of_mem _ (lkeep_mem h)
section RULES
variable {l : Launch} {E : xE} {μ : xM} {pc : Nat} {ls ls' : List (Nat × xv)} {st : List xv} {h : xh} {Q : Option Int32 → xh → Prop}
theorem wp_iconst {n : Int} {v : Int32} (hd : decode μ.2.1 pc = .ok (.iconst n, 1)) (hv : Int32.ofInt n = v) (k : WP l E μ (pc + 1) ls (.inl v :: st) h Q) : WP l E μ pc ls st h Q := by
  intro p e s m args below meth c A H locs lsA C I hl
  exact lv_iconst C.1 C.2.1 hd hv (k p e s m args below meth c A H locs lsA C I hl)
theorem wp_bipush {n : Int} {v : Int32} (hd : decode μ.2.1 pc = .ok (.bipush n, 2)) (hv : (Int8.ofInt n).toInt32 = v) (k : WP l E μ (pc + 2) ls (.inl v :: st) h Q) : WP l E μ pc ls st h Q := by
  intro p e s m args below meth c A H locs lsA C I hl
  exact lv_bipush C.1 C.2.1 hd hv (k p e s m args below meth c A H locs lsA C I hl)
theorem wp_sipush {n : Int} {v : Int32} (hd : decode μ.2.1 pc = .ok (.sipush n, 3)) (hv : (Int16.ofInt n).toInt32 = v) (k : WP l E μ (pc + 3) ls (.inl v :: st) h Q) : WP l E μ pc ls st h Q := by
  intro p e s m args below meth c A H locs lsA C I hl
  exact lv_sipush C.1 C.2.1 hd hv (k p e s m args below meth c A H locs lsA C I hl)
theorem wp_ldcN {idx : Nat} {v v2 : Int32} (hd : decode μ.2.1 pc = .ok (.ldc idx, 2)) (hw : Jvm.Cond.constant μ.1.cls idx v ∈ gW) (hv : v = v2) (k : WP l E μ (pc + 2) ls (.inl v2 :: st) h Q) : WP l E μ pc ls st h Q := by
  intro p e s m args below meth c A H locs lsA C I hl
  subst hv
  exact lv_ldc C.1 C.2.1 C.2.2.2.2.2.1 (C.2.2.2.2.1 _ (wM_g hw)) hd (k p e s m args below meth c A H locs lsA C I hl)
theorem wp_ldc {idx : Nat} {v : Int32} (hd : decode μ.2.1 pc = .ok (.ldc idx, 2)) (hw : Jvm.Cond.constant μ.1.cls idx v ∈ gW) (k : WP l E μ (pc + 2) ls (.inl v :: st) h Q) : WP l E μ pc ls st h Q := by
  intro p e s m args below meth c A H locs lsA C I hl
  exact lv_ldc C.1 C.2.1 C.2.2.2.2.2.1 (C.2.2.2.2.1 _ (wM_g hw)) hd (k p e s m args below meth c A H locs lsA C I hl)
theorem wp_iload_n {k : Fin 4} {x : Int32} (hd : decode μ.2.1 pc = .ok (.iload_n k, 1)) (hg : lget ls k.val = some (.inl x)) (kk : WP l E μ (pc + 1) ls (.inl x :: st) h Q) : WP l E μ pc ls st h Q := by
  intro p e s m args below meth c A H locs lsA C I hl
  exact lv_iload_n C.1 C.2.1 hd rfl (xls_get hl hg) (kk p e s m args below meth c A H locs lsA C I hl)
theorem wp_iload {i : Nat} {x : Int32} (hd : decode μ.2.1 pc = .ok (.iload i, 2)) (hg : lget ls i = some (.inl x)) (kk : WP l E μ (pc + 2) ls (.inl x :: st) h Q) : WP l E μ pc ls st h Q := by
  intro p e s m args below meth c A H locs lsA C I hl
  exact lv_iload C.1 C.2.1 hd (xls_get hl hg) (kk p e s m args below meth c A H locs lsA C I hl)
theorem wp_istore_n {k : Fin 4} {x : Int32} (hd : decode μ.2.1 pc = .ok (.istore_n k, 1)) (hn : k.val < μ.2.2.1) (hs : lset ls k.val (.inl x) = ls') (kk : WP l E μ (pc + 1) ls' st h Q) : WP l E μ pc ls (.inl x :: st) h Q := by
  intro p e s m args below meth c A H locs lsA C I hl
  exact lv_istore_n C.1 C.2.1 hd rfl hl hn rfl (fun lsB hB => kk p e s m args below meth c A H locs lsB C I (xls_set (v := .inl x) rfl hB hs))
theorem wp_istore {i : Nat} {x : Int32} (hd : decode μ.2.1 pc = .ok (.istore i, 2)) (hn : i < μ.2.2.1) (hs : lset ls i (.inl x) = ls') (kk : WP l E μ (pc + 2) ls' st h Q) : WP l E μ pc ls (.inl x :: st) h Q := by
  intro p e s m args below meth c A H locs lsA C I hl
  exact lv_istore C.1 C.2.1 hd hl hn rfl (fun lsB hB => kk p e s m args below meth c A H locs lsB C I (xls_set (v := .inl x) rfl hB hs))
theorem wp_aload_n {k : Fin 4} {x : Nat} (hd : decode μ.2.1 pc = .ok (.aload_n k, 1)) (hg : lget ls k.val = some (.inr x)) (kk : WP l E μ (pc + 1) ls (.inr x :: st) h Q) : WP l E μ pc ls st h Q := by
  intro p e s m args below meth c A H locs lsA C I hl
  exact lv_aload_n C.1 C.2.1 hd rfl (xls_get hl hg) (kk p e s m args below meth c A H locs lsA C I hl)
theorem wp_aload {i : Nat} {x : Nat} (hd : decode μ.2.1 pc = .ok (.aload i, 2)) (hg : lget ls i = some (.inr x)) (kk : WP l E μ (pc + 2) ls (.inr x :: st) h Q) : WP l E μ pc ls st h Q := by
  intro p e s m args below meth c A H locs lsA C I hl
  exact lv_aload C.1 C.2.1 hd (xls_get hl hg) (kk p e s m args below meth c A H locs lsA C I hl)
theorem wp_astore_n {k : Fin 4} {x : Nat} (hd : decode μ.2.1 pc = .ok (.astore_n k, 1)) (hn : k.val < μ.2.2.1) (hs : lset ls k.val (.inr x) = ls') (kk : WP l E μ (pc + 1) ls' st h Q) : WP l E μ pc ls (.inr x :: st) h Q := by
  intro p e s m args below meth c A H locs lsA C I hl
  exact lv_astore_n C.1 C.2.1 hd rfl hl hn rfl (fun lsB hB => kk p e s m args below meth c A H locs lsB C I (xls_set (v := .inr x) rfl hB hs))
theorem wp_astore {i : Nat} {x : Nat} (hd : decode μ.2.1 pc = .ok (.astore i, 2)) (hn : i < μ.2.2.1) (hs : lset ls i (.inr x) = ls') (kk : WP l E μ (pc + 2) ls' st h Q) : WP l E μ pc ls (.inr x :: st) h Q := by
  intro p e s m args below meth c A H locs lsA C I hl
  exact lv_astore C.1 C.2.1 hd hl hn rfl (fun lsB hB => kk p e s m args below meth c A H locs lsB C I (xls_set (v := .inr x) rfl hB hs))
theorem wp_iinc {i : Nat} {n : Int} {x v : Int32} (hd : decode μ.2.1 pc = .ok (.iinc i n, 3)) (hg : lget ls i = some (.inl x)) (hv : x + Int32.ofInt n = v) (hn : i < μ.2.2.1) (hs : lset ls i (.inl v) = ls') (kk : WP l E μ (pc + 3) ls' st h Q) : WP l E μ pc ls st h Q := by
  intro p e s m args below meth c A H locs lsA C I hl
  obtain ⟨k, hk⟩ := List.getElem?_of_mem (List.mem_map.mpr ⟨(i, .inl x), lget_mem hg, rfl⟩ : (i, xV E (.inl x)) ∈ xls E ls)
  exact lv_iinc C.1 C.2.1 hd hl hk hv hn rfl (fun lsB hB => kk p e s m args below meth c A H locs lsB C I (xls_set (v := .inl v) rfl hB hs))
theorem wp_iadd {x y : Int32} (hd : decode μ.2.1 pc = .ok (.iadd, 1)) (kk : WP l E μ (pc + 1) ls (.inl (x + y) :: st) h Q) : WP l E μ pc ls (.inl y :: .inl x :: st) h Q := by
  intro p e s m args below meth c A H locs lsA C I hl
  exact lv_iadd C.1 C.2.1 hd (kk p e s m args below meth c A H locs lsA C I hl)
theorem wp_isub {x y : Int32} (hd : decode μ.2.1 pc = .ok (.isub, 1)) (kk : WP l E μ (pc + 1) ls (.inl (x - y) :: st) h Q) : WP l E μ pc ls (.inl y :: .inl x :: st) h Q := by
  intro p e s m args below meth c A H locs lsA C I hl
  exact lv_isub C.1 C.2.1 hd (kk p e s m args below meth c A H locs lsA C I hl)
theorem wp_imul {x y : Int32} (hd : decode μ.2.1 pc = .ok (.imul, 1)) (kk : WP l E μ (pc + 1) ls (.inl (x * y) :: st) h Q) : WP l E μ pc ls (.inl y :: .inl x :: st) h Q := by
  intro p e s m args below meth c A H locs lsA C I hl
  exact lv_imul C.1 C.2.1 hd (kk p e s m args below meth c A H locs lsA C I hl)
theorem wp_iand {x y : Int32} (hd : decode μ.2.1 pc = .ok (.iand, 1)) (kk : WP l E μ (pc + 1) ls (.inl (x &&& y) :: st) h Q) : WP l E μ pc ls (.inl y :: .inl x :: st) h Q := by
  intro p e s m args below meth c A H locs lsA C I hl
  exact lv_iand C.1 C.2.1 hd (kk p e s m args below meth c A H locs lsA C I hl)
theorem wp_ior {x y : Int32} (hd : decode μ.2.1 pc = .ok (.ior, 1)) (kk : WP l E μ (pc + 1) ls (.inl (x ||| y) :: st) h Q) : WP l E μ pc ls (.inl y :: .inl x :: st) h Q := by
  intro p e s m args below meth c A H locs lsA C I hl
  exact lv_ior C.1 C.2.1 hd (kk p e s m args below meth c A H locs lsA C I hl)
theorem wp_ixor {x y : Int32} (hd : decode μ.2.1 pc = .ok (.ixor, 1)) (kk : WP l E μ (pc + 1) ls (.inl (x ^^^ y) :: st) h Q) : WP l E μ pc ls (.inl y :: .inl x :: st) h Q := by
  intro p e s m args below meth c A H locs lsA C I hl
  exact lv_ixor C.1 C.2.1 hd (kk p e s m args below meth c A H locs lsA C I hl)
theorem wp_ishl {x y : Int32} (hd : decode μ.2.1 pc = .ok (.ishl, 1)) (kk : WP l E μ (pc + 1) ls (.inl (x <<< (y &&& 31)) :: st) h Q) : WP l E μ pc ls (.inl y :: .inl x :: st) h Q := by
  intro p e s m args below meth c A H locs lsA C I hl
  exact lv_ishl C.1 C.2.1 hd (kk p e s m args below meth c A H locs lsA C I hl)
theorem wp_ishr {x y : Int32} (hd : decode μ.2.1 pc = .ok (.ishr, 1)) (kk : WP l E μ (pc + 1) ls (.inl (x >>> (y &&& 31)) :: st) h Q) : WP l E μ pc ls (.inl y :: .inl x :: st) h Q := by
  intro p e s m args below meth c A H locs lsA C I hl
  exact lv_ishr C.1 C.2.1 hd (kk p e s m args below meth c A H locs lsA C I hl)
theorem wp_iushr {x y : Int32} (hd : decode μ.2.1 pc = .ok (.iushr, 1)) (kk : WP l E μ (pc + 1) ls (.inl (ushr x y) :: st) h Q) : WP l E μ pc ls (.inl y :: .inl x :: st) h Q := by
  intro p e s m args below meth c A H locs lsA C I hl
  exact lv_iushr C.1 C.2.1 hd rfl (kk p e s m args below meth c A H locs lsA C I hl)
theorem wp_idiv {x y : Int32} (hd : decode μ.2.1 pc = .ok (.idiv, 1)) (hne : ¬ y = 0) (kk : WP l E μ (pc + 1) ls (.inl (x / y) :: st) h Q) : WP l E μ pc ls (.inl y :: .inl x :: st) h Q := by
  intro p e s m args below meth c A H locs lsA C I hl
  exact lv_idiv C.1 C.2.1 hd hne (kk p e s m args below meth c A H locs lsA C I hl)
theorem wp_irem {x y : Int32} (hd : decode μ.2.1 pc = .ok (.irem, 1)) (hne : ¬ y = 0) (kk : WP l E μ (pc + 1) ls (.inl (irem x y) :: st) h Q) : WP l E μ pc ls (.inl y :: .inl x :: st) h Q := by
  intro p e s m args below meth c A H locs lsA C I hl
  exact lv_irem C.1 C.2.1 hd hne (kk p e s m args below meth c A H locs lsA C I hl)
theorem wp_dup {v : xv} (hd : decode μ.2.1 pc = .ok (.dup, 1)) (kk : WP l E μ (pc + 1) ls (v :: v :: st) h Q) : WP l E μ pc ls (v :: st) h Q := by
  intro p e s m args below meth c A H locs lsA C I hl
  exact lv_dup C.1 C.2.1 hd (xV_cat E v) (kk p e s m args below meth c A H locs lsA C I hl)
theorem wp_pop {v : xv} (hd : decode μ.2.1 pc = .ok (.pop, 1)) (kk : WP l E μ (pc + 1) ls st h Q) : WP l E μ pc ls (v :: st) h Q := by
  intro p e s m args below meth c A H locs lsA C I hl
  exact lv_pop C.1 C.2.1 hd (xV_cat E v) (kk p e s m args below meth c A H locs lsA C I hl)
theorem wp_goto {off : Int} {tgt : Nat} (hd : decode μ.2.1 pc = .ok (.goto off, 3)) (ht : (pc : Int) + off = (tgt : Int)) (kk : WP l E μ tgt ls st h Q) : WP l E μ pc ls st h Q := by
  intro p e s m args below meth c A H locs lsA C I hl
  exact lv_goto C.1 C.2.1 hd ht (kk p e s m args below meth c A H locs lsA C I hl)
theorem wp_if_eq {x : Int32} {off : Int} {tgt : Nat} (hd : decode μ.2.1 pc = .ok (.ifCond .eq off, 3)) (ht : (pc : Int) + off = (tgt : Int)) (kt : x = 0 → WP l E μ tgt ls st h Q) (kf : ¬ x = 0 → WP l E μ (pc + 3) ls st h Q) : WP l E μ pc ls (.inl x :: st) h Q := by
  intro p e s m args below meth c A H locs lsA C I hl
  exact lv_if_eq C.1 C.2.1 hd ht (fun z => kt z p e s m args below meth c A H locs lsA C I hl) (fun z => kf z p e s m args below meth c A H locs lsA C I hl)
theorem wp_ic_eq {x y : Int32} {off : Int} {tgt : Nat} (hd : decode μ.2.1 pc = .ok (.if_icmp .eq off, 3)) (ht : (pc : Int) + off = (tgt : Int)) (kt : x = y → WP l E μ tgt ls st h Q) (kf : ¬ x = y → WP l E μ (pc + 3) ls st h Q) : WP l E μ pc ls (.inl y :: .inl x :: st) h Q := by
  intro p e s m args below meth c A H locs lsA C I hl
  exact lv_icmp_eq C.1 C.2.1 hd ht (fun z => kt z p e s m args below meth c A H locs lsA C I hl) (fun z => kf z p e s m args below meth c A H locs lsA C I hl)
theorem wp_if_ne {x : Int32} {off : Int} {tgt : Nat} (hd : decode μ.2.1 pc = .ok (.ifCond .ne off, 3)) (ht : (pc : Int) + off = (tgt : Int)) (kt : x ≠ 0 → WP l E μ tgt ls st h Q) (kf : x = 0 → WP l E μ (pc + 3) ls st h Q) : WP l E μ pc ls (.inl x :: st) h Q := by
  intro p e s m args below meth c A H locs lsA C I hl
  exact lv_if_ne C.1 C.2.1 hd ht (fun z => kt z p e s m args below meth c A H locs lsA C I hl) (fun z => kf z p e s m args below meth c A H locs lsA C I hl)
theorem wp_ic_ne {x y : Int32} {off : Int} {tgt : Nat} (hd : decode μ.2.1 pc = .ok (.if_icmp .ne off, 3)) (ht : (pc : Int) + off = (tgt : Int)) (kt : x ≠ y → WP l E μ tgt ls st h Q) (kf : x = y → WP l E μ (pc + 3) ls st h Q) : WP l E μ pc ls (.inl y :: .inl x :: st) h Q := by
  intro p e s m args below meth c A H locs lsA C I hl
  exact lv_icmp_ne C.1 C.2.1 hd ht (fun z => kt z p e s m args below meth c A H locs lsA C I hl) (fun z => kf z p e s m args below meth c A H locs lsA C I hl)
theorem wp_if_lt {x : Int32} {off : Int} {tgt : Nat} (hd : decode μ.2.1 pc = .ok (.ifCond .lt off, 3)) (ht : (pc : Int) + off = (tgt : Int)) (kt : x < 0 → WP l E μ tgt ls st h Q) (kf : ¬ x < 0 → WP l E μ (pc + 3) ls st h Q) : WP l E μ pc ls (.inl x :: st) h Q := by
  intro p e s m args below meth c A H locs lsA C I hl
  exact lv_if_lt C.1 C.2.1 hd ht (fun z => kt z p e s m args below meth c A H locs lsA C I hl) (fun z => kf z p e s m args below meth c A H locs lsA C I hl)
theorem wp_ic_lt {x y : Int32} {off : Int} {tgt : Nat} (hd : decode μ.2.1 pc = .ok (.if_icmp .lt off, 3)) (ht : (pc : Int) + off = (tgt : Int)) (kt : x < y → WP l E μ tgt ls st h Q) (kf : ¬ x < y → WP l E μ (pc + 3) ls st h Q) : WP l E μ pc ls (.inl y :: .inl x :: st) h Q := by
  intro p e s m args below meth c A H locs lsA C I hl
  exact lv_icmp_lt C.1 C.2.1 hd ht (fun z => kt z p e s m args below meth c A H locs lsA C I hl) (fun z => kf z p e s m args below meth c A H locs lsA C I hl)
theorem wp_if_ge {x : Int32} {off : Int} {tgt : Nat} (hd : decode μ.2.1 pc = .ok (.ifCond .ge off, 3)) (ht : (pc : Int) + off = (tgt : Int)) (kt : 0 ≤ x → WP l E μ tgt ls st h Q) (kf : ¬ 0 ≤ x → WP l E μ (pc + 3) ls st h Q) : WP l E μ pc ls (.inl x :: st) h Q := by
  intro p e s m args below meth c A H locs lsA C I hl
  exact lv_if_ge C.1 C.2.1 hd ht (fun z => kt z p e s m args below meth c A H locs lsA C I hl) (fun z => kf z p e s m args below meth c A H locs lsA C I hl)
theorem wp_ic_ge {x y : Int32} {off : Int} {tgt : Nat} (hd : decode μ.2.1 pc = .ok (.if_icmp .ge off, 3)) (ht : (pc : Int) + off = (tgt : Int)) (kt : y ≤ x → WP l E μ tgt ls st h Q) (kf : ¬ y ≤ x → WP l E μ (pc + 3) ls st h Q) : WP l E μ pc ls (.inl y :: .inl x :: st) h Q := by
  intro p e s m args below meth c A H locs lsA C I hl
  exact lv_icmp_ge C.1 C.2.1 hd ht (fun z => kt z p e s m args below meth c A H locs lsA C I hl) (fun z => kf z p e s m args below meth c A H locs lsA C I hl)
theorem wp_if_gt {x : Int32} {off : Int} {tgt : Nat} (hd : decode μ.2.1 pc = .ok (.ifCond .gt off, 3)) (ht : (pc : Int) + off = (tgt : Int)) (kt : 0 < x → WP l E μ tgt ls st h Q) (kf : ¬ 0 < x → WP l E μ (pc + 3) ls st h Q) : WP l E μ pc ls (.inl x :: st) h Q := by
  intro p e s m args below meth c A H locs lsA C I hl
  exact lv_if_gt C.1 C.2.1 hd ht (fun z => kt z p e s m args below meth c A H locs lsA C I hl) (fun z => kf z p e s m args below meth c A H locs lsA C I hl)
theorem wp_ic_gt {x y : Int32} {off : Int} {tgt : Nat} (hd : decode μ.2.1 pc = .ok (.if_icmp .gt off, 3)) (ht : (pc : Int) + off = (tgt : Int)) (kt : y < x → WP l E μ tgt ls st h Q) (kf : ¬ y < x → WP l E μ (pc + 3) ls st h Q) : WP l E μ pc ls (.inl y :: .inl x :: st) h Q := by
  intro p e s m args below meth c A H locs lsA C I hl
  exact lv_icmp_gt C.1 C.2.1 hd ht (fun z => kt z p e s m args below meth c A H locs lsA C I hl) (fun z => kf z p e s m args below meth c A H locs lsA C I hl)
theorem wp_if_le {x : Int32} {off : Int} {tgt : Nat} (hd : decode μ.2.1 pc = .ok (.ifCond .le off, 3)) (ht : (pc : Int) + off = (tgt : Int)) (kt : x ≤ 0 → WP l E μ tgt ls st h Q) (kf : ¬ x ≤ 0 → WP l E μ (pc + 3) ls st h Q) : WP l E μ pc ls (.inl x :: st) h Q := by
  intro p e s m args below meth c A H locs lsA C I hl
  exact lv_if_le C.1 C.2.1 hd ht (fun z => kt z p e s m args below meth c A H locs lsA C I hl) (fun z => kf z p e s m args below meth c A H locs lsA C I hl)
theorem wp_ic_le {x y : Int32} {off : Int} {tgt : Nat} (hd : decode μ.2.1 pc = .ok (.if_icmp .le off, 3)) (ht : (pc : Int) + off = (tgt : Int)) (kt : x ≤ y → WP l E μ tgt ls st h Q) (kf : ¬ x ≤ y → WP l E μ (pc + 3) ls st h Q) : WP l E μ pc ls (.inl y :: .inl x :: st) h Q := by
  intro p e s m args below meth c A H locs lsA C I hl
  exact lv_icmp_le C.1 C.2.1 hd ht (fun z => kt z p e s m args below meth c A H locs lsA C I hl) (fun z => kf z p e s m args below meth c A H locs lsA C I hl)
/-- answers -/
theorem wp_ireturn {v : Int32} (hd : decode μ.2.1 pc = .ok (.ireturn, 1)) (hr : μ.2.2.2.1 = some .int) (hq : Q (some v) h) : WP l E μ pc ls [.inl v] h Q := by
  intro p e s m args below meth c A H locs lsA C I hl
  have hlocks : meth.locks = false := C.2.2.2.2.2.2.1
  exact W.iret C.1 C.2.1 (C.2.2.1.trans hr) (fun t ht hW => ⟨⟨some v, h, rfl, hq, by rw [ht]; exact I.1, I.2.1⟩, I.2.2.F ht⟩) I.2.2.2.2 hd hlocks
theorem wp_zreturn {v : Int32} (hd : decode μ.2.1 pc = .ok (.ireturn, 1)) (hr : μ.2.2.2.1 = some .boolean) (hv : v = 0 ∨ v = 1) (hq : Q (some v) h) : WP l E μ pc ls [.inl v] h Q := by
  intro p e s m args below meth c A H locs lsA C I hl
  have hlocks : meth.locks = false := C.2.2.2.2.2.2.1
  exact W.zret C.1 C.2.1 (C.2.2.1.trans hr) (by rcases hv with rfl | rfl <;> decide) (fun t ht hW => ⟨⟨some v, h, rfl, hq, by rw [ht]; exact I.1, I.2.1⟩, I.2.2.F ht⟩) I.2.2.2.2 hd hlocks
theorem wp_return (hd : decode μ.2.1 pc = .ok (.return_, 1)) (hr : μ.2.2.2.1 = none) (hq : Q none h) : WP l E μ pc ls [] h Q := by
  intro p e s m args below meth c A H locs lsA C I hl
  have hlocks : meth.locks = false := C.2.2.2.2.2.2.1
  exact W.vret C.1 C.2.1 (C.2.2.1.trans hr) (fun t ht hW => ⟨⟨none, h, rfl, hq, by rw [ht]; exact I.1, I.2.1⟩, I.2.2.F ht⟩) I.2.2.2.2 hd hlocks
/-- a field: its class's number, its place, its type; the pool's number in the class own -/
def FL (own : String) (idx ci j : Nat) (ty : FieldType) : Prop := ∃ (C : String) (T : u_T) (N : Nat) (ty0 : Nat → FieldType), vwCl[ci]? = some (C, T, N) ∧ j < N ∧ (∀ w ∈ u_ws C T N, w ∈ gW) ∧ (T j).1 = C ∧ parseFieldDescriptor (T j).2.2.1 = some ty ∧ (∀ k, k < N → parseFieldDescriptor (T k).2.2.1 = some (ty0 k)) ∧ (∀ a, a < N → ∀ b, b < N → a ≠ b → (T a).2.1 ≠ (T b).2.1) ∧ (Cond.fieldLink own idx C (T j).2.1 (T j).2.2.1 ∈ gW ∨ ∃ host, Cond.fieldLinkNest own idx C (T j).2.1 (T j).2.2.1 host ∈ nW)
/-- the same, of a field that is not final -/
def FM (own : String) (idx ci j : Nat) (ty : FieldType) : Prop := FL own idx ci j ty ∧ ∀ q, vwCl[ci]? = some q → (q.2.1 j).2.2.2 = false
theorem wp_get {idx k ci j : Nat} {ty : FieldType} {fs : List (Option Nat)} {v : xv} (hd : decode μ.2.1 pc = .ok (.getfield idx, 3)) (F : FL μ.1.cls idx ci j ty) (hq : lay[k]? = some (.inl (ci, fs))) (hf : (xF E (h k) 0 fs)[j]? = some (xV E v)) (kk : WP l E μ (pc + 3) ls (v :: st) h Q) : WP l E μ pc ls (.inr k :: st) h Q := by
  intro p e s m args below meth c A H locs lsA C I hl
  obtain ⟨Cn, T, N, ty0, hc, hj, hin, hTC, hpa, hty, hnm, hlink⟩ := F
  have hts := C.2.2.2.2.1
  rcases hlink with hlink | ⟨host, hlink⟩
  · exact va_get (D := E.1) C.1 C.2.1 hts (fun w hw => wM_g (hin w hw)) C.2.2.2.2.2.1 C.2.2.2.2.2.2.2.1.1 I.1 k (wld_get hq) hc j hj (hts _ (wM_g hlink)) (fun x hx => by rw [hTC] at hx; exact hx) hf hd (kk p e s m args below meth c A H locs lsA C I hl)
  · exact va_getN (D := E.1) C.1 C.2.1 hts (fun w hw => wM_g (hin w hw)) C.2.2.2.2.2.1 C.2.2.2.2.2.2.2.1.1 I.1 k (wld_get hq) hc j hj (va_Nw.use rfl (C.2.2.2.2.2.2.2.1.2 _ hlink)) (fun x hx => by rw [hTC] at hx; exact hx) hf hd (kk p e s m args below meth c A H locs lsA C I hl)
theorem wp_getI {idx k ci j : Nat} {ty : FieldType} {fs : List (Option Nat)} (hd : decode μ.2.1 pc = .ok (.getfield idx, 3)) (F : FL μ.1.cls idx ci j ty) (hq : lay[k]? = some (.inl (ci, fs))) (hf : fs[j]? = some none) (kk : WP l E μ (pc + 3) ls (.inl (h k j) :: st) h Q) : WP l E μ pc ls (.inr k :: st) h Q :=
  wp_get (v := .inl (h k j)) hd F hq (by have := xF_int (E := E) (f := h k) fs 0 j hf; rw [Nat.zero_add] at this; exact this) kk
theorem wp_getR {idx k ci j r : Nat} {ty : FieldType} {fs : List (Option Nat)} (hd : decode μ.2.1 pc = .ok (.getfield idx, 3)) (F : FL μ.1.cls idx ci j ty) (hq : lay[k]? = some (.inl (ci, fs))) (hf : fs[j]? = some (some r)) (kk : WP l E μ (pc + 3) ls (.inr r :: st) h Q) : WP l E μ pc ls (.inr k :: st) h Q :=
  wp_get (v := .inr r) hd F hq (xF_ref fs 0 j hf) kk
theorem wp_put {idx k ci j : Nat} {ty : FieldType} {fs : List (Option Nat)} {v : Int32} (hd : decode μ.2.1 pc = .ok (.putfield idx, 3)) (F : FM μ.1.cls idx ci j ty) (hq : lay[k]? = some (.inl (ci, fs))) (hf : fs[j]? = some none) (hn : narrow ty (.int v) = .int v) (hfit : fits ty (.int v) = true) (kk : WP l E μ (pc + 3) ls st (hw h k j v) Q) : WP l E μ pc ls (.inl v :: .inr k :: st) h Q := by
  intro p e s m args below meth c A H locs lsA C I hl
  obtain ⟨⟨Cn, T, N, ty0, hc, hj, hin, hTC, hpa, hty, hnm, hlink⟩, hfin⟩ := F
  have hts := C.2.2.2.2.1
  have hfi : (T j).2.2.2 = false := hfin _ hc
  have hle : j < (xF E (h k) 0 fs).length := by rw [xF_len]; exact (List.getElem?_eq_some_iff.mp hf).1
  have he : (wld E h).set k (E.2.1 k, .inr (ci, (xF E (h k) 0 fs).set j (.int v))) = wld E (hw h k j v) := by
    rw [xF_set fs 0 j hf, Nat.zero_add, ← hw_eq]
    exact wld_set (E := E) (h := h) (f := upd (h k) j v) hq
  rcases hlink with hlink | ⟨host, hlink⟩
  · exact va_put (D := E.1) C.1 C.2.1 hts (fun w hw => wM_g (hin w hw)) ty0 hty hnm C.2.2.2.2.2.1 C.2.2.2.2.2.2.2.1.1 I.1 I.2.1 I.2.2 k (wld_get hq) hc j hj (hts _ (wM_g hlink)) (fun x hx => by rw [hTC] at hx; exact hx) hfi hpa hn hfit hle hd (fun H1 locs1 hP1 hD1 hS1 => kk p e s m args below meth c A H1 locs1 lsA C ⟨he ▸ hP1, he ▸ hD1, hS1⟩ hl)
  · exact va_putN (D := E.1) C.1 C.2.1 hts (fun w hw => wM_g (hin w hw)) ty0 hty hnm C.2.2.2.2.2.1 C.2.2.2.2.2.2.2.1.1 I.1 I.2.1 I.2.2 k (wld_get hq) hc j hj (va_Nw.use rfl (C.2.2.2.2.2.2.2.1.2 _ hlink)) (fun x hx => by rw [hTC] at hx; exact hx) hfi hpa hn hfit hle hd (fun H1 locs1 hP1 hD1 hS1 => kk p e s m args below meth c A H1 locs1 lsA C ⟨he ▸ hP1, he ▸ hD1, hS1⟩ hl)
theorem wp_putI {idx k ci j : Nat} {fs : List (Option Nat)} {v : Int32} (hd : decode μ.2.1 pc = .ok (.putfield idx, 3)) (F : FM μ.1.cls idx ci j .int) (hq : lay[k]? = some (.inl (ci, fs))) (hf : fs[j]? = some none) (kk : WP l E μ (pc + 3) ls st (hw h k j v) Q) : WP l E μ pc ls (.inl v :: .inr k :: st) h Q := wp_put hd F hq hf rfl rfl kk
theorem wp_putZ {idx k ci j : Nat} {fs : List (Option Nat)} {v : Int32} (hd : decode μ.2.1 pc = .ok (.putfield idx, 3)) (F : FM μ.1.cls idx ci j .boolean) (hq : lay[k]? = some (.inl (ci, fs))) (hf : fs[j]? = some none) (hv : v = 0 ∨ v = 1) (kk : WP l E μ (pc + 3) ls st (hw h k j v) Q) : WP l E μ pc ls (.inl v :: .inr k :: st) h Q := wp_put hd F hq hf (by rcases hv with rfl | rfl <;> decide) (by rcases hv with rfl | rfl <;> decide) kk
/-- arrays -/
theorem wp_iaload {k n : Nat} {i : Int32} (hd : decode μ.2.1 pc = .ok (.iaload, 1)) (hq : lay[k]? = some (.inr (false, n))) (hin : vp_in i n) (kk : WP l E μ (pc + 1) ls (.inl (h k i.toNatClampNeg) :: st) h Q) : WP l E μ pc ls (.inl i :: .inr k :: st) h Q := by
  intro p e s m args below meth c A H locs lsA C I hl
  exact va_iald C.1 C.2.1 C.2.2.2.2.2.2.2.1.1 I.1 k 0 (wld_get hq) rfl hin hd (kk p e s m args below meth c A H locs lsA C I hl)
theorem wp_baload {k n : Nat} {i : Int32} (hd : decode μ.2.1 pc = .ok (.baload, 1)) (hq : lay[k]? = some (.inr (true, n))) (hin : vp_in i n) (kk : WP l E μ (pc + 1) ls (.inl (h k i.toNatClampNeg) :: st) h Q) : WP l E μ pc ls (.inl i :: .inr k :: st) h Q := by
  intro p e s m args below meth c A H locs lsA C I hl
  exact va_zald C.1 C.2.1 C.2.2.2.2.2.2.2.1.1 I.1 k 1 (wld_get hq) rfl hin hd (kk p e s m args below meth c A H locs lsA C I hl)
theorem wp_iastore {k n : Nat} {i x : Int32} (hd : decode μ.2.1 pc = .ok (.iastore, 1)) (hq : lay[k]? = some (.inr (false, n))) (hin : vp_in i n) (kk : WP l E μ (pc + 1) ls st (hw h k i.toNatClampNeg x) Q) : WP l E μ pc ls (.inl x :: .inl i :: .inr k :: st) h Q := by
  intro p e s m args below meth c A H locs lsA C I hl
  have he := wld_set (E := E) (h := h) (f := upd (h k) i.toNatClampNeg x) hq
  rw [hw_eq] at he
  exact va_iast C.1 C.2.1 C.2.2.2.2.2.2.2.1.1 I.1 I.2.1 I.2.2 k 0 (wld_get hq) rfl hin hd (fun H1 locs1 hP1 hD1 hS1 => kk p e s m args below meth c A H1 locs1 lsA C ⟨he ▸ hP1, he ▸ hD1, hS1⟩ hl)
theorem wp_bastore {k n : Nat} {i x : Int32} (hd : decode μ.2.1 pc = .ok (.bastore, 1)) (hq : lay[k]? = some (.inr (true, n))) (hin : vp_in i n) (hx : vp_nar .boolean x = x) (kk : WP l E μ (pc + 1) ls st (hw h k i.toNatClampNeg x) Q) : WP l E μ pc ls (.inl x :: .inl i :: .inr k :: st) h Q := by
  intro p e s m args below meth c A H locs lsA C I hl
  have he := wld_set (E := E) (h := h) (f := upd (h k) i.toNatClampNeg x) hq
  rw [hw_eq] at he
  refine va_zast C.1 C.2.1 C.2.2.2.2.2.2.2.1.1 I.1 I.2.1 I.2.2 k 1 (wld_get hq) rfl hin hd (fun H1 locs1 hP1 hD1 hS1 => ?_)
  rw [hx] at hP1 hD1
  exact kk p e s m args below meth c A H1 locs1 lsA C ⟨he ▸ hP1, he ▸ hD1, hS1⟩ hl
theorem nar01 {x : Int32} (h : x = 0 ∨ x = 1) : vp_nar .boolean x = x := by rcases h with rfl | rfl <;> decide
theorem wp_alen {k n : Nat} {b : Bool} (hd : decode μ.2.1 pc = .ok (.arraylength, 1)) (hq : lay[k]? = some (.inr (b, n))) (kk : WP l E μ (pc + 1) ls (.inl (nI n) :: st) h Q) : WP l E μ pc ls (.inr k :: st) h Q := by
  intro p e s m args below meth c A H locs lsA C I hl
  cases b with
  | false => exact va_alen (ty := .int) C.1 C.2.1 C.2.2.2.2.2.2.2.1.1 I.1 k 0 (wld_get hq) rfl rfl hd (kk p e s m args below meth c A H locs lsA C I hl)
  | true => exact va_alen (ty := .boolean) C.1 C.2.1 C.2.2.2.2.2.2.2.1.1 I.1 k 1 (wld_get hq) rfl rfl hd (kk p e s m args below meth c A H locs lsA C I hl)
theorem cats {E : xE} : ∀ (st : List xv), ((st.map (xV E)).map fun v => v.category).sum = st.length
  | [] => rfl
  | v :: r => by
    simp only [List.map_cons, List.sum_cons, List.length_cons]
    rw [cats r, xV_cat]
    omega
theorem wp_min {idx : Nat} {x y : Int32} (hd : decode μ.2.1 pc = .ok (.invokestatic idx, 3)) (h1 : Cond.methodLink μ.1.cls idx Lib.Math.min.name ∈ gW) (h2 : Cond.static Lib.Math.min.name ∈ gW) (h3 : Cond.initialized "java/lang/Math" ∈ gW) (h4 : Cond.code Lib.Math.min.name Lib.Math.min.code 2 (some .int) ∈ gW) (hdp : 1 ≤ μ.2.2.2.2.1) (hst : st.length + 13 ≤ μ.2.2.2.2.2) (kk : WP l E μ (pc + 3) ls (.inl (if y < x then y else x) :: st) h Q) : WP l E μ pc ls (.inl y :: .inl x :: st) h Q := by
  intro p e s m args below meth c A H locs lsA C I hl
  have hts := C.2.2.2.2.1
  exact va_mmin C.1 C.2.1 (by rw [hl.1]; exact C.2.2.2.1) C.2.2.2.2.2.1 (hts _ (wM_g h1)) (hts _ (wM_g h2)) (hts _ (wM_g h3)) (hts _ (wM_g h4)) hdp (by rw [cats]; exact hst) (Nat.le_refl 0) (Nat.le_refl 0) hd (kk p e s m args below meth c A H locs lsA C I hl)
theorem wp_copy {idx k0 k1 n0 n1 : Nat} {sp dp n : Int32} (hd : decode μ.2.1 pc = .ok (.invokestatic idx, 3)) (w1 : Cond.methodLink μ.1.cls idx arraycopyName ∈ gW) (w2 : Cond.native arraycopyName ∈ gW) (w3 : Cond.static arraycopyName ∈ gW) (w4 : Cond.initialized "java/lang/System" ∈ gW)
    (hq0 : lay[k0]? = some (.inr (false, n0))) (hq1 : lay[k1]? = some (.inr (false, n1))) (hdp : 1 ≤ μ.2.2.2.2.1) (hst : st.length + (nativeFrameWords "java/lang/System" "arraycopy" 5 + 11) ≤ μ.2.2.2.2.2) (h1 : ¬ sp < 0) (h2 : ¬ dp < 0) (h3 : ¬ n < 0) (h4 : sp.toNatClampNeg + n.toNatClampNeg ≤ n0) (h5 : dp.toNatClampNeg + n.toNatClampNeg ≤ n1)
    (kk : WP l E μ (pc + 3) ls st (hc h k0 k1 sp dp n) Q) : WP l E μ pc ls (.inl n :: .inl dp :: .inr k1 :: .inl sp :: .inr k0 :: st) h Q := by
  intro p e s m args below meth c A H locs lsA C I hl
  have hts := C.2.2.2.2.1
  have he := wld_set (E := E) (h := h) (f := va_cpy (h k0) (h k1) sp.toNatClampNeg dp.toNatClampNeg n.toNatClampNeg) hq1
  exact va_copyi (ty := .int) C.1 C.2.1 (by rw [hl.1]; exact C.2.2.2.1) C.2.2.2.2.2.1 (hts _ (wM_g w1)) (hts _ (wM_g w2)) (hts _ (wM_g w3)) (hts _ (wM_g w4)) C.2.2.2.2.2.2.2.1.1 I.1 I.2.1 I.2.2 k0 k1 0 0 (wld_get hq0) (wld_get hq1) rfl rfl rfl h1 h2 h3 h4 h5 (fun _ _ => rfl) hdp (by rw [cats]; exact hst) hd (fun H1 locs1 hP1 hD1 hS1 => kk p e s m args below meth c A H1 locs1 lsA C ⟨he ▸ hP1, he ▸ hD1, hS1⟩ hl)
/-- a method's entry -/
def ent : Nat → List xv → List (Nat × xv)
  | _, [] => []
  | i, v :: r => (i, v) :: ent (i + 1) r
theorem ent_args {E : xE} : ∀ (as : List xv) (i : Nat), lv_args i (as.map (xV E)) = xls E (ent i as)
  | [], _ => rfl
  | v :: r, i => by
    simp only [List.map_cons, lv_args, ent, xls]
    rw [xV_cat, if_neg (by decide), ent_args r (i + 1)]
theorem lg_sl_len {E : xE} : ∀ (as : List xv), (lg_sl (as.map (xV E))).length = as.length
  | [] => rfl
  | v :: r => by
    simp only [List.map_cons, lg_sl, List.flatMap_cons, List.length_append]
    rw [xV_cat, if_neg (by decide)]
    have := lg_sl_len (E := E) r
    simp only [lg_sl] at this
    rw [this]
    simp; omega
def MC (l : Launch) (E : xE) (μ : xM) (as : List xv) (h : xh) (Q : Option Int32 → xh → Prop) : Prop := WP l E μ 0 (ent 0 as) [] h Q
theorem met_of {μ : xM} {as : List xv} {h : xh} {Q : Option Int32 → xh → Prop} (sz : Nat) (hy : plainName μ.1.cls = true) (hlen : as.length ≤ μ.2.2.1) (k : MC l E μ as h Q) : Met l μ.1 (wM μ) (rmOf μ.2.2.2.2) (xPc E sz h as) (xQc E (xA E sz) Q) 0 0 (xA E sz) := by
  refine Met.ofW (cc := μ.2.1) (maxL := μ.2.2.1) (ret := μ.2.2.2.1) hy rfl ?_
  intro p e s m args below meth c s₁ B hml hv
  obtain ⟨rfl, hsz, hP, hK, hD0⟩ := hv
  have hts := atoms_spec (ws := wM μ) B.pre
  have hl := lv_entry (as.map (xV E)) (n := μ.2.2.1) (by rw [lg_sl_len]; exact hlen)
  rw [ent_args] at hl
  rw [lg_entry_eq]
  subst hsz
  exact k p e s m _ below meth c (xA E s.heap.size) s.heap [] _ ⟨B.exec, B.bytes, B.returns, hml, hts, findClass_of_methodNamed B.named, B.notSynchronized, hK, fun q h => Or.inr h⟩ ⟨hP, xA_D hD0, va_S.rf⟩ hl
abbrev rpush (r : Option Int32) (st : List xv) : List xv := match r with
  | none => st
  | some v => .inl v :: st
/-- a call's words -/
def VB (μ μ' : xM) (idx n : Nat) : Prop := plainName μ'.1.cls = true ∧ Cond.code μ'.1 μ'.2.1 μ'.2.2.1 μ'.2.2.2.1 ∈ gW ∧ Cond.initialized μ'.1.cls ∈ gW ∧ (μ'.1.cls ≠ "java/lang/invoke/MethodHandle" ∧ μ'.1.cls ≠ "java/lang/invoke/VarHandle" ∧ (parseMethodDescriptor μ'.1.desc).map (fun d => d.parameters.length) = some n) ∧ (μ'.2.2.2.2.1 + 1 ≤ μ.2.2.2.2.1 ∧ 8 + (μ'.2.2.1 + 11) + μ'.2.2.2.2.2 ≤ μ.2.2.2.2.2) ∧ (Cond.methodLink μ.1.cls idx μ'.1 ∈ gW ∨ ∃ host, Cond.methodLinkNest μ.1.cls idx μ'.1 host ∈ nW)
theorem xGood {μ μ' : xM} (h : Cond.code μ'.1 μ'.2.1 μ'.2.2.1 μ'.2.2.2.1 ∈ gW) : GoodIn (wM μ) (wM μ') := by
  intro w hw
  have key : ∀ w ∈ gW, w ∈ wM μ ∧ ((w.onTables && w.keeps) = true ∨ ∃ ty, w = .arrayClass ty) := fun w hw => ⟨wM_g hw, isGood_of (List.mem_filter.mp hw).2⟩
  rcases List.mem_cons.mp hw with rfl | hw
  · exact key _ h
  · exact key _ hw
theorem xBlind {E : xE} {sz : Nat} {h : xh} {as : List xv} : FrameBlind (xPc E sz h as) := by
  intro a U g mk q
  obtain ⟨q0, q1, qP, qK, qD⟩ := q
  exact ⟨q0, q1, qP, xK.same (s := U) (U := U.calling g mk a) rfl qK, qD⟩
theorem wp_after {E : xE} {A : Nat → Prop} {p : Program} {e : Env} {s : State} {m : MethodId} {args : Array Value} {below : List Frame} {meth : Method} {c : Code} {H : Heap} {locs : List Loc} {lsA : Array Slot} {h : xh} {st0 rest : List xv} {Q' : Option Int32 → xh → Prop} {a : Array Value}
    (C : CX E μ p s m args meth c A) (I : xI E A s h H locs) (hl : lv_has lsA μ.2.2.1 (xls E ls))
    (hr : va_Run p l e (rmOf μ.2.2.2.2) s m args below meth c H locs 0 0 0 0 (F0 m pc lsA (st0.map (xV E))) (rest.map (xV E)) (xQc E (xA E H.size) Q' a) (xA E H.size))
    (kk : ∀ r h', Q' r h' → WP l E μ (pc + 3) ls (rpush r rest) h' Q) : W p l e (rmOf μ.2.2.2.2) s m args below meth c H locs 0 0 (MQ below (xQc E A Q) args s 0 0 A) (F0 m pc lsA (st0.map (xV E))) := by
  intro T hT X
  obtain ⟨v, st₀, t, T', L, h0, X', hL, e1, e2, ⟨⟨r, h', hv, hp, hP', hD'⟩, hz, hk⟩, stp⟩ := hr T hT X
  have hv : v = r.map Value.int := Outcome.returned.inj hv
  subst hv
  rw [h0] at hz hk
  have hA : ∀ q, xA E H.size q → A q := fun q z => by
    rcases z with ⟨k, hk, rfl⟩ | z
    · exact xA_of I.2.1 hk
    · exact C.2.2.2.2.2.2.2.2 q (Nat.le_trans I.2.2.1 z)
  have hS := I.2.2
  have I' : xI E A s h' T'.heap (locs ++ L) := by
    refine ⟨by rw [e1]; exact hP', wld_addr I.2.1, Nat.le_trans hS.1 (by rw [e1]; exact hz), fun q h1 h2 => ?_, fun q hq => ?_⟩
    · rw [e1, hk q (Nat.lt_of_lt_of_le h1 hS.1) (fun z => h2 (hA q z))]
      exact hS.2.1 q h1 h2
    · rcases List.mem_append.mp hq with h | h
      · exact hS.2.2 q h
      · exact hA _ (hL q h)
  obtain ⟨t2, a1, b1⟩ := kk r h' hp p e s m args below meth c A T'.heap (locs ++ L) lsA C I' hl T' rfl X'
  refine ⟨t2, stp t2 ?_, b1⟩
  have : (r.map Value.int).toList ++ rest.map (xV E) = (rpush r rest).map (xV E) := by cases r <;> rfl
  rw [this]
  exact a1
theorem wp_callS {μ' : xM} {idx n : Nat} {as rest st0 : List xv} {Q' : Option Int32 → xh → Prop} (hd : decode μ.2.1 pc = .ok (.invokestatic idx, 3)) (V : VB μ μ' idx n) (hs : Cond.static μ'.1 ∈ gW) (hn : as.length = n) (hlen : as.length ≤ μ'.2.2.1) (hst : st0 = as.reverse ++ rest) (hre : rest.length ≤ 8) (k : MC l E μ' as h Q') (kk : ∀ r h', Q' r h' → WP l E μ (pc + 3) ls (rpush r rest) h' Q) : WP l E μ pc ls st0 h Q := by
  intro p e s m args below meth c A H locs lsA C I hl
  obtain ⟨hpl, hco, hin, hde, hdp, hli⟩ := V
  have hts := C.2.2.2.2.1
  have M := met_of (l := l) (E := E) H.size hpl hlen k
  have hp : PreS s H (xPc E H.size h as) (as.map (xV E)) := ⟨xBlind, fun U hU hW => ⟨rfl, by rw [hU], by rw [hU]; exact I.1, C.2.2.2.2.2.2.2.1.warm hW, I.2.1.weaken (fun _ _ _ _ => trivial)⟩⟩
  have hR : (rmOf μ'.2.2.2.2).frames + 1 ≤ (rmOf μ.2.2.2.2).frames ∧ 8 + (μ'.2.2.1 + 11) + (rmOf μ'.2.2.2.2).locals ≤ (rmOf μ.2.2.2.2).locals := ⟨hdp.1, hdp.2⟩
  have hstk : st0.map (xV E) = (as.map (xV E)).reverse ++ rest.map (xV E) := by rw [hst, List.map_append, List.map_reverse]
  refine wp_after (a := (as.map (xV E)).toArray) (st0 := st0) (rest := rest) (Q' := Q') C I hl ?_ kk
  rcases hli with hli | ⟨host, hli⟩
  · exact va_runS (Ts := wM μ) (own := μ.1.cls) (As := as.map (xV E)) ⟨C.1, C.2.1, C.2.2.2.1, C.2.2.2.2.2.1, hts⟩ M ⟨callB_of n hts (xGood hco) rfl rfl rfl (hts _ (wM_g hin)) (hts _ (wM_g hli)) hde hR, hts _ (wM_g hs)⟩ hp rfl (by rw [List.length_map]; exact hn) hl.1 hstk (lv_room (by rw [cats]; exact hre)) hd ⟨Nat.le_refl 0, Nat.le_refl 0⟩
  · exact va_runSN (Ts := wM μ) (own := μ.1.cls) (As := as.map (xV E)) ⟨C.1, C.2.1, C.2.2.2.1, C.2.2.2.2.2.1, hts⟩ M ⟨va_cnB n hts (xGood hco) rfl rfl rfl (C.2.2.2.2.2.2.2.1.2 _ hli) (hts _ (wM_g hin)) hde hR, hts _ (wM_g hs), trivial⟩ hp rfl (by rw [List.length_map]; exact hn) hl.1 hstk (lv_room (by rw [cats]; exact hre)) hd ⟨Nat.le_refl 0, Nat.le_refl 0⟩
theorem wp_callV {μ' : xM} {idx n b ci : Nat} {fs : List (Option Nat)} {cq : vw_C} {as rest st0 : List xv} {Q' : Option Int32 → xh → Prop} (hd : decode μ.2.1 pc = .ok (.invokevirtual idx, 3)) (V : VB μ μ' idx n) (hs : Cond.instanceMethod μ'.1 ∈ gW ∧ Cond.selects μ'.1.cls μ'.1 μ'.1 ∈ gW) (hq : lay[b]? = some (.inl (ci, fs))) (hc : vwCl[ci]? = some cq) (hcn : cq.1 = μ'.1.cls) (hn : as.length = n) (hlen : as.length + 1 ≤ μ'.2.2.1) (hst : st0 = as.reverse ++ .inr b :: rest) (hre : rest.length ≤ 8) (k : MC l E μ' (.inr b :: as) h Q') (kk : ∀ r h', Q' r h' → WP l E μ (pc + 3) ls (rpush r rest) h' Q) : WP l E μ pc ls st0 h Q := by
  intro p e s m args below meth c A H locs lsA C I hl
  obtain ⟨hpl, hco, hin, hde, hdp, hli⟩ := V
  have hts := C.2.2.2.2.1
  have M := met_of (l := l) (E := E) (as := .inr b :: as) H.size hpl hlen k
  have hrec : ∃ cell : Cell, H[E.2.1 b]? = some cell ∧ cell.vm.isStatics = false ∧ s.vm.findClass μ'.1.cls = some cell.cls := by
    rw [← hcn]
    exact va_recv C.2.2.2.2.2.2.2.1.1 I.1 hc (wld_get hq)
  have hp : PreV s H μ'.1.cls (E.2.1 b) (xPc E H.size h (.inr b :: as)) (as.map (xV E)) := ⟨xBlind, hrec, fun U hU hW => ⟨rfl, by rw [hU], by rw [hU]; exact I.1, C.2.2.2.2.2.2.2.1.warm hW, I.2.1.weaken (fun _ _ _ _ => trivial)⟩⟩
  have hR : (rmOf μ'.2.2.2.2).frames + 1 ≤ (rmOf μ.2.2.2.2).frames ∧ 8 + (μ'.2.2.1 + 11) + (rmOf μ'.2.2.2.2).locals ≤ (rmOf μ.2.2.2.2).locals := ⟨hdp.1, hdp.2⟩
  have hstk : st0.map (xV E) = (as.map (xV E)).reverse ++ .ref (E.2.1 b) :: rest.map (xV E) := by rw [hst, List.map_append, List.map_reverse]; rfl
  refine wp_after (a := (Value.ref (E.2.1 b) :: as.map (xV E)).toArray) (st0 := st0) (rest := rest) (Q' := Q') C I hl ?_ kk
  rcases hli with hli | ⟨host, hli⟩
  · exact va_runV (Ts := wM μ) (own := μ.1.cls) (C := μ'.1.cls) (b := E.2.1 b) (As := as.map (xV E)) ⟨C.1, C.2.1, C.2.2.2.1, C.2.2.2.2.2.1, hts⟩ M ⟨callB_of n hts (xGood hco) rfl rfl rfl (hts _ (wM_g hin)) (hts _ (wM_g hli)) hde hR, hts _ (wM_g hs.1), hts _ (wM_g hs.2)⟩ hp rfl (by rw [List.length_map]; exact hn) hl.1 hstk (lv_room (by rw [cats]; exact hre)) hd ⟨Nat.le_refl 0, Nat.le_refl 0⟩
  · exact va_runVN (Ts := wM μ) (own := μ.1.cls) (C := μ'.1.cls) (b := E.2.1 b) (As := as.map (xV E)) ⟨C.1, C.2.1, C.2.2.2.1, C.2.2.2.2.2.1, hts⟩ M ⟨va_cnB n hts (xGood hco) rfl rfl rfl (C.2.2.2.2.2.2.2.1.2 _ hli) (hts _ (wM_g hin)) hde hR, hts _ (wM_g hs.1), hts _ (wM_g hs.2)⟩ hp rfl (by rw [List.length_map]; exact hn) hl.1 hstk (lv_room (by rw [cats]; exact hre)) hd ⟨Nat.le_refl 0, Nat.le_refl 0⟩
/-- fewer locals -/
theorem wp_sub {ls' : List (Nat × xv)} (ks : List Nat) (hs : lkeep ks ls = ls') (k : WP l E μ pc ls' st h Q) : WP l E μ pc ls st h Q := by
  intro p e s m args below meth c A H locs lsA C I hl
  refine k p e s m args below meth c A H locs lsA C I ⟨hl.1, hl.2.1, fun q hq => hl.2.2 q ?_⟩
  subst hs
  obtain ⟨z, hz, rfl⟩ := List.mem_map.mp hq
  exact List.mem_map.mpr ⟨z, lkeep_mem hz, rfl⟩
/-- more is known of the end -/
theorem WP.mono {Q' : Option Int32 → xh → Prop} (k : WP l E μ pc ls st h Q') (hq : ∀ r h', Q' r h' → Q r h') : WP l E μ pc ls st h Q := by
  intro p e s m args below meth c A H locs lsA C I hl T hT X
  obtain ⟨t, a1, o, b1, b2, ⟨⟨r, h', c1, c2, c3⟩, c4⟩, b4⟩ := k p e s m args below meth c A H locs lsA C I hl T hT X
  exact ⟨t, a1, o, b1, b2, ⟨⟨r, h', c1, hq r h' c2, c3⟩, c4⟩, b4⟩
end RULES
