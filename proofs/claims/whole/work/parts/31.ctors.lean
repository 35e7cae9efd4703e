/-! THE CONSTRUCTORS, by program (wip/whole/gen_ctor.py) -/
def h_start : xh := fun k => bif Nat.beq k 8 then upd (upd (fun _ => 0) 64 (nI 77001)) 65 (nI 1) else fun _ => 0
/-- what the class's cells hold at the start -/
def h_init (h : xh) : Prop := VC 1 1 0 0 k00 (fun _ => 0) k00 (fun _ => 0) h ∧ h 1 3 = 0 ∧ h 8 = upd (upd (fun _ => 0) 64 (nI 77001)) 65 (nI 1) ∧ h 6 2 = 0 ∧ h 6 3 = 0 ∧ h 6 4 = 0
theorem kp_perm {l : Launch} {E : xE} {μ : xM} {nc ns pc a : Nat} {st : List Value} {ws ws' : va_W} {cells slots : Nat} {Q : va_W → Prop} (is : List Nat) (h1 : is.filterMap (fun i => ws[i]?) = ws') (h2 : is.map (fun i => ws[i]?) = ws'.map some) (hn : va_nd is = true) (kk : KP l E μ nc ns pc a st ws' cells slots Q) : KP l E μ nc ns pc a st ws cells slots Q := by
  intro p e s m args below meth c A H locs lsA C hnm hP hD hS hl
  exact kk p e s m args below meth c A H locs lsA C hnm (hP.sub is h1) (hD.sub is hn h2) hS hl
theorem kw_1_1 : (Jvm.Cond.initialized "RedoShelf") ∈ gW := gW_in (tb_1 (List.mem_of_getElem? (i := 1) rfl)) rfl
theorem kw_1_122 : (Jvm.Cond.classLink "RedoShelf" (40 : Nat) "RedoShelf$Job") ∈ gW := gW_in (tb_1 (List.mem_of_getElem? (i := 122) rfl)) rfl
theorem kw_1_123 : (Jvm.Cond.instantiable "RedoShelf$Job" (5 : Nat)) ∈ gW := gW_in (tb_1 (List.mem_of_getElem? (i := 123) rfl)) rfl
theorem kw_1_124 : (Jvm.Cond.methodLinkNest "RedoShelf" (42 : Nat) ({ cls := "RedoShelf$Job", name := "<init>", desc := "()V" } : Jvm.MethodName) "RedoShelf") ∈ nW := nW_in (tb_1 (List.mem_of_getElem? (i := 124) rfl)) rfl
theorem kw_1_125 : (Jvm.Cond.instanceMethod ({ cls := "RedoShelf$Job", name := "<init>", desc := "()V" } : Jvm.MethodName)) ∈ gW := gW_in (tb_1 (List.mem_of_getElem? (i := 125) rfl)) rfl
theorem kw_1_126 : (Jvm.Cond.code ({ cls := "RedoShelf$Job", name := "<init>", desc := "()V" } : Jvm.MethodName) prog_4_method_1_code (1 : Nat) (Option.none : Option Jvm.ClassFile.FieldType)) ∈ gW := gW_in (tb_1 (List.mem_of_getElem? (i := 126) rfl)) rfl
theorem kw_1_127 : (Jvm.Cond.methodLink "RedoShelf$Job" (3 : Nat) ({ cls := "java/lang/Object", name := "<init>", desc := "()V" } : Jvm.MethodName)) ∈ gW := gW_in (tb_1 (List.mem_of_getElem? (i := 127) rfl)) rfl
theorem kw_1_128 : (Jvm.Cond.fieldLink "RedoShelf$Job" (11 : Nat) "RedoShelf$Job" "target" "[I") ∈ gW := gW_in (tb_1 (List.mem_of_getElem? (i := 128) rfl)) rfl
theorem kw_1_129 : (Jvm.Cond.fieldLink "RedoShelf$Job" (15 : Nat) "RedoShelf$Job" "words" "[I") ∈ gW := gW_in (tb_1 (List.mem_of_getElem? (i := 129) rfl)) rfl
theorem kw_1_130 : (Jvm.Cond.fieldLink "RedoShelf$Job" (18 : Nat) "RedoShelf$Job" "runningKind" "I") ∈ gW := gW_in (tb_1 (List.mem_of_getElem? (i := 130) rfl)) rfl
theorem kw_1_131 : (Jvm.Cond.fieldLink "RedoShelf$Job" (22 : Nat) "RedoShelf$Job" "planned" "I") ∈ gW := gW_in (tb_1 (List.mem_of_getElem? (i := 131) rfl)) rfl
theorem kw_1_132 : (Jvm.Cond.fieldLink "RedoShelf$Job" (25 : Nat) "RedoShelf$Job" "done" "I") ∈ gW := gW_in (tb_1 (List.mem_of_getElem? (i := 132) rfl)) rfl
theorem kw_1_144 : (Jvm.Cond.methodLink "RedoShelf" (47 : Nat) ({ cls := "RedoShelf", name := "comeUp", desc := "(II)V" } : Jvm.MethodName)) ∈ gW := gW_in (tb_1 (List.mem_of_getElem? (i := 144) rfl)) rfl
theorem kw_1_146 : (Jvm.Cond.instanceMethod ({ cls := "RedoShelf", name := "comeUp", desc := "(II)V" } : Jvm.MethodName)) ∈ gW := gW_in (tb_1 (List.mem_of_getElem? (i := 146) rfl)) rfl
theorem kw_1_147 : (Jvm.Cond.code ({ cls := "RedoShelf", name := "comeUp", desc := "(II)V" } : Jvm.MethodName) prog_1_method_32_code (3 : Nat) (Option.none : Option Jvm.ClassFile.FieldType)) ∈ gW := gW_in (tb_1 (List.mem_of_getElem? (i := 147) rfl)) rfl
theorem kw_1_152 : (Jvm.Cond.fieldLink "RedoShelf" (12 : Nat) "RedoShelf" "device" "LRedoShelf$Device;") ∈ gW := gW_in (tb_1 (List.mem_of_getElem? (i := 152) rfl)) rfl
theorem kw_1_153 : (Jvm.Cond.fieldLink "RedoShelf" (19 : Nat) "RedoShelf" "running" "LRedoShelf$Images;") ∈ gW := gW_in (tb_1 (List.mem_of_getElem? (i := 153) rfl)) rfl
theorem kw_1_154 : (Jvm.Cond.fieldLink "RedoShelf" (23 : Nat) "RedoShelf" "pending" "LRedoShelf$Images;") ∈ gW := gW_in (tb_1 (List.mem_of_getElem? (i := 154) rfl)) rfl
theorem kw_1_155 : (Jvm.Cond.fieldLink "RedoShelf" (29 : Nat) "RedoShelf" "row" "LRedoShelf$Row;") ∈ gW := gW_in (tb_1 (List.mem_of_getElem? (i := 155) rfl)) rfl
theorem kw_1_156 : (Jvm.Cond.fieldLink "RedoShelf" (36 : Nat) "RedoShelf" "reader" "LRedoShelf$LogReader;") ∈ gW := gW_in (tb_1 (List.mem_of_getElem? (i := 156) rfl)) rfl
theorem kw_1_157 : (Jvm.Cond.fieldLink "RedoShelf" (43 : Nat) "RedoShelf" "job" "LRedoShelf$Job;") ∈ gW := gW_in (tb_1 (List.mem_of_getElem? (i := 157) rfl)) rfl
theorem kw_1_16 : (Jvm.Cond.methodLink "RedoShelf" (3 : Nat) ({ cls := "java/lang/Object", name := "<init>", desc := "()V" } : Jvm.MethodName)) ∈ gW := gW_in (tb_1 (List.mem_of_getElem? (i := 16) rfl)) rfl
theorem kw_1_17 : (Jvm.Cond.instanceMethod ({ cls := "java/lang/Object", name := "<init>", desc := "()V" } : Jvm.MethodName)) ∈ gW := gW_in (tb_1 (List.mem_of_getElem? (i := 17) rfl)) rfl
theorem kw_1_18 : (Jvm.Cond.code ({ cls := "java/lang/Object", name := "<init>", desc := "()V" } : Jvm.MethodName) object_method_1_code (1 : Nat) (Option.none : Option Jvm.ClassFile.FieldType)) ∈ gW := gW_in (tb_1 (List.mem_of_getElem? (i := 18) rfl)) rfl
theorem kw_1_19 : (Jvm.Cond.classLink "RedoShelf" (9 : Nat) "RedoShelf$Device") ∈ gW := gW_in (tb_1 (List.mem_of_getElem? (i := 19) rfl)) rfl
theorem kw_1_2 : (Jvm.Cond.initialized "RedoShelf$Device") ∈ gW := gW_in (tb_1 (List.mem_of_getElem? (i := 2) rfl)) rfl
theorem kw_1_20 : (Jvm.Cond.instantiable "RedoShelf$Device" (4 : Nat)) ∈ gW := gW_in (tb_1 (List.mem_of_getElem? (i := 20) rfl)) rfl
theorem kw_1_21 : (Jvm.Cond.methodLink "RedoShelf" (11 : Nat) ({ cls := "RedoShelf$Device", name := "<init>", desc := "()V" } : Jvm.MethodName)) ∈ gW := gW_in (tb_1 (List.mem_of_getElem? (i := 21) rfl)) rfl
theorem kw_1_22 : (Jvm.Cond.instanceMethod ({ cls := "RedoShelf$Device", name := "<init>", desc := "()V" } : Jvm.MethodName)) ∈ gW := gW_in (tb_1 (List.mem_of_getElem? (i := 22) rfl)) rfl
theorem kw_1_23 : (Jvm.Cond.code ({ cls := "RedoShelf$Device", name := "<init>", desc := "()V" } : Jvm.MethodName) prog_2_method_1_code (1 : Nat) (Option.none : Option Jvm.ClassFile.FieldType)) ∈ gW := gW_in (tb_1 (List.mem_of_getElem? (i := 23) rfl)) rfl
theorem kw_1_24 : (Jvm.Cond.methodLink "RedoShelf$Device" (3 : Nat) ({ cls := "java/lang/Object", name := "<init>", desc := "()V" } : Jvm.MethodName)) ∈ gW := gW_in (tb_1 (List.mem_of_getElem? (i := 24) rfl)) rfl
theorem kw_1_25 : (Jvm.Cond.constant "RedoShelf$Device" (25 : Nat) (77001 : Int32)) ∈ gW := gW_in (tb_1 (List.mem_of_getElem? (i := 25) rfl)) rfl
theorem kw_1_26 : (Jvm.Cond.fieldLink "RedoShelf$Device" (9 : Nat) "RedoShelf$Device" "sectorWords" "[I") ∈ gW := gW_in (tb_1 (List.mem_of_getElem? (i := 26) rfl)) rfl
theorem kw_1_27 : (Jvm.Cond.fieldLink "RedoShelf$Device" (15 : Nat) "RedoShelf$Device" "entrySector" "[I") ∈ gW := gW_in (tb_1 (List.mem_of_getElem? (i := 27) rfl)) rfl
theorem kw_1_28 : (Jvm.Cond.fieldLink "RedoShelf$Device" (18 : Nat) "RedoShelf$Device" "entryWords" "[I") ∈ gW := gW_in (tb_1 (List.mem_of_getElem? (i := 28) rfl)) rfl
theorem kw_1_29 : (Jvm.Cond.fieldLink "RedoShelf$Device" (21 : Nat) "RedoShelf$Device" "entries" "I") ∈ gW := gW_in (tb_1 (List.mem_of_getElem? (i := 29) rfl)) rfl
theorem kw_1_3 : (Jvm.Cond.initialized "RedoShelf$Images") ∈ gW := gW_in (tb_1 (List.mem_of_getElem? (i := 3) rfl)) rfl
theorem kw_1_39 : (Jvm.Cond.arrayClass Jvm.ClassFile.FieldType.int) ∈ gW := gW_in (tb_1 (List.mem_of_getElem? (i := 39) rfl)) rfl
theorem kw_1_4 : (Jvm.Cond.initialized "RedoShelf$Row") ∈ gW := gW_in (tb_1 (List.mem_of_getElem? (i := 4) rfl)) rfl
theorem kw_1_40 : (Jvm.Cond.classLink "RedoShelf" (16 : Nat) "RedoShelf$Images") ∈ gW := gW_in (tb_1 (List.mem_of_getElem? (i := 40) rfl)) rfl
theorem kw_1_41 : (Jvm.Cond.instantiable "RedoShelf$Images" (3 : Nat)) ∈ gW := gW_in (tb_1 (List.mem_of_getElem? (i := 41) rfl)) rfl
theorem kw_1_42 : (Jvm.Cond.methodLinkNest "RedoShelf" (18 : Nat) ({ cls := "RedoShelf$Images", name := "<init>", desc := "()V" } : Jvm.MethodName) "RedoShelf") ∈ nW := nW_in (tb_1 (List.mem_of_getElem? (i := 42) rfl)) rfl
theorem kw_1_43 : (Jvm.Cond.instanceMethod ({ cls := "RedoShelf$Images", name := "<init>", desc := "()V" } : Jvm.MethodName)) ∈ gW := gW_in (tb_1 (List.mem_of_getElem? (i := 43) rfl)) rfl
theorem kw_1_44 : (Jvm.Cond.code ({ cls := "RedoShelf$Images", name := "<init>", desc := "()V" } : Jvm.MethodName) prog_3_method_1_code (1 : Nat) (Option.none : Option Jvm.ClassFile.FieldType)) ∈ gW := gW_in (tb_1 (List.mem_of_getElem? (i := 44) rfl)) rfl
theorem kw_1_45 : (Jvm.Cond.methodLink "RedoShelf$Images" (3 : Nat) ({ cls := "java/lang/Object", name := "<init>", desc := "()V" } : Jvm.MethodName)) ∈ gW := gW_in (tb_1 (List.mem_of_getElem? (i := 45) rfl)) rfl
theorem kw_1_46 : (Jvm.Cond.fieldLink "RedoShelf$Images" (9 : Nat) "RedoShelf$Images" "held" "[Z") ∈ gW := gW_in (tb_1 (List.mem_of_getElem? (i := 46) rfl)) rfl
theorem kw_1_47 : (Jvm.Cond.fieldLink "RedoShelf$Images" (15 : Nat) "RedoShelf$Images" "words" "[I") ∈ gW := gW_in (tb_1 (List.mem_of_getElem? (i := 47) rfl)) rfl
theorem kw_1_48 : (Jvm.Cond.fieldLink "RedoShelf$Images" (19 : Nat) "RedoShelf$Images" "count" "I") ∈ gW := gW_in (tb_1 (List.mem_of_getElem? (i := 48) rfl)) rfl
theorem kw_1_5 : (Jvm.Cond.initialized "RedoShelf$LogReader") ∈ gW := gW_in (tb_1 (List.mem_of_getElem? (i := 5) rfl)) rfl
theorem kw_1_56 : (Jvm.Cond.arrayClass Jvm.ClassFile.FieldType.boolean) ∈ gW := gW_in (tb_1 (List.mem_of_getElem? (i := 56) rfl)) rfl
theorem kw_1_57 : (Jvm.Cond.classLink "RedoShelf" (26 : Nat) "RedoShelf$Row") ∈ gW := gW_in (tb_1 (List.mem_of_getElem? (i := 57) rfl)) rfl
theorem kw_1_58 : (Jvm.Cond.instantiable "RedoShelf$Row" (4 : Nat)) ∈ gW := gW_in (tb_1 (List.mem_of_getElem? (i := 58) rfl)) rfl
theorem kw_1_59 : (Jvm.Cond.methodLinkNest "RedoShelf" (28 : Nat) ({ cls := "RedoShelf$Row", name := "<init>", desc := "()V" } : Jvm.MethodName) "RedoShelf") ∈ nW := nW_in (tb_1 (List.mem_of_getElem? (i := 59) rfl)) rfl
theorem kw_1_6 : (Jvm.Cond.initialized "RedoShelf$Job") ∈ gW := gW_in (tb_1 (List.mem_of_getElem? (i := 6) rfl)) rfl
theorem kw_1_60 : (Jvm.Cond.instanceMethod ({ cls := "RedoShelf$Row", name := "<init>", desc := "()V" } : Jvm.MethodName)) ∈ gW := gW_in (tb_1 (List.mem_of_getElem? (i := 60) rfl)) rfl
theorem kw_1_61 : (Jvm.Cond.code ({ cls := "RedoShelf$Row", name := "<init>", desc := "()V" } : Jvm.MethodName) prog_6_method_1_code (1 : Nat) (Option.none : Option Jvm.ClassFile.FieldType)) ∈ gW := gW_in (tb_1 (List.mem_of_getElem? (i := 61) rfl)) rfl
theorem kw_1_62 : (Jvm.Cond.methodLink "RedoShelf$Row" (3 : Nat) ({ cls := "java/lang/Object", name := "<init>", desc := "()V" } : Jvm.MethodName)) ∈ gW := gW_in (tb_1 (List.mem_of_getElem? (i := 62) rfl)) rfl
theorem kw_1_63 : (Jvm.Cond.fieldLink "RedoShelf$Row" (11 : Nat) "RedoShelf$Row" "words" "[I") ∈ gW := gW_in (tb_1 (List.mem_of_getElem? (i := 63) rfl)) rfl
theorem kw_1_64 : (Jvm.Cond.fieldLink "RedoShelf$Row" (15 : Nat) "RedoShelf$Row" "group" "[I") ∈ gW := gW_in (tb_1 (List.mem_of_getElem? (i := 64) rfl)) rfl
theorem kw_1_65 : (Jvm.Cond.fieldLink "RedoShelf$Row" (18 : Nat) "RedoShelf$Row" "sectors" "I") ∈ gW := gW_in (tb_1 (List.mem_of_getElem? (i := 65) rfl)) rfl
theorem kw_1_66 : (Jvm.Cond.fieldLink "RedoShelf$Row" (22 : Nat) "RedoShelf$Row" "sum" "I") ∈ gW := gW_in (tb_1 (List.mem_of_getElem? (i := 66) rfl)) rfl
theorem kw_1_76 : (Jvm.Cond.classLink "RedoShelf" (33 : Nat) "RedoShelf$LogReader") ∈ gW := gW_in (tb_1 (List.mem_of_getElem? (i := 76) rfl)) rfl
theorem kw_1_77 : (Jvm.Cond.instantiable "RedoShelf$LogReader" (13 : Nat)) ∈ gW := gW_in (tb_1 (List.mem_of_getElem? (i := 77) rfl)) rfl
theorem kw_1_78 : (Jvm.Cond.methodLinkNest "RedoShelf" (35 : Nat) ({ cls := "RedoShelf$LogReader", name := "<init>", desc := "()V" } : Jvm.MethodName) "RedoShelf") ∈ nW := nW_in (tb_1 (List.mem_of_getElem? (i := 78) rfl)) rfl
theorem kw_1_79 : (Jvm.Cond.instanceMethod ({ cls := "RedoShelf$LogReader", name := "<init>", desc := "()V" } : Jvm.MethodName)) ∈ gW := gW_in (tb_1 (List.mem_of_getElem? (i := 79) rfl)) rfl
theorem kw_1_80 : (Jvm.Cond.code ({ cls := "RedoShelf$LogReader", name := "<init>", desc := "()V" } : Jvm.MethodName) prog_5_method_1_code (1 : Nat) (Option.none : Option Jvm.ClassFile.FieldType)) ∈ gW := gW_in (tb_1 (List.mem_of_getElem? (i := 80) rfl)) rfl
theorem kw_1_81 : (Jvm.Cond.methodLink "RedoShelf$LogReader" (3 : Nat) ({ cls := "java/lang/Object", name := "<init>", desc := "()V" } : Jvm.MethodName)) ∈ gW := gW_in (tb_1 (List.mem_of_getElem? (i := 81) rfl)) rfl
theorem kw_1_82 : (Jvm.Cond.fieldLink "RedoShelf$LogReader" (9 : Nat) "RedoShelf$LogReader" "log" "[I") ∈ gW := gW_in (tb_1 (List.mem_of_getElem? (i := 82) rfl)) rfl
theorem kw_1_83 : (Jvm.Cond.fieldLink "RedoShelf$LogReader" (15 : Nat) "RedoShelf$LogReader" "imageOffset" "[I") ∈ gW := gW_in (tb_1 (List.mem_of_getElem? (i := 83) rfl)) rfl
theorem kw_1_84 : (Jvm.Cond.fieldLink "RedoShelf$LogReader" (18 : Nat) "RedoShelf$LogReader" "imageBlock" "[I") ∈ gW := gW_in (tb_1 (List.mem_of_getElem? (i := 84) rfl)) rfl
theorem kw_1_85 : (Jvm.Cond.fieldLink "RedoShelf$LogReader" (21 : Nat) "RedoShelf$LogReader" "imageHidden" "[Z") ∈ gW := gW_in (tb_1 (List.mem_of_getElem? (i := 85) rfl)) rfl
theorem kw_1_86 : (Jvm.Cond.fieldLink "RedoShelf$LogReader" (25 : Nat) "RedoShelf$LogReader" "imageTurn" "[I") ∈ gW := gW_in (tb_1 (List.mem_of_getElem? (i := 86) rfl)) rfl
theorem kw_1_87 : (Jvm.Cond.fieldLink "RedoShelf$LogReader" (28 : Nat) "RedoShelf$LogReader" "lastRevokingTurn" "[I") ∈ gW := gW_in (tb_1 (List.mem_of_getElem? (i := 87) rfl)) rfl
theorem kw_1_88 : (Jvm.Cond.fieldLink "RedoShelf$LogReader" (31 : Nat) "RedoShelf$LogReader" "start" "I") ∈ gW := gW_in (tb_1 (List.mem_of_getElem? (i := 88) rfl)) rfl
theorem kw_1_89 : (Jvm.Cond.fieldLink "RedoShelf$LogReader" (35 : Nat) "RedoShelf$LogReader" "number" "I") ∈ gW := gW_in (tb_1 (List.mem_of_getElem? (i := 89) rfl)) rfl
theorem kw_1_90 : (Jvm.Cond.fieldLink "RedoShelf$LogReader" (38 : Nat) "RedoShelf$LogReader" "validSectors" "I") ∈ gW := gW_in (tb_1 (List.mem_of_getElem? (i := 90) rfl)) rfl
theorem kw_1_91 : (Jvm.Cond.fieldLink "RedoShelf$LogReader" (41 : Nat) "RedoShelf$LogReader" "validImages" "I") ∈ gW := gW_in (tb_1 (List.mem_of_getElem? (i := 91) rfl)) rfl
theorem kw_1_92 : (Jvm.Cond.fieldLink "RedoShelf$LogReader" (44 : Nat) "RedoShelf$LogReader" "at" "I") ∈ gW := gW_in (tb_1 (List.mem_of_getElem? (i := 92) rfl)) rfl
theorem kw_1_93 : (Jvm.Cond.fieldLink "RedoShelf$LogReader" (47 : Nat) "RedoShelf$LogReader" "sum" "I") ∈ gW := gW_in (tb_1 (List.mem_of_getElem? (i := 93) rfl)) rfl
theorem kw_1_94 : (Jvm.Cond.fieldLink "RedoShelf$LogReader" (50 : Nat) "RedoShelf$LogReader" "found" "I") ∈ gW := gW_in (tb_1 (List.mem_of_getElem? (i := 94) rfl)) rfl
theorem kw_3_28 : (Jvm.Cond.methodLink "RedoShelfModel" (1 : Nat) ({ cls := "java/lang/Object", name := "<init>", desc := "()V" } : Jvm.MethodName)) ∈ gW := gW_in (tb_3 (List.mem_of_getElem? (i := 28) rfl)) rfl
theorem kw_3_29 : (Jvm.Cond.constant "RedoShelfModel" (49 : Nat) (77001 : Int32)) ∈ gW := gW_in (tb_3 (List.mem_of_getElem? (i := 29) rfl)) rfl
theorem kw_3_30 : (Jvm.Cond.fieldLink "RedoShelfModel" (7 : Nat) "RedoShelfModel" "disk" "[I") ∈ gW := gW_in (tb_3 (List.mem_of_getElem? (i := 30) rfl)) rfl
theorem kw_3_32 : (Jvm.Cond.fieldLink "RedoShelfModel" (13 : Nat) "RedoShelfModel" "sectorOf" "[I") ∈ gW := gW_in (tb_3 (List.mem_of_getElem? (i := 32) rfl)) rfl
theorem kw_3_33 : (Jvm.Cond.fieldLink "RedoShelfModel" (16 : Nat) "RedoShelfModel" "words" "[I") ∈ gW := gW_in (tb_3 (List.mem_of_getElem? (i := 33) rfl)) rfl
theorem kw_3_34 : (Jvm.Cond.fieldLink "RedoShelfModel" (19 : Nat) "RedoShelfModel" "up" "Z") ∈ gW := gW_in (tb_3 (List.mem_of_getElem? (i := 34) rfl)) rfl
theorem kw_3_35 : (Jvm.Cond.fieldLink "RedoShelfModel" (23 : Nat) "RedoShelfModel" "number" "I") ∈ gW := gW_in (tb_3 (List.mem_of_getElem? (i := 35) rfl)) rfl
theorem kw_3_38 : (Jvm.Cond.fieldLink "RedoShelfModel" (27 : Nat) "RedoShelfModel" "kinds" "[I") ∈ gW := gW_in (tb_3 (List.mem_of_getElem? (i := 38) rfl)) rfl
theorem kw_3_39 : (Jvm.Cond.fieldLink "RedoShelfModel" (30 : Nat) "RedoShelfModel" "running" "[I") ∈ gW := gW_in (tb_3 (List.mem_of_getElem? (i := 39) rfl)) rfl
theorem kw_3_40 : (Jvm.Cond.fieldLink "RedoShelfModel" (33 : Nat) "RedoShelfModel" "isPending" "[Z") ∈ gW := gW_in (tb_3 (List.mem_of_getElem? (i := 40) rfl)) rfl
theorem kw_3_41 : (Jvm.Cond.fieldLink "RedoShelfModel" (37 : Nat) "RedoShelfModel" "pending" "[I") ∈ gW := gW_in (tb_3 (List.mem_of_getElem? (i := 41) rfl)) rfl
theorem kw_3_45 : (Jvm.Cond.fieldLink "RedoShelfModel" (40 : Nat) "RedoShelfModel" "out" "[I") ∈ gW := gW_in (tb_3 (List.mem_of_getElem? (i := 45) rfl)) rfl
theorem kw_3_51 : (Jvm.Cond.fieldLink "RedoShelfModel" (43 : Nat) "RedoShelfModel" "revoker" "[I") ∈ gW := gW_in (tb_3 (List.mem_of_getElem? (i := 51) rfl)) rfl
theorem kw_3_52 : (Jvm.Cond.fieldLink "RedoShelfModel" (46 : Nat) "RedoShelfModel" "revoked" "[Z") ∈ gW := gW_in (tb_3 (List.mem_of_getElem? (i := 52) rfl)) rfl
theorem kc_bipush_108 : (Int8.ofInt (108)).toInt32 = nI 108 := by decide +kernel
theorem kc_bipush_112 : (Int8.ofInt (112)).toInt32 = nI 112 := by decide +kernel
theorem kc_bipush_16 : (Int8.ofInt (16)).toInt32 = nI 16 := by decide +kernel
theorem kc_bipush_24 : (Int8.ofInt (24)).toInt32 = nI 24 := by decide +kernel
theorem kc_bipush_27 : (Int8.ofInt (27)).toInt32 = nI 27 := by decide +kernel
theorem kc_bipush_28 : (Int8.ofInt (28)).toInt32 = nI 28 := by decide +kernel
theorem kc_bipush_32 : (Int8.ofInt (32)).toInt32 = nI 32 := by decide +kernel
theorem kc_bipush_48 : (Int8.ofInt (48)).toInt32 = nI 48 := by decide +kernel
theorem kc_bipush_64 : (Int8.ofInt (64)).toInt32 = nI 64 := by decide +kernel
theorem kc_bipush_65 : (Int8.ofInt (65)).toInt32 = nI 65 := by decide +kernel
theorem kc_bipush_96 : (Int8.ofInt (96)).toInt32 = nI 96 := by decide +kernel
theorem kc_iconst_0 : Int32.ofInt (0) = nI 0 := by decide +kernel
theorem kc_iconst_1 : Int32.ofInt (1) = nI 1 := by decide +kernel
theorem kc_iconst_4 : Int32.ofInt (4) = nI 4 := by decide +kernel
theorem kc_sipush_128 : (Int16.ofInt (128)).toInt32 = nI 128 := by decide +kernel
theorem kc_sipush_164 : (Int16.ofInt (164)).toInt32 = nI 164 := by decide +kernel
theorem kl_DV_21 : FL "RedoShelf$Device" 21 1 3 .int := ⟨"RedoShelf$Device", T_DV, 4, t_DV, rfl, by decide, ig_DV, rfl, by decide +kernel, t_DV_ok, n_DV, Or.inl kw_1_29⟩
theorem kl_DV_9 : FL "RedoShelf$Device" 9 1 0 (.array .int) := ⟨"RedoShelf$Device", T_DV, 4, t_DV, rfl, by decide, ig_DV, rfl, by decide +kernel, t_DV_ok, n_DV, Or.inl kw_1_26⟩
theorem kl_IM_19 : FL "RedoShelf$Images" 19 2 2 .int := ⟨"RedoShelf$Images", T_IM, 3, t_IM, rfl, by decide, ig_IM, rfl, by decide +kernel, t_IM_ok, n_IM, Or.inl kw_1_48⟩
theorem kl_JB_18 : FL "RedoShelf$Job" 18 5 2 .int := ⟨"RedoShelf$Job", T_JB, 5, t_JB, rfl, by decide, ig_JB, rfl, by decide +kernel, t_JB_ok, n_JB, Or.inl kw_1_130⟩
theorem kl_JB_22 : FL "RedoShelf$Job" 22 5 3 .int := ⟨"RedoShelf$Job", T_JB, 5, t_JB, rfl, by decide, ig_JB, rfl, by decide +kernel, t_JB_ok, n_JB, Or.inl kw_1_131⟩
theorem kl_JB_25 : FL "RedoShelf$Job" 25 5 4 .int := ⟨"RedoShelf$Job", T_JB, 5, t_JB, rfl, by decide, ig_JB, rfl, by decide +kernel, t_JB_ok, n_JB, Or.inl kw_1_132⟩
theorem kl_LR_31 : FL "RedoShelf$LogReader" 31 4 6 .int := ⟨"RedoShelf$LogReader", T_LR, 13, t_LR, rfl, by decide, ig_LR, rfl, by decide +kernel, t_LR_ok, n_LR, Or.inl kw_1_88⟩
theorem kl_LR_35 : FL "RedoShelf$LogReader" 35 4 7 .int := ⟨"RedoShelf$LogReader", T_LR, 13, t_LR, rfl, by decide, ig_LR, rfl, by decide +kernel, t_LR_ok, n_LR, Or.inl kw_1_89⟩
theorem kl_LR_38 : FL "RedoShelf$LogReader" 38 4 8 .int := ⟨"RedoShelf$LogReader", T_LR, 13, t_LR, rfl, by decide, ig_LR, rfl, by decide +kernel, t_LR_ok, n_LR, Or.inl kw_1_90⟩
theorem kl_LR_41 : FL "RedoShelf$LogReader" 41 4 9 .int := ⟨"RedoShelf$LogReader", T_LR, 13, t_LR, rfl, by decide, ig_LR, rfl, by decide +kernel, t_LR_ok, n_LR, Or.inl kw_1_91⟩
theorem kl_LR_44 : FL "RedoShelf$LogReader" 44 4 10 .int := ⟨"RedoShelf$LogReader", T_LR, 13, t_LR, rfl, by decide, ig_LR, rfl, by decide +kernel, t_LR_ok, n_LR, Or.inl kw_1_92⟩
theorem kl_LR_47 : FL "RedoShelf$LogReader" 47 4 11 .int := ⟨"RedoShelf$LogReader", T_LR, 13, t_LR, rfl, by decide, ig_LR, rfl, by decide +kernel, t_LR_ok, n_LR, Or.inl kw_1_93⟩
theorem kl_LR_50 : FL "RedoShelf$LogReader" 50 4 12 .int := ⟨"RedoShelf$LogReader", T_LR, 13, t_LR, rfl, by decide, ig_LR, rfl, by decide +kernel, t_LR_ok, n_LR, Or.inl kw_1_94⟩
theorem kl_MD_19 : FL "RedoShelfModel" 19 6 4 .boolean := ⟨"RedoShelfModel", T_MD, 23, t_MD, rfl, by decide, ig_MD, rfl, by decide +kernel, t_MD_ok, n_MD, Or.inl kw_3_34⟩
theorem kl_MD_23 : FL "RedoShelfModel" 23 6 5 .int := ⟨"RedoShelfModel", T_MD, 23, t_MD, rfl, by decide, ig_MD, rfl, by decide +kernel, t_MD_ok, n_MD, Or.inl kw_3_35⟩
theorem kl_MD_7 : FL "RedoShelfModel" 7 6 0 (.array .int) := ⟨"RedoShelfModel", T_MD, 23, t_MD, rfl, by decide, ig_MD, rfl, by decide +kernel, t_MD_ok, n_MD, Or.inl kw_3_30⟩
theorem kl_RW_18 : FL "RedoShelf$Row" 18 3 2 .int := ⟨"RedoShelf$Row", T_RW, 4, t_RW, rfl, by decide, ig_RW, rfl, by decide +kernel, t_RW_ok, n_RW, Or.inl kw_1_65⟩
theorem kl_RW_22 : FL "RedoShelf$Row" 22 3 3 .int := ⟨"RedoShelf$Row", T_RW, 4, t_RW, rfl, by decide, ig_RW, rfl, by decide +kernel, t_RW_ok, n_RW, Or.inl kw_1_66⟩
theorem kb_RS_11 : VB M_RS_init M_DV_init 11 0 := ⟨by decide +kernel, kw_1_23, kw_1_2, ⟨by decide +kernel, by decide +kernel, by decide +kernel⟩, ⟨by decide, by decide⟩, Or.inl kw_1_21⟩
theorem kb_RS_18 : VB M_RS_init M_IM_init 18 0 := ⟨by decide +kernel, kw_1_44, kw_1_3, ⟨by decide +kernel, by decide +kernel, by decide +kernel⟩, ⟨by decide, by decide⟩, Or.inr ⟨_, kw_1_42⟩⟩
theorem kb_RS_28 : VB M_RS_init M_RW_init 28 0 := ⟨by decide +kernel, kw_1_61, kw_1_4, ⟨by decide +kernel, by decide +kernel, by decide +kernel⟩, ⟨by decide, by decide⟩, Or.inr ⟨_, kw_1_59⟩⟩
theorem kb_RS_35 : VB M_RS_init M_LR_init 35 0 := ⟨by decide +kernel, kw_1_80, kw_1_5, ⟨by decide +kernel, by decide +kernel, by decide +kernel⟩, ⟨by decide, by decide⟩, Or.inr ⟨_, kw_1_78⟩⟩
theorem kb_RS_42 : VB M_RS_init M_JB_init 42 0 := ⟨by decide +kernel, kw_1_126, kw_1_6, ⟨by decide +kernel, by decide +kernel, by decide +kernel⟩, ⟨by decide, by decide⟩, Or.inr ⟨_, kw_1_124⟩⟩
theorem kb_RS_47 : VB M_RS_init M_RS_comeUp 47 2 := ⟨by decide +kernel, kw_1_147, kw_1_1, ⟨by decide +kernel, by decide +kernel, by decide +kernel⟩, ⟨by decide, by decide⟩, Or.inl kw_1_144⟩
theorem kf_DV_15 : FK "RedoShelf$Device" 15 1 1 (.array .int) := ⟨T_DV, 4, t_DV, rfl, by decide, ig_DV, rfl, rfl, by decide +kernel, t_DV_ok, n_DV, kw_1_27⟩
theorem kf_DV_18 : FK "RedoShelf$Device" 18 1 2 (.array .int) := ⟨T_DV, 4, t_DV, rfl, by decide, ig_DV, rfl, rfl, by decide +kernel, t_DV_ok, n_DV, kw_1_28⟩
theorem kf_DV_9 : FK "RedoShelf$Device" 9 1 0 (.array .int) := ⟨T_DV, 4, t_DV, rfl, by decide, ig_DV, rfl, rfl, by decide +kernel, t_DV_ok, n_DV, kw_1_26⟩
theorem kf_IM_15 : FK "RedoShelf$Images" 15 2 1 (.array .int) := ⟨T_IM, 3, t_IM, rfl, by decide, ig_IM, rfl, rfl, by decide +kernel, t_IM_ok, n_IM, kw_1_47⟩
theorem kf_IM_9 : FK "RedoShelf$Images" 9 2 0 (.array .boolean) := ⟨T_IM, 3, t_IM, rfl, by decide, ig_IM, rfl, rfl, by decide +kernel, t_IM_ok, n_IM, kw_1_46⟩
theorem kf_JB_11 : FK "RedoShelf$Job" 11 5 0 (.array .int) := ⟨T_JB, 5, t_JB, rfl, by decide, ig_JB, rfl, rfl, by decide +kernel, t_JB_ok, n_JB, kw_1_128⟩
theorem kf_JB_15 : FK "RedoShelf$Job" 15 5 1 (.array .int) := ⟨T_JB, 5, t_JB, rfl, by decide, ig_JB, rfl, rfl, by decide +kernel, t_JB_ok, n_JB, kw_1_129⟩
theorem kf_LR_15 : FK "RedoShelf$LogReader" 15 4 1 (.array .int) := ⟨T_LR, 13, t_LR, rfl, by decide, ig_LR, rfl, rfl, by decide +kernel, t_LR_ok, n_LR, kw_1_83⟩
theorem kf_LR_18 : FK "RedoShelf$LogReader" 18 4 2 (.array .int) := ⟨T_LR, 13, t_LR, rfl, by decide, ig_LR, rfl, rfl, by decide +kernel, t_LR_ok, n_LR, kw_1_84⟩
theorem kf_LR_21 : FK "RedoShelf$LogReader" 21 4 3 (.array .boolean) := ⟨T_LR, 13, t_LR, rfl, by decide, ig_LR, rfl, rfl, by decide +kernel, t_LR_ok, n_LR, kw_1_85⟩
theorem kf_LR_25 : FK "RedoShelf$LogReader" 25 4 4 (.array .int) := ⟨T_LR, 13, t_LR, rfl, by decide, ig_LR, rfl, rfl, by decide +kernel, t_LR_ok, n_LR, kw_1_86⟩
theorem kf_LR_28 : FK "RedoShelf$LogReader" 28 4 5 (.array .int) := ⟨T_LR, 13, t_LR, rfl, by decide, ig_LR, rfl, rfl, by decide +kernel, t_LR_ok, n_LR, kw_1_87⟩
theorem kf_LR_9 : FK "RedoShelf$LogReader" 9 4 0 (.array .int) := ⟨T_LR, 13, t_LR, rfl, by decide, ig_LR, rfl, rfl, by decide +kernel, t_LR_ok, n_LR, kw_1_82⟩
theorem kf_MD_13 : FK "RedoShelfModel" 13 6 2 (.array .int) := ⟨T_MD, 23, t_MD, rfl, by decide, ig_MD, rfl, rfl, by decide +kernel, t_MD_ok, n_MD, kw_3_32⟩
theorem kf_MD_16 : FK "RedoShelfModel" 16 6 3 (.array .int) := ⟨T_MD, 23, t_MD, rfl, by decide, ig_MD, rfl, rfl, by decide +kernel, t_MD_ok, n_MD, kw_3_33⟩
theorem kf_MD_27 : FK "RedoShelfModel" 27 6 8 (.array .int) := ⟨T_MD, 23, t_MD, rfl, by decide, ig_MD, rfl, rfl, by decide +kernel, t_MD_ok, n_MD, kw_3_38⟩
theorem kf_MD_30 : FK "RedoShelfModel" 30 6 9 (.array .int) := ⟨T_MD, 23, t_MD, rfl, by decide, ig_MD, rfl, rfl, by decide +kernel, t_MD_ok, n_MD, kw_3_39⟩
theorem kf_MD_33 : FK "RedoShelfModel" 33 6 10 (.array .boolean) := ⟨T_MD, 23, t_MD, rfl, by decide, ig_MD, rfl, rfl, by decide +kernel, t_MD_ok, n_MD, kw_3_40⟩
theorem kf_MD_37 : FK "RedoShelfModel" 37 6 11 (.array .int) := ⟨T_MD, 23, t_MD, rfl, by decide, ig_MD, rfl, rfl, by decide +kernel, t_MD_ok, n_MD, kw_3_41⟩
theorem kf_MD_40 : FK "RedoShelfModel" 40 6 15 (.array .int) := ⟨T_MD, 23, t_MD, rfl, by decide, ig_MD, rfl, rfl, by decide +kernel, t_MD_ok, n_MD, kw_3_45⟩
theorem kf_MD_43 : FK "RedoShelfModel" 43 6 21 (.array .int) := ⟨T_MD, 23, t_MD, rfl, by decide, ig_MD, rfl, rfl, by decide +kernel, t_MD_ok, n_MD, kw_3_51⟩
theorem kf_MD_46 : FK "RedoShelfModel" 46 6 22 (.array .boolean) := ⟨T_MD, 23, t_MD, rfl, by decide, ig_MD, rfl, rfl, by decide +kernel, t_MD_ok, n_MD, kw_3_52⟩
theorem kf_MD_7 : FK "RedoShelfModel" 7 6 0 (.array .int) := ⟨T_MD, 23, t_MD, rfl, by decide, ig_MD, rfl, rfl, by decide +kernel, t_MD_ok, n_MD, kw_3_30⟩
theorem kf_RS_12 : FK "RedoShelf" 12 0 0 (.object "RedoShelf$Device") := ⟨T_RS, 11, t_RS, rfl, by decide, ig_RS, rfl, rfl, by decide +kernel, t_RS_ok, n_RS, kw_1_152⟩
theorem kf_RS_19 : FK "RedoShelf" 19 0 1 (.object "RedoShelf$Images") := ⟨T_RS, 11, t_RS, rfl, by decide, ig_RS, rfl, rfl, by decide +kernel, t_RS_ok, n_RS, kw_1_153⟩
theorem kf_RS_23 : FK "RedoShelf" 23 0 2 (.object "RedoShelf$Images") := ⟨T_RS, 11, t_RS, rfl, by decide, ig_RS, rfl, rfl, by decide +kernel, t_RS_ok, n_RS, kw_1_154⟩
theorem kf_RS_29 : FK "RedoShelf" 29 0 3 (.object "RedoShelf$Row") := ⟨T_RS, 11, t_RS, rfl, by decide, ig_RS, rfl, rfl, by decide +kernel, t_RS_ok, n_RS, kw_1_155⟩
theorem kf_RS_36 : FK "RedoShelf" 36 0 4 (.object "RedoShelf$LogReader") := ⟨T_RS, 11, t_RS, rfl, by decide, ig_RS, rfl, rfl, by decide +kernel, t_RS_ok, n_RS, kw_1_156⟩
theorem kf_RS_43 : FK "RedoShelf" 43 0 5 (.object "RedoShelf$Job") := ⟨T_RS, 11, t_RS, rfl, by decide, ig_RS, rfl, rfl, by decide +kernel, t_RS_ok, n_RS, kw_1_157⟩
theorem kf_RW_11 : FK "RedoShelf$Row" 11 3 0 (.array .int) := ⟨T_RW, 4, t_RW, rfl, by decide, ig_RW, rfl, rfl, by decide +kernel, t_RW_ok, n_RW, kw_1_63⟩
theorem kf_RW_15 : FK "RedoShelf$Row" 15 3 1 (.array .int) := ⟨T_RW, 4, t_RW, rfl, by decide, ig_RW, rfl, rfl, by decide +kernel, t_RW_ok, n_RW, kw_1_64⟩
theorem km_DV_21 : FM "RedoShelf$Device" 21 1 3 .int := ⟨kl_DV_21, fun q hq => by cases hq; rfl⟩
theorem km_IM_19 : FM "RedoShelf$Images" 19 2 2 .int := ⟨kl_IM_19, fun q hq => by cases hq; rfl⟩
theorem km_JB_18 : FM "RedoShelf$Job" 18 5 2 .int := ⟨kl_JB_18, fun q hq => by cases hq; rfl⟩
theorem km_JB_22 : FM "RedoShelf$Job" 22 5 3 .int := ⟨kl_JB_22, fun q hq => by cases hq; rfl⟩
theorem km_JB_25 : FM "RedoShelf$Job" 25 5 4 .int := ⟨kl_JB_25, fun q hq => by cases hq; rfl⟩
theorem km_LR_31 : FM "RedoShelf$LogReader" 31 4 6 .int := ⟨kl_LR_31, fun q hq => by cases hq; rfl⟩
theorem km_LR_35 : FM "RedoShelf$LogReader" 35 4 7 .int := ⟨kl_LR_35, fun q hq => by cases hq; rfl⟩
theorem km_LR_38 : FM "RedoShelf$LogReader" 38 4 8 .int := ⟨kl_LR_38, fun q hq => by cases hq; rfl⟩
theorem km_LR_41 : FM "RedoShelf$LogReader" 41 4 9 .int := ⟨kl_LR_41, fun q hq => by cases hq; rfl⟩
theorem km_LR_44 : FM "RedoShelf$LogReader" 44 4 10 .int := ⟨kl_LR_44, fun q hq => by cases hq; rfl⟩
theorem km_LR_47 : FM "RedoShelf$LogReader" 47 4 11 .int := ⟨kl_LR_47, fun q hq => by cases hq; rfl⟩
theorem km_LR_50 : FM "RedoShelf$LogReader" 50 4 12 .int := ⟨kl_LR_50, fun q hq => by cases hq; rfl⟩
theorem km_MD_19 : FM "RedoShelfModel" 19 6 4 .boolean := ⟨kl_MD_19, fun q hq => by cases hq; rfl⟩
theorem km_MD_23 : FM "RedoShelfModel" 23 6 5 .int := ⟨kl_MD_23, fun q hq => by cases hq; rfl⟩
theorem km_RW_18 : FM "RedoShelf$Row" 18 3 2 .int := ⟨kl_RW_18, fun q hq => by cases hq; rfl⟩
theorem km_RW_22 : FM "RedoShelf$Row" 22 3 3 .int := ⟨kl_RW_22, fun q hq => by cases hq; rfl⟩
theorem kn_RS_16 : NK "RedoShelf" 16 2 [.null, .null, .int 0] := ⟨"RedoShelf$Images", T_IM, 3, t_IM, rfl, ig_IM, t_IM_ok, kw_1_40, kw_1_41, kw_1_3, fun j hj => by rcases (show j = 0 ∨ j = 1 ∨ j = 2 by omega) with rfl | rfl | rfl <;> rfl, rfl⟩
theorem kn_RS_26 : NK "RedoShelf" 26 3 [.null, .null, .int 0, .int 0] := ⟨"RedoShelf$Row", T_RW, 4, t_RW, rfl, ig_RW, t_RW_ok, kw_1_57, kw_1_58, kw_1_4, fun j hj => by rcases (show j = 0 ∨ j = 1 ∨ j = 2 ∨ j = 3 by omega) with rfl | rfl | rfl | rfl <;> rfl, rfl⟩
theorem kn_RS_33 : NK "RedoShelf" 33 4 [.null, .null, .null, .null, .null, .null, .int 0, .int 0, .int 0, .int 0, .int 0, .int 0, .int 0] := ⟨"RedoShelf$LogReader", T_LR, 13, t_LR, rfl, ig_LR, t_LR_ok, kw_1_76, kw_1_77, kw_1_5, fun j hj => by rcases (show j = 0 ∨ j = 1 ∨ j = 2 ∨ j = 3 ∨ j = 4 ∨ j = 5 ∨ j = 6 ∨ j = 7 ∨ j = 8 ∨ j = 9 ∨ j = 10 ∨ j = 11 ∨ j = 12 by omega) with rfl | rfl | rfl | rfl | rfl | rfl | rfl | rfl | rfl | rfl | rfl | rfl | rfl <;> rfl, rfl⟩
theorem kn_RS_40 : NK "RedoShelf" 40 5 [.null, .null, .int 0, .int 0, .int 0] := ⟨"RedoShelf$Job", T_JB, 5, t_JB, rfl, ig_JB, t_JB_ok, kw_1_122, kw_1_123, kw_1_6, fun j hj => by rcases (show j = 0 ∨ j = 1 ∨ j = 2 ∨ j = 3 ∨ j = 4 by omega) with rfl | rfl | rfl | rfl | rfl <;> rfl, rfl⟩
theorem kn_RS_9 : NK "RedoShelf" 9 1 [.null, .null, .null, .int 0] := ⟨"RedoShelf$Device", T_DV, 4, t_DV, rfl, ig_DV, t_DV_ok, kw_1_19, kw_1_20, kw_1_2, fun j hj => by rcases (show j = 0 ∨ j = 1 ∨ j = 2 ∨ j = 3 by omega) with rfl | rfl | rfl | rfl <;> rfl, rfl⟩
theorem ks_comeUp : Cond.selects "RedoShelf" ⟨"RedoShelf", "comeUp", "(II)V"⟩ ⟨"RedoShelf", "comeUp", "(II)V"⟩ ∈ gW := gW_in (List.mem_append_left _ (List.mem_of_getElem? (i := 0) rfl)) rfl
theorem kd_DV_0 : decode M_DV_init.2.1 0 = .ok (.aload_n 0, 1) := by decide +kernel
theorem kd_DV_1 : decode M_DV_init.2.1 1 = .ok (.invokespecial 3, 3) := by decide +kernel
theorem kd_DV_4 : decode M_DV_init.2.1 4 = .ok (.aload_n 0, 1) := by decide +kernel
theorem kd_DV_5 : decode M_DV_init.2.1 5 = .ok (.sipush 164, 3) := by decide +kernel
theorem kd_DV_8 : decode M_DV_init.2.1 8 = .ok (.newarray .int, 2) := by decide +kernel
theorem kd_DV_10 : decode M_DV_init.2.1 10 = .ok (.putfield 9, 3) := by decide +kernel
theorem kd_DV_13 : decode M_DV_init.2.1 13 = .ok (.aload_n 0, 1) := by decide +kernel
theorem kd_DV_14 : decode M_DV_init.2.1 14 = .ok (.bipush 28, 2) := by decide +kernel
theorem kd_DV_16 : decode M_DV_init.2.1 16 = .ok (.newarray .int, 2) := by decide +kernel
theorem kd_DV_18 : decode M_DV_init.2.1 18 = .ok (.putfield 15, 3) := by decide +kernel
theorem kd_DV_21 : decode M_DV_init.2.1 21 = .ok (.aload_n 0, 1) := by decide +kernel
theorem kd_DV_22 : decode M_DV_init.2.1 22 = .ok (.bipush 112, 2) := by decide +kernel
theorem kd_DV_24 : decode M_DV_init.2.1 24 = .ok (.newarray .int, 2) := by decide +kernel
theorem kd_DV_26 : decode M_DV_init.2.1 26 = .ok (.putfield 18, 3) := by decide +kernel
theorem kd_DV_29 : decode M_DV_init.2.1 29 = .ok (.aload_n 0, 1) := by decide +kernel
theorem kd_DV_30 : decode M_DV_init.2.1 30 = .ok (.iconst 0, 1) := by decide +kernel
theorem kd_DV_31 : decode M_DV_init.2.1 31 = .ok (.putfield 21, 3) := by decide +kernel
theorem kd_DV_34 : decode M_DV_init.2.1 34 = .ok (.aload_n 0, 1) := by decide +kernel
theorem kd_DV_35 : decode M_DV_init.2.1 35 = .ok (.getfield 9, 3) := by decide +kernel
theorem kd_DV_38 : decode M_DV_init.2.1 38 = .ok (.bipush 64, 2) := by decide +kernel
theorem kd_DV_40 : decode M_DV_init.2.1 40 = .ok (.ldc 25, 2) := by decide +kernel
theorem kd_DV_42 : decode M_DV_init.2.1 42 = .ok (.iastore, 1) := by decide +kernel
theorem kd_DV_43 : decode M_DV_init.2.1 43 = .ok (.aload_n 0, 1) := by decide +kernel
theorem kd_DV_44 : decode M_DV_init.2.1 44 = .ok (.getfield 9, 3) := by decide +kernel
theorem kd_DV_47 : decode M_DV_init.2.1 47 = .ok (.bipush 65, 2) := by decide +kernel
theorem kd_DV_49 : decode M_DV_init.2.1 49 = .ok (.iconst 1, 1) := by decide +kernel
theorem kd_DV_50 : decode M_DV_init.2.1 50 = .ok (.iastore, 1) := by decide +kernel
theorem kd_DV_51 : decode M_DV_init.2.1 51 = .ok (.return_, 1) := by decide +kernel
theorem kd_IM_0 : decode M_IM_init.2.1 0 = .ok (.aload_n 0, 1) := by decide +kernel
theorem kd_IM_1 : decode M_IM_init.2.1 1 = .ok (.invokespecial 3, 3) := by decide +kernel
theorem kd_IM_4 : decode M_IM_init.2.1 4 = .ok (.aload_n 0, 1) := by decide +kernel
theorem kd_IM_5 : decode M_IM_init.2.1 5 = .ok (.bipush 16, 2) := by decide +kernel
theorem kd_IM_7 : decode M_IM_init.2.1 7 = .ok (.newarray .boolean, 2) := by decide +kernel
theorem kd_IM_9 : decode M_IM_init.2.1 9 = .ok (.putfield 9, 3) := by decide +kernel
theorem kd_IM_12 : decode M_IM_init.2.1 12 = .ok (.aload_n 0, 1) := by decide +kernel
theorem kd_IM_13 : decode M_IM_init.2.1 13 = .ok (.bipush 64, 2) := by decide +kernel
theorem kd_IM_15 : decode M_IM_init.2.1 15 = .ok (.newarray .int, 2) := by decide +kernel
theorem kd_IM_17 : decode M_IM_init.2.1 17 = .ok (.putfield 15, 3) := by decide +kernel
theorem kd_IM_20 : decode M_IM_init.2.1 20 = .ok (.aload_n 0, 1) := by decide +kernel
theorem kd_IM_21 : decode M_IM_init.2.1 21 = .ok (.iconst 0, 1) := by decide +kernel
theorem kd_IM_22 : decode M_IM_init.2.1 22 = .ok (.putfield 19, 3) := by decide +kernel
theorem kd_IM_25 : decode M_IM_init.2.1 25 = .ok (.return_, 1) := by decide +kernel
theorem kd_RW_0 : decode M_RW_init.2.1 0 = .ok (.aload_n 0, 1) := by decide +kernel
theorem kd_RW_1 : decode M_RW_init.2.1 1 = .ok (.invokespecial 3, 3) := by decide +kernel
theorem kd_RW_4 : decode M_RW_init.2.1 4 = .ok (.aload_n 0, 1) := by decide +kernel
theorem kd_RW_5 : decode M_RW_init.2.1 5 = .ok (.bipush 48, 2) := by decide +kernel
theorem kd_RW_7 : decode M_RW_init.2.1 7 = .ok (.newarray .int, 2) := by decide +kernel
theorem kd_RW_9 : decode M_RW_init.2.1 9 = .ok (.putfield 11, 3) := by decide +kernel
theorem kd_RW_12 : decode M_RW_init.2.1 12 = .ok (.aload_n 0, 1) := by decide +kernel
theorem kd_RW_13 : decode M_RW_init.2.1 13 = .ok (.iconst 4, 1) := by decide +kernel
theorem kd_RW_14 : decode M_RW_init.2.1 14 = .ok (.newarray .int, 2) := by decide +kernel
theorem kd_RW_16 : decode M_RW_init.2.1 16 = .ok (.putfield 15, 3) := by decide +kernel
theorem kd_RW_19 : decode M_RW_init.2.1 19 = .ok (.aload_n 0, 1) := by decide +kernel
theorem kd_RW_20 : decode M_RW_init.2.1 20 = .ok (.iconst 0, 1) := by decide +kernel
theorem kd_RW_21 : decode M_RW_init.2.1 21 = .ok (.putfield 18, 3) := by decide +kernel
theorem kd_RW_24 : decode M_RW_init.2.1 24 = .ok (.aload_n 0, 1) := by decide +kernel
theorem kd_RW_25 : decode M_RW_init.2.1 25 = .ok (.iconst 0, 1) := by decide +kernel
theorem kd_RW_26 : decode M_RW_init.2.1 26 = .ok (.putfield 22, 3) := by decide +kernel
theorem kd_RW_29 : decode M_RW_init.2.1 29 = .ok (.return_, 1) := by decide +kernel
theorem kd_LR_0 : decode M_LR_init.2.1 0 = .ok (.aload_n 0, 1) := by decide +kernel
theorem kd_LR_1 : decode M_LR_init.2.1 1 = .ok (.invokespecial 3, 3) := by decide +kernel
theorem kd_LR_4 : decode M_LR_init.2.1 4 = .ok (.aload_n 0, 1) := by decide +kernel
theorem kd_LR_5 : decode M_LR_init.2.1 5 = .ok (.bipush 96, 2) := by decide +kernel
theorem kd_LR_7 : decode M_LR_init.2.1 7 = .ok (.newarray .int, 2) := by decide +kernel
theorem kd_LR_9 : decode M_LR_init.2.1 9 = .ok (.putfield 9, 3) := by decide +kernel
theorem kd_LR_12 : decode M_LR_init.2.1 12 = .ok (.aload_n 0, 1) := by decide +kernel
theorem kd_LR_13 : decode M_LR_init.2.1 13 = .ok (.bipush 24, 2) := by decide +kernel
theorem kd_LR_15 : decode M_LR_init.2.1 15 = .ok (.newarray .int, 2) := by decide +kernel
theorem kd_LR_17 : decode M_LR_init.2.1 17 = .ok (.putfield 15, 3) := by decide +kernel
theorem kd_LR_20 : decode M_LR_init.2.1 20 = .ok (.aload_n 0, 1) := by decide +kernel
theorem kd_LR_21 : decode M_LR_init.2.1 21 = .ok (.bipush 24, 2) := by decide +kernel
theorem kd_LR_23 : decode M_LR_init.2.1 23 = .ok (.newarray .int, 2) := by decide +kernel
theorem kd_LR_25 : decode M_LR_init.2.1 25 = .ok (.putfield 18, 3) := by decide +kernel
theorem kd_LR_28 : decode M_LR_init.2.1 28 = .ok (.aload_n 0, 1) := by decide +kernel
theorem kd_LR_29 : decode M_LR_init.2.1 29 = .ok (.bipush 24, 2) := by decide +kernel
theorem kd_LR_31 : decode M_LR_init.2.1 31 = .ok (.newarray .boolean, 2) := by decide +kernel
theorem kd_LR_33 : decode M_LR_init.2.1 33 = .ok (.putfield 21, 3) := by decide +kernel
theorem kd_LR_36 : decode M_LR_init.2.1 36 = .ok (.aload_n 0, 1) := by decide +kernel
theorem kd_LR_37 : decode M_LR_init.2.1 37 = .ok (.bipush 24, 2) := by decide +kernel
theorem kd_LR_39 : decode M_LR_init.2.1 39 = .ok (.newarray .int, 2) := by decide +kernel
theorem kd_LR_41 : decode M_LR_init.2.1 41 = .ok (.putfield 25, 3) := by decide +kernel
theorem kd_LR_44 : decode M_LR_init.2.1 44 = .ok (.aload_n 0, 1) := by decide +kernel
theorem kd_LR_45 : decode M_LR_init.2.1 45 = .ok (.bipush 16, 2) := by decide +kernel
theorem kd_LR_47 : decode M_LR_init.2.1 47 = .ok (.newarray .int, 2) := by decide +kernel
theorem kd_LR_49 : decode M_LR_init.2.1 49 = .ok (.putfield 28, 3) := by decide +kernel
theorem kd_LR_52 : decode M_LR_init.2.1 52 = .ok (.aload_n 0, 1) := by decide +kernel
theorem kd_LR_53 : decode M_LR_init.2.1 53 = .ok (.iconst 0, 1) := by decide +kernel
theorem kd_LR_54 : decode M_LR_init.2.1 54 = .ok (.putfield 31, 3) := by decide +kernel
theorem kd_LR_57 : decode M_LR_init.2.1 57 = .ok (.aload_n 0, 1) := by decide +kernel
theorem kd_LR_58 : decode M_LR_init.2.1 58 = .ok (.iconst 0, 1) := by decide +kernel
theorem kd_LR_59 : decode M_LR_init.2.1 59 = .ok (.putfield 35, 3) := by decide +kernel
theorem kd_LR_62 : decode M_LR_init.2.1 62 = .ok (.aload_n 0, 1) := by decide +kernel
theorem kd_LR_63 : decode M_LR_init.2.1 63 = .ok (.iconst 0, 1) := by decide +kernel
theorem kd_LR_64 : decode M_LR_init.2.1 64 = .ok (.putfield 38, 3) := by decide +kernel
theorem kd_LR_67 : decode M_LR_init.2.1 67 = .ok (.aload_n 0, 1) := by decide +kernel
theorem kd_LR_68 : decode M_LR_init.2.1 68 = .ok (.iconst 0, 1) := by decide +kernel
theorem kd_LR_69 : decode M_LR_init.2.1 69 = .ok (.putfield 41, 3) := by decide +kernel
theorem kd_LR_72 : decode M_LR_init.2.1 72 = .ok (.aload_n 0, 1) := by decide +kernel
theorem kd_LR_73 : decode M_LR_init.2.1 73 = .ok (.iconst 0, 1) := by decide +kernel
theorem kd_LR_74 : decode M_LR_init.2.1 74 = .ok (.putfield 44, 3) := by decide +kernel
theorem kd_LR_77 : decode M_LR_init.2.1 77 = .ok (.aload_n 0, 1) := by decide +kernel
theorem kd_LR_78 : decode M_LR_init.2.1 78 = .ok (.iconst 0, 1) := by decide +kernel
theorem kd_LR_79 : decode M_LR_init.2.1 79 = .ok (.putfield 47, 3) := by decide +kernel
theorem kd_LR_82 : decode M_LR_init.2.1 82 = .ok (.aload_n 0, 1) := by decide +kernel
theorem kd_LR_83 : decode M_LR_init.2.1 83 = .ok (.iconst 0, 1) := by decide +kernel
theorem kd_LR_84 : decode M_LR_init.2.1 84 = .ok (.putfield 50, 3) := by decide +kernel
theorem kd_LR_87 : decode M_LR_init.2.1 87 = .ok (.return_, 1) := by decide +kernel
theorem kd_JB_0 : decode M_JB_init.2.1 0 = .ok (.aload_n 0, 1) := by decide +kernel
theorem kd_JB_1 : decode M_JB_init.2.1 1 = .ok (.invokespecial 3, 3) := by decide +kernel
theorem kd_JB_4 : decode M_JB_init.2.1 4 = .ok (.aload_n 0, 1) := by decide +kernel
theorem kd_JB_5 : decode M_JB_init.2.1 5 = .ok (.bipush 27, 2) := by decide +kernel
theorem kd_JB_7 : decode M_JB_init.2.1 7 = .ok (.newarray .int, 2) := by decide +kernel
theorem kd_JB_9 : decode M_JB_init.2.1 9 = .ok (.putfield 11, 3) := by decide +kernel
theorem kd_JB_12 : decode M_JB_init.2.1 12 = .ok (.aload_n 0, 1) := by decide +kernel
theorem kd_JB_13 : decode M_JB_init.2.1 13 = .ok (.bipush 108, 2) := by decide +kernel
theorem kd_JB_15 : decode M_JB_init.2.1 15 = .ok (.newarray .int, 2) := by decide +kernel
theorem kd_JB_17 : decode M_JB_init.2.1 17 = .ok (.putfield 15, 3) := by decide +kernel
theorem kd_JB_20 : decode M_JB_init.2.1 20 = .ok (.aload_n 0, 1) := by decide +kernel
theorem kd_JB_21 : decode M_JB_init.2.1 21 = .ok (.iconst 0, 1) := by decide +kernel
theorem kd_JB_22 : decode M_JB_init.2.1 22 = .ok (.putfield 18, 3) := by decide +kernel
theorem kd_JB_25 : decode M_JB_init.2.1 25 = .ok (.aload_n 0, 1) := by decide +kernel
theorem kd_JB_26 : decode M_JB_init.2.1 26 = .ok (.iconst 0, 1) := by decide +kernel
theorem kd_JB_27 : decode M_JB_init.2.1 27 = .ok (.putfield 22, 3) := by decide +kernel
theorem kd_JB_30 : decode M_JB_init.2.1 30 = .ok (.aload_n 0, 1) := by decide +kernel
theorem kd_JB_31 : decode M_JB_init.2.1 31 = .ok (.iconst 0, 1) := by decide +kernel
theorem kd_JB_32 : decode M_JB_init.2.1 32 = .ok (.putfield 25, 3) := by decide +kernel
theorem kd_JB_35 : decode M_JB_init.2.1 35 = .ok (.return_, 1) := by decide +kernel
theorem kd_MD_0 : decode M_MD_init.2.1 0 = .ok (.aload_n 0, 1) := by decide +kernel
theorem kd_MD_1 : decode M_MD_init.2.1 1 = .ok (.invokespecial 1, 3) := by decide +kernel
theorem kd_MD_4 : decode M_MD_init.2.1 4 = .ok (.aload_n 0, 1) := by decide +kernel
theorem kd_MD_5 : decode M_MD_init.2.1 5 = .ok (.sipush 164, 3) := by decide +kernel
theorem kd_MD_8 : decode M_MD_init.2.1 8 = .ok (.newarray .int, 2) := by decide +kernel
theorem kd_MD_10 : decode M_MD_init.2.1 10 = .ok (.putfield 7, 3) := by decide +kernel
theorem kd_MD_13 : decode M_MD_init.2.1 13 = .ok (.aload_n 0, 1) := by decide +kernel
theorem kd_MD_14 : decode M_MD_init.2.1 14 = .ok (.bipush 32, 2) := by decide +kernel
theorem kd_MD_16 : decode M_MD_init.2.1 16 = .ok (.newarray .int, 2) := by decide +kernel
theorem kd_MD_18 : decode M_MD_init.2.1 18 = .ok (.putfield 13, 3) := by decide +kernel
theorem kd_MD_21 : decode M_MD_init.2.1 21 = .ok (.aload_n 0, 1) := by decide +kernel
theorem kd_MD_22 : decode M_MD_init.2.1 22 = .ok (.sipush 128, 3) := by decide +kernel
theorem kd_MD_25 : decode M_MD_init.2.1 25 = .ok (.newarray .int, 2) := by decide +kernel
theorem kd_MD_27 : decode M_MD_init.2.1 27 = .ok (.putfield 16, 3) := by decide +kernel
theorem kd_MD_30 : decode M_MD_init.2.1 30 = .ok (.aload_n 0, 1) := by decide +kernel
theorem kd_MD_31 : decode M_MD_init.2.1 31 = .ok (.iconst 1, 1) := by decide +kernel
theorem kd_MD_32 : decode M_MD_init.2.1 32 = .ok (.putfield 19, 3) := by decide +kernel
theorem kd_MD_35 : decode M_MD_init.2.1 35 = .ok (.aload_n 0, 1) := by decide +kernel
theorem kd_MD_36 : decode M_MD_init.2.1 36 = .ok (.iconst 1, 1) := by decide +kernel
theorem kd_MD_37 : decode M_MD_init.2.1 37 = .ok (.putfield 23, 3) := by decide +kernel
theorem kd_MD_40 : decode M_MD_init.2.1 40 = .ok (.aload_n 0, 1) := by decide +kernel
theorem kd_MD_41 : decode M_MD_init.2.1 41 = .ok (.bipush 16, 2) := by decide +kernel
theorem kd_MD_43 : decode M_MD_init.2.1 43 = .ok (.newarray .int, 2) := by decide +kernel
theorem kd_MD_45 : decode M_MD_init.2.1 45 = .ok (.putfield 27, 3) := by decide +kernel
theorem kd_MD_48 : decode M_MD_init.2.1 48 = .ok (.aload_n 0, 1) := by decide +kernel
theorem kd_MD_49 : decode M_MD_init.2.1 49 = .ok (.bipush 64, 2) := by decide +kernel
theorem kd_MD_51 : decode M_MD_init.2.1 51 = .ok (.newarray .int, 2) := by decide +kernel
theorem kd_MD_53 : decode M_MD_init.2.1 53 = .ok (.putfield 30, 3) := by decide +kernel
theorem kd_MD_56 : decode M_MD_init.2.1 56 = .ok (.aload_n 0, 1) := by decide +kernel
theorem kd_MD_57 : decode M_MD_init.2.1 57 = .ok (.bipush 16, 2) := by decide +kernel
theorem kd_MD_59 : decode M_MD_init.2.1 59 = .ok (.newarray .boolean, 2) := by decide +kernel
theorem kd_MD_61 : decode M_MD_init.2.1 61 = .ok (.putfield 33, 3) := by decide +kernel
theorem kd_MD_64 : decode M_MD_init.2.1 64 = .ok (.aload_n 0, 1) := by decide +kernel
theorem kd_MD_65 : decode M_MD_init.2.1 65 = .ok (.bipush 64, 2) := by decide +kernel
theorem kd_MD_67 : decode M_MD_init.2.1 67 = .ok (.newarray .int, 2) := by decide +kernel
theorem kd_MD_69 : decode M_MD_init.2.1 69 = .ok (.putfield 37, 3) := by decide +kernel
theorem kd_MD_72 : decode M_MD_init.2.1 72 = .ok (.aload_n 0, 1) := by decide +kernel
theorem kd_MD_73 : decode M_MD_init.2.1 73 = .ok (.iconst 4, 1) := by decide +kernel
theorem kd_MD_74 : decode M_MD_init.2.1 74 = .ok (.newarray .int, 2) := by decide +kernel
theorem kd_MD_76 : decode M_MD_init.2.1 76 = .ok (.putfield 40, 3) := by decide +kernel
theorem kd_MD_79 : decode M_MD_init.2.1 79 = .ok (.aload_n 0, 1) := by decide +kernel
theorem kd_MD_80 : decode M_MD_init.2.1 80 = .ok (.bipush 16, 2) := by decide +kernel
theorem kd_MD_82 : decode M_MD_init.2.1 82 = .ok (.newarray .int, 2) := by decide +kernel
theorem kd_MD_84 : decode M_MD_init.2.1 84 = .ok (.putfield 43, 3) := by decide +kernel
theorem kd_MD_87 : decode M_MD_init.2.1 87 = .ok (.aload_n 0, 1) := by decide +kernel
theorem kd_MD_88 : decode M_MD_init.2.1 88 = .ok (.bipush 16, 2) := by decide +kernel
theorem kd_MD_90 : decode M_MD_init.2.1 90 = .ok (.newarray .boolean, 2) := by decide +kernel
theorem kd_MD_92 : decode M_MD_init.2.1 92 = .ok (.putfield 46, 3) := by decide +kernel
theorem kd_MD_95 : decode M_MD_init.2.1 95 = .ok (.aload_n 0, 1) := by decide +kernel
theorem kd_MD_96 : decode M_MD_init.2.1 96 = .ok (.getfield 7, 3) := by decide +kernel
theorem kd_MD_99 : decode M_MD_init.2.1 99 = .ok (.bipush 64, 2) := by decide +kernel
theorem kd_MD_101 : decode M_MD_init.2.1 101 = .ok (.ldc 49, 2) := by decide +kernel
theorem kd_MD_103 : decode M_MD_init.2.1 103 = .ok (.iastore, 1) := by decide +kernel
theorem kd_MD_104 : decode M_MD_init.2.1 104 = .ok (.aload_n 0, 1) := by decide +kernel
theorem kd_MD_105 : decode M_MD_init.2.1 105 = .ok (.getfield 7, 3) := by decide +kernel
theorem kd_MD_108 : decode M_MD_init.2.1 108 = .ok (.bipush 65, 2) := by decide +kernel
theorem kd_MD_110 : decode M_MD_init.2.1 110 = .ok (.iconst 1, 1) := by decide +kernel
theorem kd_MD_111 : decode M_MD_init.2.1 111 = .ok (.iastore, 1) := by decide +kernel
theorem kd_MD_112 : decode M_MD_init.2.1 112 = .ok (.return_, 1) := by decide +kernel
theorem kd_RS_0 : decode M_RS_init.2.1 0 = .ok (.aload_n 0, 1) := by decide +kernel
theorem kd_RS_1 : decode M_RS_init.2.1 1 = .ok (.invokespecial 3, 3) := by decide +kernel
theorem kd_RS_4 : decode M_RS_init.2.1 4 = .ok (.aload_n 0, 1) := by decide +kernel
theorem kd_RS_5 : decode M_RS_init.2.1 5 = .ok (.new 9, 3) := by decide +kernel
theorem kd_RS_8 : decode M_RS_init.2.1 8 = .ok (.dup, 1) := by decide +kernel
theorem kd_RS_9 : decode M_RS_init.2.1 9 = .ok (.invokespecial 11, 3) := by decide +kernel
theorem kd_RS_12 : decode M_RS_init.2.1 12 = .ok (.putfield 12, 3) := by decide +kernel
theorem kd_RS_15 : decode M_RS_init.2.1 15 = .ok (.aload_n 0, 1) := by decide +kernel
theorem kd_RS_16 : decode M_RS_init.2.1 16 = .ok (.new 16, 3) := by decide +kernel
theorem kd_RS_19 : decode M_RS_init.2.1 19 = .ok (.dup, 1) := by decide +kernel
theorem kd_RS_20 : decode M_RS_init.2.1 20 = .ok (.invokespecial 18, 3) := by decide +kernel
theorem kd_RS_23 : decode M_RS_init.2.1 23 = .ok (.putfield 19, 3) := by decide +kernel
theorem kd_RS_26 : decode M_RS_init.2.1 26 = .ok (.aload_n 0, 1) := by decide +kernel
theorem kd_RS_27 : decode M_RS_init.2.1 27 = .ok (.new 16, 3) := by decide +kernel
theorem kd_RS_30 : decode M_RS_init.2.1 30 = .ok (.dup, 1) := by decide +kernel
theorem kd_RS_31 : decode M_RS_init.2.1 31 = .ok (.invokespecial 18, 3) := by decide +kernel
theorem kd_RS_34 : decode M_RS_init.2.1 34 = .ok (.putfield 23, 3) := by decide +kernel
theorem kd_RS_37 : decode M_RS_init.2.1 37 = .ok (.aload_n 0, 1) := by decide +kernel
theorem kd_RS_38 : decode M_RS_init.2.1 38 = .ok (.new 26, 3) := by decide +kernel
theorem kd_RS_41 : decode M_RS_init.2.1 41 = .ok (.dup, 1) := by decide +kernel
theorem kd_RS_42 : decode M_RS_init.2.1 42 = .ok (.invokespecial 28, 3) := by decide +kernel
theorem kd_RS_45 : decode M_RS_init.2.1 45 = .ok (.putfield 29, 3) := by decide +kernel
theorem kd_RS_48 : decode M_RS_init.2.1 48 = .ok (.aload_n 0, 1) := by decide +kernel
theorem kd_RS_49 : decode M_RS_init.2.1 49 = .ok (.new 33, 3) := by decide +kernel
theorem kd_RS_52 : decode M_RS_init.2.1 52 = .ok (.dup, 1) := by decide +kernel
theorem kd_RS_53 : decode M_RS_init.2.1 53 = .ok (.invokespecial 35, 3) := by decide +kernel
theorem kd_RS_56 : decode M_RS_init.2.1 56 = .ok (.putfield 36, 3) := by decide +kernel
theorem kd_RS_59 : decode M_RS_init.2.1 59 = .ok (.aload_n 0, 1) := by decide +kernel
theorem kd_RS_60 : decode M_RS_init.2.1 60 = .ok (.new 40, 3) := by decide +kernel
theorem kd_RS_63 : decode M_RS_init.2.1 63 = .ok (.dup, 1) := by decide +kernel
theorem kd_RS_64 : decode M_RS_init.2.1 64 = .ok (.invokespecial 42, 3) := by decide +kernel
theorem kd_RS_67 : decode M_RS_init.2.1 67 = .ok (.putfield 43, 3) := by decide +kernel
theorem kd_RS_70 : decode M_RS_init.2.1 70 = .ok (.aload_n 0, 1) := by decide +kernel
theorem kd_RS_71 : decode M_RS_init.2.1 71 = .ok (.iconst 1, 1) := by decide +kernel
theorem kd_RS_72 : decode M_RS_init.2.1 72 = .ok (.iconst 0, 1) := by decide +kernel
theorem kd_RS_73 : decode M_RS_init.2.1 73 = .ok (.invokevirtual 47, 3) := by decide +kernel
theorem kd_RS_76 : decode M_RS_init.2.1 76 = .ok (.return_, 1) := by decide +kernel
set_option maxRecDepth 100000 in
set_option maxHeartbeats 4000000 in
def W_DV (E : xE) (a q1 q2 q3 : Nat) : va_W := [(a, .inr (1, [.ref q1, .ref q2, .ref q3, .int (nI 0)])), (q1, .inl (E.2.2.1, 164, .inl (upd (upd (fun _ => 0) 64 (nI 77001)) 65 (nI 1)))), (q2, .inl (E.2.2.1, 28, .inl (fun _ => 0))), (q3, .inl (E.2.2.1, 112, .inl (fun _ => 0)))]
set_option maxRecDepth 100000 in
set_option maxHeartbeats 4000000 in
theorem k_DV_init {l : Launch} {E : xE} {a : Nat} : KP l E M_DV_init 3 304 0 a [] [(a, .inr (1, [.null, .null, .null, .int 0]))] 0 0 (fun w => ∃ q1 q2 q3, w = W_DV E a q1 q2 q3) := by
  refine kp_aload kd_DV_0 ?_
  refine kp_objInit kd_DV_1 kw_1_24 kw_1_17 kw_1_18 (by decide) (by decide) ?_
  refine kp_aload kd_DV_4 ?_
  refine kp_sipush (v := nI 164) kd_DV_5 kc_sipush_164 ?_
  refine kp_newI kd_DV_8 rfl kw_1_39 rfl (by decide) (by decide) (by decide) (fun q1 => ?_)
  refine kp_putF (q0 := 0) (ws' := [(a, .inr (1, [.ref q1, .null, .null, .int 0])), (q1, .inl (E.2.2.1, 164, .inl (fun _ => 0)))]) kd_DV_10 kf_DV_9 rfl rfl rfl (Nat.le_of_ble_eq_true rfl) rfl ?_
  refine kp_aload kd_DV_13 ?_
  refine kp_bipush (v := nI 28) kd_DV_14 kc_bipush_28 ?_
  refine kp_newI kd_DV_16 rfl kw_1_39 rfl (by decide) (by decide) (by decide) (fun q2 => ?_)
  refine kp_putF (q0 := 0) (ws' := [(a, .inr (1, [.ref q1, .ref q2, .null, .int 0])), (q1, .inl (E.2.2.1, 164, .inl (fun _ => 0))), (q2, .inl (E.2.2.1, 28, .inl (fun _ => 0)))]) kd_DV_18 kf_DV_15 rfl rfl rfl (Nat.le_of_ble_eq_true rfl) rfl ?_
  refine kp_aload kd_DV_21 ?_
  refine kp_bipush (v := nI 112) kd_DV_22 kc_bipush_112 ?_
  refine kp_newI kd_DV_24 rfl kw_1_39 rfl (by decide) (by decide) (by decide) (fun q3 => ?_)
  refine kp_putF (q0 := 0) (ws' := [(a, .inr (1, [.ref q1, .ref q2, .ref q3, .int 0])), (q1, .inl (E.2.2.1, 164, .inl (fun _ => 0))), (q2, .inl (E.2.2.1, 28, .inl (fun _ => 0))), (q3, .inl (E.2.2.1, 112, .inl (fun _ => 0)))]) kd_DV_26 kf_DV_18 rfl rfl rfl (Nat.le_of_ble_eq_true rfl) rfl ?_
  refine kp_aload kd_DV_29 ?_
  refine kp_iconst (v := nI 0) kd_DV_30 kc_iconst_0 ?_
  refine kp_put (q0 := 0) (ws' := [(a, .inr (1, [.ref q1, .ref q2, .ref q3, .int (nI 0)])), (q1, .inl (E.2.2.1, 164, .inl (fun _ => 0))), (q2, .inl (E.2.2.1, 28, .inl (fun _ => 0))), (q3, .inl (E.2.2.1, 112, .inl (fun _ => 0)))]) kd_DV_31 km_DV_21 rfl rfl rfl (Nat.le_of_ble_eq_true rfl) rfl ?_
  refine kp_aload kd_DV_34 ?_
  refine kp_get (q0 := 0) kd_DV_35 kl_DV_9 rfl rfl ?_
  refine kp_bipush (v := nI 64) kd_DV_38 kc_bipush_64 ?_
  refine kp_ldc (v2 := nI 77001) kd_DV_40 kw_1_25 (by decide +kernel) ?_
  refine kp_iast (q0 := 1) (i := 64) (ws' := [(a, .inr (1, [.ref q1, .ref q2, .ref q3, .int (nI 0)])), (q1, .inl (E.2.2.1, 164, .inl (upd (fun _ => 0) 64 (nI 77001)))), (q2, .inl (E.2.2.1, 28, .inl (fun _ => 0))), (q3, .inl (E.2.2.1, 112, .inl (fun _ => 0)))]) kd_DV_42 rfl rfl (by decide) (by decide) rfl ?_
  refine kp_aload kd_DV_43 ?_
  refine kp_get (q0 := 0) kd_DV_44 kl_DV_9 rfl rfl ?_
  refine kp_bipush (v := nI 65) kd_DV_47 kc_bipush_65 ?_
  refine kp_iconst (v := nI 1) kd_DV_49 kc_iconst_1 ?_
  refine kp_iast (q0 := 1) (i := 65) (ws' := [(a, .inr (1, [.ref q1, .ref q2, .ref q3, .int (nI 0)])), (q1, .inl (E.2.2.1, 164, .inl (upd (upd (fun _ => 0) 64 (nI 77001)) 65 (nI 1)))), (q2, .inl (E.2.2.1, 28, .inl (fun _ => 0))), (q3, .inl (E.2.2.1, 112, .inl (fun _ => 0)))]) kd_DV_50 rfl rfl (by decide) (by decide) rfl ?_
  exact kp_ret kd_DV_51 rfl (by decide) (by decide) ⟨q1, q2, q3, rfl⟩
set_option maxRecDepth 100000 in
set_option maxHeartbeats 4000000 in
def W_IM (E : xE) (a q1 q2 : Nat) : va_W := [(a, .inr (2, [.ref q1, .ref q2, .int (nI 0)])), (q1, .inl (E.2.2.2, 16, .inl (fun _ => 0))), (q2, .inl (E.2.2.1, 64, .inl (fun _ => 0)))]
set_option maxRecDepth 100000 in
set_option maxHeartbeats 4000000 in
theorem k_IM_init {l : Launch} {E : xE} {a : Nat} : KP l E M_IM_init 2 80 0 a [] [(a, .inr (2, [.null, .null, .int 0]))] 0 0 (fun w => ∃ q1 q2, w = W_IM E a q1 q2) := by
  refine kp_aload kd_IM_0 ?_
  refine kp_objInit kd_IM_1 kw_1_45 kw_1_17 kw_1_18 (by decide) (by decide) ?_
  refine kp_aload kd_IM_4 ?_
  refine kp_bipush (v := nI 16) kd_IM_5 kc_bipush_16 ?_
  refine kp_newZ kd_IM_7 rfl kw_1_56 rfl (by decide) (by decide) (by decide) (fun q1 => ?_)
  refine kp_putF (q0 := 0) (ws' := [(a, .inr (2, [.ref q1, .null, .int 0])), (q1, .inl (E.2.2.2, 16, .inl (fun _ => 0)))]) kd_IM_9 kf_IM_9 rfl rfl rfl (Nat.le_of_ble_eq_true rfl) rfl ?_
  refine kp_aload kd_IM_12 ?_
  refine kp_bipush (v := nI 64) kd_IM_13 kc_bipush_64 ?_
  refine kp_newI kd_IM_15 rfl kw_1_39 rfl (by decide) (by decide) (by decide) (fun q2 => ?_)
  refine kp_putF (q0 := 0) (ws' := [(a, .inr (2, [.ref q1, .ref q2, .int 0])), (q1, .inl (E.2.2.2, 16, .inl (fun _ => 0))), (q2, .inl (E.2.2.1, 64, .inl (fun _ => 0)))]) kd_IM_17 kf_IM_15 rfl rfl rfl (Nat.le_of_ble_eq_true rfl) rfl ?_
  refine kp_aload kd_IM_20 ?_
  refine kp_iconst (v := nI 0) kd_IM_21 kc_iconst_0 ?_
  refine kp_put (q0 := 0) (ws' := [(a, .inr (2, [.ref q1, .ref q2, .int (nI 0)])), (q1, .inl (E.2.2.2, 16, .inl (fun _ => 0))), (q2, .inl (E.2.2.1, 64, .inl (fun _ => 0)))]) kd_IM_22 km_IM_19 rfl rfl rfl (Nat.le_of_ble_eq_true rfl) rfl ?_
  exact kp_ret kd_IM_25 rfl (by decide) (by decide) ⟨q1, q2, rfl⟩
set_option maxRecDepth 100000 in
set_option maxHeartbeats 4000000 in
def W_RW (E : xE) (a q1 q2 : Nat) : va_W := [(a, .inr (3, [.ref q1, .ref q2, .int (nI 0), .int (nI 0)])), (q1, .inl (E.2.2.1, 48, .inl (fun _ => 0))), (q2, .inl (E.2.2.1, 4, .inl (fun _ => 0)))]
set_option maxRecDepth 100000 in
set_option maxHeartbeats 4000000 in
theorem k_RW_init {l : Launch} {E : xE} {a : Nat} : KP l E M_RW_init 2 52 0 a [] [(a, .inr (3, [.null, .null, .int 0, .int 0]))] 0 0 (fun w => ∃ q1 q2, w = W_RW E a q1 q2) := by
  refine kp_aload kd_RW_0 ?_
  refine kp_objInit kd_RW_1 kw_1_62 kw_1_17 kw_1_18 (by decide) (by decide) ?_
  refine kp_aload kd_RW_4 ?_
  refine kp_bipush (v := nI 48) kd_RW_5 kc_bipush_48 ?_
  refine kp_newI kd_RW_7 rfl kw_1_39 rfl (by decide) (by decide) (by decide) (fun q1 => ?_)
  refine kp_putF (q0 := 0) (ws' := [(a, .inr (3, [.ref q1, .null, .int 0, .int 0])), (q1, .inl (E.2.2.1, 48, .inl (fun _ => 0)))]) kd_RW_9 kf_RW_11 rfl rfl rfl (Nat.le_of_ble_eq_true rfl) rfl ?_
  refine kp_aload kd_RW_12 ?_
  refine kp_iconst (v := nI 4) kd_RW_13 kc_iconst_4 ?_
  refine kp_newI kd_RW_14 rfl kw_1_39 rfl (by decide) (by decide) (by decide) (fun q2 => ?_)
  refine kp_putF (q0 := 0) (ws' := [(a, .inr (3, [.ref q1, .ref q2, .int 0, .int 0])), (q1, .inl (E.2.2.1, 48, .inl (fun _ => 0))), (q2, .inl (E.2.2.1, 4, .inl (fun _ => 0)))]) kd_RW_16 kf_RW_15 rfl rfl rfl (Nat.le_of_ble_eq_true rfl) rfl ?_
  refine kp_aload kd_RW_19 ?_
  refine kp_iconst (v := nI 0) kd_RW_20 kc_iconst_0 ?_
  refine kp_put (q0 := 0) (ws' := [(a, .inr (3, [.ref q1, .ref q2, .int (nI 0), .int 0])), (q1, .inl (E.2.2.1, 48, .inl (fun _ => 0))), (q2, .inl (E.2.2.1, 4, .inl (fun _ => 0)))]) kd_RW_21 km_RW_18 rfl rfl rfl (Nat.le_of_ble_eq_true rfl) rfl ?_
  refine kp_aload kd_RW_24 ?_
  refine kp_iconst (v := nI 0) kd_RW_25 kc_iconst_0 ?_
  refine kp_put (q0 := 0) (ws' := [(a, .inr (3, [.ref q1, .ref q2, .int (nI 0), .int (nI 0)])), (q1, .inl (E.2.2.1, 48, .inl (fun _ => 0))), (q2, .inl (E.2.2.1, 4, .inl (fun _ => 0)))]) kd_RW_26 km_RW_22 rfl rfl rfl (Nat.le_of_ble_eq_true rfl) rfl ?_
  exact kp_ret kd_RW_29 rfl (by decide) (by decide) ⟨q1, q2, rfl⟩
set_option maxRecDepth 100000 in
set_option maxHeartbeats 4000000 in
def W_LR (E : xE) (a q1 q2 q3 q4 q5 q6 : Nat) : va_W := [(a, .inr (4, [.ref q1, .ref q2, .ref q3, .ref q4, .ref q5, .ref q6, .int (nI 0), .int (nI 0), .int (nI 0), .int (nI 0), .int (nI 0), .int (nI 0), .int (nI 0)])), (q1, .inl (E.2.2.1, 96, .inl (fun _ => 0))), (q2, .inl (E.2.2.1, 24, .inl (fun _ => 0))), (q3, .inl (E.2.2.1, 24, .inl (fun _ => 0))), (q4, .inl (E.2.2.2, 24, .inl (fun _ => 0))), (q5, .inl (E.2.2.1, 24, .inl (fun _ => 0))), (q6, .inl (E.2.2.1, 16, .inl (fun _ => 0)))]
set_option maxRecDepth 100000 in
set_option maxHeartbeats 4000000 in
theorem k_LR_init {l : Launch} {E : xE} {a : Nat} : KP l E M_LR_init 6 208 0 a [] [(a, .inr (4, [.null, .null, .null, .null, .null, .null, .int 0, .int 0, .int 0, .int 0, .int 0, .int 0, .int 0]))] 0 0 (fun w => ∃ q1 q2 q3 q4 q5 q6, w = W_LR E a q1 q2 q3 q4 q5 q6) := by
  refine kp_aload kd_LR_0 ?_
  refine kp_objInit kd_LR_1 kw_1_81 kw_1_17 kw_1_18 (by decide) (by decide) ?_
  refine kp_aload kd_LR_4 ?_
  refine kp_bipush (v := nI 96) kd_LR_5 kc_bipush_96 ?_
  refine kp_newI kd_LR_7 rfl kw_1_39 rfl (by decide) (by decide) (by decide) (fun q1 => ?_)
  refine kp_putF (q0 := 0) (ws' := [(a, .inr (4, [.ref q1, .null, .null, .null, .null, .null, .int 0, .int 0, .int 0, .int 0, .int 0, .int 0, .int 0])), (q1, .inl (E.2.2.1, 96, .inl (fun _ => 0)))]) kd_LR_9 kf_LR_9 rfl rfl rfl (Nat.le_of_ble_eq_true rfl) rfl ?_
  refine kp_aload kd_LR_12 ?_
  refine kp_bipush (v := nI 24) kd_LR_13 kc_bipush_24 ?_
  refine kp_newI kd_LR_15 rfl kw_1_39 rfl (by decide) (by decide) (by decide) (fun q2 => ?_)
  refine kp_putF (q0 := 0) (ws' := [(a, .inr (4, [.ref q1, .ref q2, .null, .null, .null, .null, .int 0, .int 0, .int 0, .int 0, .int 0, .int 0, .int 0])), (q1, .inl (E.2.2.1, 96, .inl (fun _ => 0))), (q2, .inl (E.2.2.1, 24, .inl (fun _ => 0)))]) kd_LR_17 kf_LR_15 rfl rfl rfl (Nat.le_of_ble_eq_true rfl) rfl ?_
  refine kp_aload kd_LR_20 ?_
  refine kp_bipush (v := nI 24) kd_LR_21 kc_bipush_24 ?_
  refine kp_newI kd_LR_23 rfl kw_1_39 rfl (by decide) (by decide) (by decide) (fun q3 => ?_)
  refine kp_putF (q0 := 0) (ws' := [(a, .inr (4, [.ref q1, .ref q2, .ref q3, .null, .null, .null, .int 0, .int 0, .int 0, .int 0, .int 0, .int 0, .int 0])), (q1, .inl (E.2.2.1, 96, .inl (fun _ => 0))), (q2, .inl (E.2.2.1, 24, .inl (fun _ => 0))), (q3, .inl (E.2.2.1, 24, .inl (fun _ => 0)))]) kd_LR_25 kf_LR_18 rfl rfl rfl (Nat.le_of_ble_eq_true rfl) rfl ?_
  refine kp_aload kd_LR_28 ?_
  refine kp_bipush (v := nI 24) kd_LR_29 kc_bipush_24 ?_
  refine kp_newZ kd_LR_31 rfl kw_1_56 rfl (by decide) (by decide) (by decide) (fun q4 => ?_)
  refine kp_putF (q0 := 0) (ws' := [(a, .inr (4, [.ref q1, .ref q2, .ref q3, .ref q4, .null, .null, .int 0, .int 0, .int 0, .int 0, .int 0, .int 0, .int 0])), (q1, .inl (E.2.2.1, 96, .inl (fun _ => 0))), (q2, .inl (E.2.2.1, 24, .inl (fun _ => 0))), (q3, .inl (E.2.2.1, 24, .inl (fun _ => 0))), (q4, .inl (E.2.2.2, 24, .inl (fun _ => 0)))]) kd_LR_33 kf_LR_21 rfl rfl rfl (Nat.le_of_ble_eq_true rfl) rfl ?_
  refine kp_aload kd_LR_36 ?_
  refine kp_bipush (v := nI 24) kd_LR_37 kc_bipush_24 ?_
  refine kp_newI kd_LR_39 rfl kw_1_39 rfl (by decide) (by decide) (by decide) (fun q5 => ?_)
  refine kp_putF (q0 := 0) (ws' := [(a, .inr (4, [.ref q1, .ref q2, .ref q3, .ref q4, .ref q5, .null, .int 0, .int 0, .int 0, .int 0, .int 0, .int 0, .int 0])), (q1, .inl (E.2.2.1, 96, .inl (fun _ => 0))), (q2, .inl (E.2.2.1, 24, .inl (fun _ => 0))), (q3, .inl (E.2.2.1, 24, .inl (fun _ => 0))), (q4, .inl (E.2.2.2, 24, .inl (fun _ => 0))), (q5, .inl (E.2.2.1, 24, .inl (fun _ => 0)))]) kd_LR_41 kf_LR_25 rfl rfl rfl (Nat.le_of_ble_eq_true rfl) rfl ?_
  refine kp_aload kd_LR_44 ?_
  refine kp_bipush (v := nI 16) kd_LR_45 kc_bipush_16 ?_
  refine kp_newI kd_LR_47 rfl kw_1_39 rfl (by decide) (by decide) (by decide) (fun q6 => ?_)
  refine kp_putF (q0 := 0) (ws' := [(a, .inr (4, [.ref q1, .ref q2, .ref q3, .ref q4, .ref q5, .ref q6, .int 0, .int 0, .int 0, .int 0, .int 0, .int 0, .int 0])), (q1, .inl (E.2.2.1, 96, .inl (fun _ => 0))), (q2, .inl (E.2.2.1, 24, .inl (fun _ => 0))), (q3, .inl (E.2.2.1, 24, .inl (fun _ => 0))), (q4, .inl (E.2.2.2, 24, .inl (fun _ => 0))), (q5, .inl (E.2.2.1, 24, .inl (fun _ => 0))), (q6, .inl (E.2.2.1, 16, .inl (fun _ => 0)))]) kd_LR_49 kf_LR_28 rfl rfl rfl (Nat.le_of_ble_eq_true rfl) rfl ?_
  refine kp_aload kd_LR_52 ?_
  refine kp_iconst (v := nI 0) kd_LR_53 kc_iconst_0 ?_
  refine kp_put (q0 := 0) (ws' := [(a, .inr (4, [.ref q1, .ref q2, .ref q3, .ref q4, .ref q5, .ref q6, .int (nI 0), .int 0, .int 0, .int 0, .int 0, .int 0, .int 0])), (q1, .inl (E.2.2.1, 96, .inl (fun _ => 0))), (q2, .inl (E.2.2.1, 24, .inl (fun _ => 0))), (q3, .inl (E.2.2.1, 24, .inl (fun _ => 0))), (q4, .inl (E.2.2.2, 24, .inl (fun _ => 0))), (q5, .inl (E.2.2.1, 24, .inl (fun _ => 0))), (q6, .inl (E.2.2.1, 16, .inl (fun _ => 0)))]) kd_LR_54 km_LR_31 rfl rfl rfl (Nat.le_of_ble_eq_true rfl) rfl ?_
  refine kp_aload kd_LR_57 ?_
  refine kp_iconst (v := nI 0) kd_LR_58 kc_iconst_0 ?_
  refine kp_put (q0 := 0) (ws' := [(a, .inr (4, [.ref q1, .ref q2, .ref q3, .ref q4, .ref q5, .ref q6, .int (nI 0), .int (nI 0), .int 0, .int 0, .int 0, .int 0, .int 0])), (q1, .inl (E.2.2.1, 96, .inl (fun _ => 0))), (q2, .inl (E.2.2.1, 24, .inl (fun _ => 0))), (q3, .inl (E.2.2.1, 24, .inl (fun _ => 0))), (q4, .inl (E.2.2.2, 24, .inl (fun _ => 0))), (q5, .inl (E.2.2.1, 24, .inl (fun _ => 0))), (q6, .inl (E.2.2.1, 16, .inl (fun _ => 0)))]) kd_LR_59 km_LR_35 rfl rfl rfl (Nat.le_of_ble_eq_true rfl) rfl ?_
  refine kp_aload kd_LR_62 ?_
  refine kp_iconst (v := nI 0) kd_LR_63 kc_iconst_0 ?_
  refine kp_put (q0 := 0) (ws' := [(a, .inr (4, [.ref q1, .ref q2, .ref q3, .ref q4, .ref q5, .ref q6, .int (nI 0), .int (nI 0), .int (nI 0), .int 0, .int 0, .int 0, .int 0])), (q1, .inl (E.2.2.1, 96, .inl (fun _ => 0))), (q2, .inl (E.2.2.1, 24, .inl (fun _ => 0))), (q3, .inl (E.2.2.1, 24, .inl (fun _ => 0))), (q4, .inl (E.2.2.2, 24, .inl (fun _ => 0))), (q5, .inl (E.2.2.1, 24, .inl (fun _ => 0))), (q6, .inl (E.2.2.1, 16, .inl (fun _ => 0)))]) kd_LR_64 km_LR_38 rfl rfl rfl (Nat.le_of_ble_eq_true rfl) rfl ?_
  refine kp_aload kd_LR_67 ?_
  refine kp_iconst (v := nI 0) kd_LR_68 kc_iconst_0 ?_
  refine kp_put (q0 := 0) (ws' := [(a, .inr (4, [.ref q1, .ref q2, .ref q3, .ref q4, .ref q5, .ref q6, .int (nI 0), .int (nI 0), .int (nI 0), .int (nI 0), .int 0, .int 0, .int 0])), (q1, .inl (E.2.2.1, 96, .inl (fun _ => 0))), (q2, .inl (E.2.2.1, 24, .inl (fun _ => 0))), (q3, .inl (E.2.2.1, 24, .inl (fun _ => 0))), (q4, .inl (E.2.2.2, 24, .inl (fun _ => 0))), (q5, .inl (E.2.2.1, 24, .inl (fun _ => 0))), (q6, .inl (E.2.2.1, 16, .inl (fun _ => 0)))]) kd_LR_69 km_LR_41 rfl rfl rfl (Nat.le_of_ble_eq_true rfl) rfl ?_
  refine kp_aload kd_LR_72 ?_
  refine kp_iconst (v := nI 0) kd_LR_73 kc_iconst_0 ?_
  refine kp_put (q0 := 0) (ws' := [(a, .inr (4, [.ref q1, .ref q2, .ref q3, .ref q4, .ref q5, .ref q6, .int (nI 0), .int (nI 0), .int (nI 0), .int (nI 0), .int (nI 0), .int 0, .int 0])), (q1, .inl (E.2.2.1, 96, .inl (fun _ => 0))), (q2, .inl (E.2.2.1, 24, .inl (fun _ => 0))), (q3, .inl (E.2.2.1, 24, .inl (fun _ => 0))), (q4, .inl (E.2.2.2, 24, .inl (fun _ => 0))), (q5, .inl (E.2.2.1, 24, .inl (fun _ => 0))), (q6, .inl (E.2.2.1, 16, .inl (fun _ => 0)))]) kd_LR_74 km_LR_44 rfl rfl rfl (Nat.le_of_ble_eq_true rfl) rfl ?_
  refine kp_aload kd_LR_77 ?_
  refine kp_iconst (v := nI 0) kd_LR_78 kc_iconst_0 ?_
  refine kp_put (q0 := 0) (ws' := [(a, .inr (4, [.ref q1, .ref q2, .ref q3, .ref q4, .ref q5, .ref q6, .int (nI 0), .int (nI 0), .int (nI 0), .int (nI 0), .int (nI 0), .int (nI 0), .int 0])), (q1, .inl (E.2.2.1, 96, .inl (fun _ => 0))), (q2, .inl (E.2.2.1, 24, .inl (fun _ => 0))), (q3, .inl (E.2.2.1, 24, .inl (fun _ => 0))), (q4, .inl (E.2.2.2, 24, .inl (fun _ => 0))), (q5, .inl (E.2.2.1, 24, .inl (fun _ => 0))), (q6, .inl (E.2.2.1, 16, .inl (fun _ => 0)))]) kd_LR_79 km_LR_47 rfl rfl rfl (Nat.le_of_ble_eq_true rfl) rfl ?_
  refine kp_aload kd_LR_82 ?_
  refine kp_iconst (v := nI 0) kd_LR_83 kc_iconst_0 ?_
  refine kp_put (q0 := 0) (ws' := [(a, .inr (4, [.ref q1, .ref q2, .ref q3, .ref q4, .ref q5, .ref q6, .int (nI 0), .int (nI 0), .int (nI 0), .int (nI 0), .int (nI 0), .int (nI 0), .int (nI 0)])), (q1, .inl (E.2.2.1, 96, .inl (fun _ => 0))), (q2, .inl (E.2.2.1, 24, .inl (fun _ => 0))), (q3, .inl (E.2.2.1, 24, .inl (fun _ => 0))), (q4, .inl (E.2.2.2, 24, .inl (fun _ => 0))), (q5, .inl (E.2.2.1, 24, .inl (fun _ => 0))), (q6, .inl (E.2.2.1, 16, .inl (fun _ => 0)))]) kd_LR_84 km_LR_50 rfl rfl rfl (Nat.le_of_ble_eq_true rfl) rfl ?_
  exact kp_ret kd_LR_87 rfl (by decide) (by decide) ⟨q1, q2, q3, q4, q5, q6, rfl⟩
set_option maxRecDepth 100000 in
set_option maxHeartbeats 4000000 in
def W_JB (E : xE) (a q1 q2 : Nat) : va_W := [(a, .inr (5, [.ref q1, .ref q2, .int (nI 0), .int (nI 0), .int (nI 0)])), (q1, .inl (E.2.2.1, 27, .inl (fun _ => 0))), (q2, .inl (E.2.2.1, 108, .inl (fun _ => 0)))]
set_option maxRecDepth 100000 in
set_option maxHeartbeats 4000000 in
theorem k_JB_init {l : Launch} {E : xE} {a : Nat} : KP l E M_JB_init 2 135 0 a [] [(a, .inr (5, [.null, .null, .int 0, .int 0, .int 0]))] 0 0 (fun w => ∃ q1 q2, w = W_JB E a q1 q2) := by
  refine kp_aload kd_JB_0 ?_
  refine kp_objInit kd_JB_1 kw_1_127 kw_1_17 kw_1_18 (by decide) (by decide) ?_
  refine kp_aload kd_JB_4 ?_
  refine kp_bipush (v := nI 27) kd_JB_5 kc_bipush_27 ?_
  refine kp_newI kd_JB_7 rfl kw_1_39 rfl (by decide) (by decide) (by decide) (fun q1 => ?_)
  refine kp_putF (q0 := 0) (ws' := [(a, .inr (5, [.ref q1, .null, .int 0, .int 0, .int 0])), (q1, .inl (E.2.2.1, 27, .inl (fun _ => 0)))]) kd_JB_9 kf_JB_11 rfl rfl rfl (Nat.le_of_ble_eq_true rfl) rfl ?_
  refine kp_aload kd_JB_12 ?_
  refine kp_bipush (v := nI 108) kd_JB_13 kc_bipush_108 ?_
  refine kp_newI kd_JB_15 rfl kw_1_39 rfl (by decide) (by decide) (by decide) (fun q2 => ?_)
  refine kp_putF (q0 := 0) (ws' := [(a, .inr (5, [.ref q1, .ref q2, .int 0, .int 0, .int 0])), (q1, .inl (E.2.2.1, 27, .inl (fun _ => 0))), (q2, .inl (E.2.2.1, 108, .inl (fun _ => 0)))]) kd_JB_17 kf_JB_15 rfl rfl rfl (Nat.le_of_ble_eq_true rfl) rfl ?_
  refine kp_aload kd_JB_20 ?_
  refine kp_iconst (v := nI 0) kd_JB_21 kc_iconst_0 ?_
  refine kp_put (q0 := 0) (ws' := [(a, .inr (5, [.ref q1, .ref q2, .int (nI 0), .int 0, .int 0])), (q1, .inl (E.2.2.1, 27, .inl (fun _ => 0))), (q2, .inl (E.2.2.1, 108, .inl (fun _ => 0)))]) kd_JB_22 km_JB_18 rfl rfl rfl (Nat.le_of_ble_eq_true rfl) rfl ?_
  refine kp_aload kd_JB_25 ?_
  refine kp_iconst (v := nI 0) kd_JB_26 kc_iconst_0 ?_
  refine kp_put (q0 := 0) (ws' := [(a, .inr (5, [.ref q1, .ref q2, .int (nI 0), .int (nI 0), .int 0])), (q1, .inl (E.2.2.1, 27, .inl (fun _ => 0))), (q2, .inl (E.2.2.1, 108, .inl (fun _ => 0)))]) kd_JB_27 km_JB_22 rfl rfl rfl (Nat.le_of_ble_eq_true rfl) rfl ?_
  refine kp_aload kd_JB_30 ?_
  refine kp_iconst (v := nI 0) kd_JB_31 kc_iconst_0 ?_
  refine kp_put (q0 := 0) (ws' := [(a, .inr (5, [.ref q1, .ref q2, .int (nI 0), .int (nI 0), .int (nI 0)])), (q1, .inl (E.2.2.1, 27, .inl (fun _ => 0))), (q2, .inl (E.2.2.1, 108, .inl (fun _ => 0)))]) kd_JB_32 km_JB_25 rfl rfl rfl (Nat.le_of_ble_eq_true rfl) rfl ?_
  exact kp_ret kd_JB_35 rfl (by decide) (by decide) ⟨q1, q2, rfl⟩
set_option maxRecDepth 100000 in
set_option maxHeartbeats 4000000 in
def W_MD (E : xE) (a q1 q2 q3 q4 q5 q6 q7 q8 q9 q10 : Nat) : va_W := [(a, .inr (6, [.ref q1, .int 0, .ref q2, .ref q3, .int (nI 1), .int (nI 1), .int 0, .int 0, .ref q4, .ref q5, .ref q6, .ref q7, .int 0, .int 0, .int 0, .ref q8, .int 0, .int 0, .int 0, .int 0, .int 0, .ref q9, .ref q10])), (q1, .inl (E.2.2.1, 164, .inl (upd (upd (fun _ => 0) 64 (nI 77001)) 65 (nI 1)))), (q2, .inl (E.2.2.1, 32, .inl (fun _ => 0))), (q3, .inl (E.2.2.1, 128, .inl (fun _ => 0))), (q4, .inl (E.2.2.1, 16, .inl (fun _ => 0))), (q5, .inl (E.2.2.1, 64, .inl (fun _ => 0))), (q6, .inl (E.2.2.2, 16, .inl (fun _ => 0))), (q7, .inl (E.2.2.1, 64, .inl (fun _ => 0))), (q8, .inl (E.2.2.1, 4, .inl (fun _ => 0))), (q9, .inl (E.2.2.1, 16, .inl (fun _ => 0))), (q10, .inl (E.2.2.2, 16, .inl (fun _ => 0)))]
set_option maxRecDepth 100000 in
set_option maxHeartbeats 4000000 in
theorem k_MD_init {l : Launch} {E : xE} {a : Nat} : KP l E M_MD_init 10 520 0 a [] [(a, .inr (6, [.null, .int 0, .null, .null, .int 0, .int 0, .int 0, .int 0, .null, .null, .null, .null, .int 0, .int 0, .int 0, .null, .int 0, .int 0, .int 0, .int 0, .int 0, .null, .null]))] 0 0 (fun w => ∃ q1 q2 q3 q4 q5 q6 q7 q8 q9 q10, w = W_MD E a q1 q2 q3 q4 q5 q6 q7 q8 q9 q10) := by
  refine kp_aload kd_MD_0 ?_
  refine kp_objInit kd_MD_1 kw_3_28 kw_1_17 kw_1_18 (by decide) (by decide) ?_
  refine kp_aload kd_MD_4 ?_
  refine kp_sipush (v := nI 164) kd_MD_5 kc_sipush_164 ?_
  refine kp_newI kd_MD_8 rfl kw_1_39 rfl (by decide) (by decide) (by decide) (fun q1 => ?_)
  refine kp_putF (q0 := 0) (ws' := [(a, .inr (6, [.ref q1, .int 0, .null, .null, .int 0, .int 0, .int 0, .int 0, .null, .null, .null, .null, .int 0, .int 0, .int 0, .null, .int 0, .int 0, .int 0, .int 0, .int 0, .null, .null])), (q1, .inl (E.2.2.1, 164, .inl (fun _ => 0)))]) kd_MD_10 kf_MD_7 rfl rfl rfl (Nat.le_of_ble_eq_true rfl) rfl ?_
  refine kp_aload kd_MD_13 ?_
  refine kp_bipush (v := nI 32) kd_MD_14 kc_bipush_32 ?_
  refine kp_newI kd_MD_16 rfl kw_1_39 rfl (by decide) (by decide) (by decide) (fun q2 => ?_)
  refine kp_putF (q0 := 0) (ws' := [(a, .inr (6, [.ref q1, .int 0, .ref q2, .null, .int 0, .int 0, .int 0, .int 0, .null, .null, .null, .null, .int 0, .int 0, .int 0, .null, .int 0, .int 0, .int 0, .int 0, .int 0, .null, .null])), (q1, .inl (E.2.2.1, 164, .inl (fun _ => 0))), (q2, .inl (E.2.2.1, 32, .inl (fun _ => 0)))]) kd_MD_18 kf_MD_13 rfl rfl rfl (Nat.le_of_ble_eq_true rfl) rfl ?_
  refine kp_aload kd_MD_21 ?_
  refine kp_sipush (v := nI 128) kd_MD_22 kc_sipush_128 ?_
  refine kp_newI kd_MD_25 rfl kw_1_39 rfl (by decide) (by decide) (by decide) (fun q3 => ?_)
  refine kp_putF (q0 := 0) (ws' := [(a, .inr (6, [.ref q1, .int 0, .ref q2, .ref q3, .int 0, .int 0, .int 0, .int 0, .null, .null, .null, .null, .int 0, .int 0, .int 0, .null, .int 0, .int 0, .int 0, .int 0, .int 0, .null, .null])), (q1, .inl (E.2.2.1, 164, .inl (fun _ => 0))), (q2, .inl (E.2.2.1, 32, .inl (fun _ => 0))), (q3, .inl (E.2.2.1, 128, .inl (fun _ => 0)))]) kd_MD_27 kf_MD_16 rfl rfl rfl (Nat.le_of_ble_eq_true rfl) rfl ?_
  refine kp_aload kd_MD_30 ?_
  refine kp_iconst (v := nI 1) kd_MD_31 kc_iconst_1 ?_
  refine kp_put (q0 := 0) (ws' := [(a, .inr (6, [.ref q1, .int 0, .ref q2, .ref q3, .int (nI 1), .int 0, .int 0, .int 0, .null, .null, .null, .null, .int 0, .int 0, .int 0, .null, .int 0, .int 0, .int 0, .int 0, .int 0, .null, .null])), (q1, .inl (E.2.2.1, 164, .inl (fun _ => 0))), (q2, .inl (E.2.2.1, 32, .inl (fun _ => 0))), (q3, .inl (E.2.2.1, 128, .inl (fun _ => 0)))]) kd_MD_32 km_MD_19 rfl (by decide +kernel) (by decide +kernel) (Nat.le_of_ble_eq_true rfl) rfl ?_
  refine kp_aload kd_MD_35 ?_
  refine kp_iconst (v := nI 1) kd_MD_36 kc_iconst_1 ?_
  refine kp_put (q0 := 0) (ws' := [(a, .inr (6, [.ref q1, .int 0, .ref q2, .ref q3, .int (nI 1), .int (nI 1), .int 0, .int 0, .null, .null, .null, .null, .int 0, .int 0, .int 0, .null, .int 0, .int 0, .int 0, .int 0, .int 0, .null, .null])), (q1, .inl (E.2.2.1, 164, .inl (fun _ => 0))), (q2, .inl (E.2.2.1, 32, .inl (fun _ => 0))), (q3, .inl (E.2.2.1, 128, .inl (fun _ => 0)))]) kd_MD_37 km_MD_23 rfl rfl rfl (Nat.le_of_ble_eq_true rfl) rfl ?_
  refine kp_aload kd_MD_40 ?_
  refine kp_bipush (v := nI 16) kd_MD_41 kc_bipush_16 ?_
  refine kp_newI kd_MD_43 rfl kw_1_39 rfl (by decide) (by decide) (by decide) (fun q4 => ?_)
  refine kp_putF (q0 := 0) (ws' := [(a, .inr (6, [.ref q1, .int 0, .ref q2, .ref q3, .int (nI 1), .int (nI 1), .int 0, .int 0, .ref q4, .null, .null, .null, .int 0, .int 0, .int 0, .null, .int 0, .int 0, .int 0, .int 0, .int 0, .null, .null])), (q1, .inl (E.2.2.1, 164, .inl (fun _ => 0))), (q2, .inl (E.2.2.1, 32, .inl (fun _ => 0))), (q3, .inl (E.2.2.1, 128, .inl (fun _ => 0))), (q4, .inl (E.2.2.1, 16, .inl (fun _ => 0)))]) kd_MD_45 kf_MD_27 rfl rfl rfl (Nat.le_of_ble_eq_true rfl) rfl ?_
  refine kp_aload kd_MD_48 ?_
  refine kp_bipush (v := nI 64) kd_MD_49 kc_bipush_64 ?_
  refine kp_newI kd_MD_51 rfl kw_1_39 rfl (by decide) (by decide) (by decide) (fun q5 => ?_)
  refine kp_putF (q0 := 0) (ws' := [(a, .inr (6, [.ref q1, .int 0, .ref q2, .ref q3, .int (nI 1), .int (nI 1), .int 0, .int 0, .ref q4, .ref q5, .null, .null, .int 0, .int 0, .int 0, .null, .int 0, .int 0, .int 0, .int 0, .int 0, .null, .null])), (q1, .inl (E.2.2.1, 164, .inl (fun _ => 0))), (q2, .inl (E.2.2.1, 32, .inl (fun _ => 0))), (q3, .inl (E.2.2.1, 128, .inl (fun _ => 0))), (q4, .inl (E.2.2.1, 16, .inl (fun _ => 0))), (q5, .inl (E.2.2.1, 64, .inl (fun _ => 0)))]) kd_MD_53 kf_MD_30 rfl rfl rfl (Nat.le_of_ble_eq_true rfl) rfl ?_
  refine kp_aload kd_MD_56 ?_
  refine kp_bipush (v := nI 16) kd_MD_57 kc_bipush_16 ?_
  refine kp_newZ kd_MD_59 rfl kw_1_56 rfl (by decide) (by decide) (by decide) (fun q6 => ?_)
  refine kp_putF (q0 := 0) (ws' := [(a, .inr (6, [.ref q1, .int 0, .ref q2, .ref q3, .int (nI 1), .int (nI 1), .int 0, .int 0, .ref q4, .ref q5, .ref q6, .null, .int 0, .int 0, .int 0, .null, .int 0, .int 0, .int 0, .int 0, .int 0, .null, .null])), (q1, .inl (E.2.2.1, 164, .inl (fun _ => 0))), (q2, .inl (E.2.2.1, 32, .inl (fun _ => 0))), (q3, .inl (E.2.2.1, 128, .inl (fun _ => 0))), (q4, .inl (E.2.2.1, 16, .inl (fun _ => 0))), (q5, .inl (E.2.2.1, 64, .inl (fun _ => 0))), (q6, .inl (E.2.2.2, 16, .inl (fun _ => 0)))]) kd_MD_61 kf_MD_33 rfl rfl rfl (Nat.le_of_ble_eq_true rfl) rfl ?_
  refine kp_aload kd_MD_64 ?_
  refine kp_bipush (v := nI 64) kd_MD_65 kc_bipush_64 ?_
  refine kp_newI kd_MD_67 rfl kw_1_39 rfl (by decide) (by decide) (by decide) (fun q7 => ?_)
  refine kp_putF (q0 := 0) (ws' := [(a, .inr (6, [.ref q1, .int 0, .ref q2, .ref q3, .int (nI 1), .int (nI 1), .int 0, .int 0, .ref q4, .ref q5, .ref q6, .ref q7, .int 0, .int 0, .int 0, .null, .int 0, .int 0, .int 0, .int 0, .int 0, .null, .null])), (q1, .inl (E.2.2.1, 164, .inl (fun _ => 0))), (q2, .inl (E.2.2.1, 32, .inl (fun _ => 0))), (q3, .inl (E.2.2.1, 128, .inl (fun _ => 0))), (q4, .inl (E.2.2.1, 16, .inl (fun _ => 0))), (q5, .inl (E.2.2.1, 64, .inl (fun _ => 0))), (q6, .inl (E.2.2.2, 16, .inl (fun _ => 0))), (q7, .inl (E.2.2.1, 64, .inl (fun _ => 0)))]) kd_MD_69 kf_MD_37 rfl rfl rfl (Nat.le_of_ble_eq_true rfl) rfl ?_
  refine kp_aload kd_MD_72 ?_
  refine kp_iconst (v := nI 4) kd_MD_73 kc_iconst_4 ?_
  refine kp_newI kd_MD_74 rfl kw_1_39 rfl (by decide) (by decide) (by decide) (fun q8 => ?_)
  refine kp_putF (q0 := 0) (ws' := [(a, .inr (6, [.ref q1, .int 0, .ref q2, .ref q3, .int (nI 1), .int (nI 1), .int 0, .int 0, .ref q4, .ref q5, .ref q6, .ref q7, .int 0, .int 0, .int 0, .ref q8, .int 0, .int 0, .int 0, .int 0, .int 0, .null, .null])), (q1, .inl (E.2.2.1, 164, .inl (fun _ => 0))), (q2, .inl (E.2.2.1, 32, .inl (fun _ => 0))), (q3, .inl (E.2.2.1, 128, .inl (fun _ => 0))), (q4, .inl (E.2.2.1, 16, .inl (fun _ => 0))), (q5, .inl (E.2.2.1, 64, .inl (fun _ => 0))), (q6, .inl (E.2.2.2, 16, .inl (fun _ => 0))), (q7, .inl (E.2.2.1, 64, .inl (fun _ => 0))), (q8, .inl (E.2.2.1, 4, .inl (fun _ => 0)))]) kd_MD_76 kf_MD_40 rfl rfl rfl (Nat.le_of_ble_eq_true rfl) rfl ?_
  refine kp_aload kd_MD_79 ?_
  refine kp_bipush (v := nI 16) kd_MD_80 kc_bipush_16 ?_
  refine kp_newI kd_MD_82 rfl kw_1_39 rfl (by decide) (by decide) (by decide) (fun q9 => ?_)
  refine kp_putF (q0 := 0) (ws' := [(a, .inr (6, [.ref q1, .int 0, .ref q2, .ref q3, .int (nI 1), .int (nI 1), .int 0, .int 0, .ref q4, .ref q5, .ref q6, .ref q7, .int 0, .int 0, .int 0, .ref q8, .int 0, .int 0, .int 0, .int 0, .int 0, .ref q9, .null])), (q1, .inl (E.2.2.1, 164, .inl (fun _ => 0))), (q2, .inl (E.2.2.1, 32, .inl (fun _ => 0))), (q3, .inl (E.2.2.1, 128, .inl (fun _ => 0))), (q4, .inl (E.2.2.1, 16, .inl (fun _ => 0))), (q5, .inl (E.2.2.1, 64, .inl (fun _ => 0))), (q6, .inl (E.2.2.2, 16, .inl (fun _ => 0))), (q7, .inl (E.2.2.1, 64, .inl (fun _ => 0))), (q8, .inl (E.2.2.1, 4, .inl (fun _ => 0))), (q9, .inl (E.2.2.1, 16, .inl (fun _ => 0)))]) kd_MD_84 kf_MD_43 rfl rfl rfl (Nat.le_of_ble_eq_true rfl) rfl ?_
  refine kp_aload kd_MD_87 ?_
  refine kp_bipush (v := nI 16) kd_MD_88 kc_bipush_16 ?_
  refine kp_newZ kd_MD_90 rfl kw_1_56 rfl (by decide) (by decide) (by decide) (fun q10 => ?_)
  refine kp_putF (q0 := 0) (ws' := [(a, .inr (6, [.ref q1, .int 0, .ref q2, .ref q3, .int (nI 1), .int (nI 1), .int 0, .int 0, .ref q4, .ref q5, .ref q6, .ref q7, .int 0, .int 0, .int 0, .ref q8, .int 0, .int 0, .int 0, .int 0, .int 0, .ref q9, .ref q10])), (q1, .inl (E.2.2.1, 164, .inl (fun _ => 0))), (q2, .inl (E.2.2.1, 32, .inl (fun _ => 0))), (q3, .inl (E.2.2.1, 128, .inl (fun _ => 0))), (q4, .inl (E.2.2.1, 16, .inl (fun _ => 0))), (q5, .inl (E.2.2.1, 64, .inl (fun _ => 0))), (q6, .inl (E.2.2.2, 16, .inl (fun _ => 0))), (q7, .inl (E.2.2.1, 64, .inl (fun _ => 0))), (q8, .inl (E.2.2.1, 4, .inl (fun _ => 0))), (q9, .inl (E.2.2.1, 16, .inl (fun _ => 0))), (q10, .inl (E.2.2.2, 16, .inl (fun _ => 0)))]) kd_MD_92 kf_MD_46 rfl rfl rfl (Nat.le_of_ble_eq_true rfl) rfl ?_
  refine kp_aload kd_MD_95 ?_
  refine kp_get (q0 := 0) kd_MD_96 kl_MD_7 rfl rfl ?_
  refine kp_bipush (v := nI 64) kd_MD_99 kc_bipush_64 ?_
  refine kp_ldc (v2 := nI 77001) kd_MD_101 kw_3_29 (by decide +kernel) ?_
  refine kp_iast (q0 := 1) (i := 64) (ws' := [(a, .inr (6, [.ref q1, .int 0, .ref q2, .ref q3, .int (nI 1), .int (nI 1), .int 0, .int 0, .ref q4, .ref q5, .ref q6, .ref q7, .int 0, .int 0, .int 0, .ref q8, .int 0, .int 0, .int 0, .int 0, .int 0, .ref q9, .ref q10])), (q1, .inl (E.2.2.1, 164, .inl (upd (fun _ => 0) 64 (nI 77001)))), (q2, .inl (E.2.2.1, 32, .inl (fun _ => 0))), (q3, .inl (E.2.2.1, 128, .inl (fun _ => 0))), (q4, .inl (E.2.2.1, 16, .inl (fun _ => 0))), (q5, .inl (E.2.2.1, 64, .inl (fun _ => 0))), (q6, .inl (E.2.2.2, 16, .inl (fun _ => 0))), (q7, .inl (E.2.2.1, 64, .inl (fun _ => 0))), (q8, .inl (E.2.2.1, 4, .inl (fun _ => 0))), (q9, .inl (E.2.2.1, 16, .inl (fun _ => 0))), (q10, .inl (E.2.2.2, 16, .inl (fun _ => 0)))]) kd_MD_103 rfl rfl (by decide) (by decide) rfl ?_
  refine kp_aload kd_MD_104 ?_
  refine kp_get (q0 := 0) kd_MD_105 kl_MD_7 rfl rfl ?_
  refine kp_bipush (v := nI 65) kd_MD_108 kc_bipush_65 ?_
  refine kp_iconst (v := nI 1) kd_MD_110 kc_iconst_1 ?_
  refine kp_iast (q0 := 1) (i := 65) (ws' := [(a, .inr (6, [.ref q1, .int 0, .ref q2, .ref q3, .int (nI 1), .int (nI 1), .int 0, .int 0, .ref q4, .ref q5, .ref q6, .ref q7, .int 0, .int 0, .int 0, .ref q8, .int 0, .int 0, .int 0, .int 0, .int 0, .ref q9, .ref q10])), (q1, .inl (E.2.2.1, 164, .inl (upd (upd (fun _ => 0) 64 (nI 77001)) 65 (nI 1)))), (q2, .inl (E.2.2.1, 32, .inl (fun _ => 0))), (q3, .inl (E.2.2.1, 128, .inl (fun _ => 0))), (q4, .inl (E.2.2.1, 16, .inl (fun _ => 0))), (q5, .inl (E.2.2.1, 64, .inl (fun _ => 0))), (q6, .inl (E.2.2.2, 16, .inl (fun _ => 0))), (q7, .inl (E.2.2.1, 64, .inl (fun _ => 0))), (q8, .inl (E.2.2.1, 4, .inl (fun _ => 0))), (q9, .inl (E.2.2.1, 16, .inl (fun _ => 0))), (q10, .inl (E.2.2.2, 16, .inl (fun _ => 0)))]) kd_MD_111 rfl rfl (by decide) (by decide) rfl ?_
  exact kp_ret kd_MD_112 rfl (by decide) (by decide) ⟨q1, q2, q3, q4, q5, q6, q7, q8, q9, q10, rfl⟩
set_option maxRecDepth 100000 in
set_option maxHeartbeats 4000000 in
theorem k_RS_init {l : Launch} {E : xE} {a : Nat} : KP l E M_RS_init 23 891 0 a [] [(a, .inr (0, [.null, .null, .null, .null, .null, .null, .int 0, .int 0, .int 0, .int 0, .int 0]))] 0 0 (fun w => ∃ (ad : Nat → Nat) (h : xh), w = wld_z (E.1, ad, E.2.2) h ∧ ad 0 = a ∧ h_init h) := by
  refine kp_aload kd_RS_0 ?_
  refine kp_objInit kd_RS_1 kw_1_16 kw_1_17 kw_1_18 (by decide) (by decide) ?_
  refine kp_aload kd_RS_4 ?_
  refine kp_new kd_RS_5 kn_RS_9 (Nat.le_of_ble_eq_true rfl) (Nat.le_of_ble_eq_true rfl) (fun q1 => ?_)
  refine kp_dup rfl kd_RS_8 ?_
  refine kp_callI (wc := [(q1, .inr (1, [.null, .null, .null, .int 0]))]) (wr := [(a, .inr (0, [.null, .null, .null, .null, .null, .null, .int 0, .int 0, .int 0, .int 0, .int 0]))]) kd_RS_9 kb_RS_11 kw_1_22 rfl rfl (by decide) [1] [0] rfl rfl (by decide) (by decide) (by decide) (Nat.le_of_ble_eq_true rfl) (Nat.le_of_ble_eq_true rfl) (Nat.le_of_ble_eq_true rfl) k_DV_init (fun w1 h1 => ?_)
  obtain ⟨q2, q3, q4, rfl⟩ := h1
  refine kp_putF (q0 := 0) (ws' := [(a, .inr (0, [.ref q1, .null, .null, .null, .null, .null, .int 0, .int 0, .int 0, .int 0, .int 0])), (q1, .inr (1, [.ref q2, .ref q3, .ref q4, .int (nI 0)])), (q2, .inl (E.2.2.1, 164, .inl (upd (upd (fun _ => 0) 64 (nI 77001)) 65 (nI 1)))), (q3, .inl (E.2.2.1, 28, .inl (fun _ => 0))), (q4, .inl (E.2.2.1, 112, .inl (fun _ => 0)))]) kd_RS_12 kf_RS_12 rfl rfl rfl (Nat.le_of_ble_eq_true rfl) rfl ?_
  refine kp_aload kd_RS_15 ?_
  refine kp_new kd_RS_16 kn_RS_16 (Nat.le_of_ble_eq_true rfl) (Nat.le_of_ble_eq_true rfl) (fun q5 => ?_)
  refine kp_dup rfl kd_RS_19 ?_
  refine kp_callI (wc := [(q5, .inr (2, [.null, .null, .int 0]))]) (wr := [(a, .inr (0, [.ref q1, .null, .null, .null, .null, .null, .int 0, .int 0, .int 0, .int 0, .int 0])), (q1, .inr (1, [.ref q2, .ref q3, .ref q4, .int (nI 0)])), (q2, .inl (E.2.2.1, 164, .inl (upd (upd (fun _ => 0) 64 (nI 77001)) 65 (nI 1)))), (q3, .inl (E.2.2.1, 28, .inl (fun _ => 0))), (q4, .inl (E.2.2.1, 112, .inl (fun _ => 0)))]) kd_RS_20 kb_RS_18 kw_1_43 rfl rfl (by decide) [5] [0, 1, 2, 3, 4] rfl rfl (by decide) (by decide) (by decide) (Nat.le_of_ble_eq_true rfl) (Nat.le_of_ble_eq_true rfl) (Nat.le_of_ble_eq_true rfl) k_IM_init (fun w1 h1 => ?_)
  obtain ⟨q6, q7, rfl⟩ := h1
  refine kp_putF (q0 := 0) (ws' := [(a, .inr (0, [.ref q1, .ref q5, .null, .null, .null, .null, .int 0, .int 0, .int 0, .int 0, .int 0])), (q1, .inr (1, [.ref q2, .ref q3, .ref q4, .int (nI 0)])), (q2, .inl (E.2.2.1, 164, .inl (upd (upd (fun _ => 0) 64 (nI 77001)) 65 (nI 1)))), (q3, .inl (E.2.2.1, 28, .inl (fun _ => 0))), (q4, .inl (E.2.2.1, 112, .inl (fun _ => 0))), (q5, .inr (2, [.ref q6, .ref q7, .int (nI 0)])), (q6, .inl (E.2.2.2, 16, .inl (fun _ => 0))), (q7, .inl (E.2.2.1, 64, .inl (fun _ => 0)))]) kd_RS_23 kf_RS_19 rfl rfl rfl (Nat.le_of_ble_eq_true rfl) rfl ?_
  refine kp_aload kd_RS_26 ?_
  refine kp_new kd_RS_27 kn_RS_16 (Nat.le_of_ble_eq_true rfl) (Nat.le_of_ble_eq_true rfl) (fun q8 => ?_)
  refine kp_dup rfl kd_RS_30 ?_
  refine kp_callI (wc := [(q8, .inr (2, [.null, .null, .int 0]))]) (wr := [(a, .inr (0, [.ref q1, .ref q5, .null, .null, .null, .null, .int 0, .int 0, .int 0, .int 0, .int 0])), (q1, .inr (1, [.ref q2, .ref q3, .ref q4, .int (nI 0)])), (q2, .inl (E.2.2.1, 164, .inl (upd (upd (fun _ => 0) 64 (nI 77001)) 65 (nI 1)))), (q3, .inl (E.2.2.1, 28, .inl (fun _ => 0))), (q4, .inl (E.2.2.1, 112, .inl (fun _ => 0))), (q5, .inr (2, [.ref q6, .ref q7, .int (nI 0)])), (q6, .inl (E.2.2.2, 16, .inl (fun _ => 0))), (q7, .inl (E.2.2.1, 64, .inl (fun _ => 0)))]) kd_RS_31 kb_RS_18 kw_1_43 rfl rfl (by decide) [8] [0, 1, 2, 3, 4, 5, 6, 7] rfl rfl (by decide) (by decide) (by decide) (Nat.le_of_ble_eq_true rfl) (Nat.le_of_ble_eq_true rfl) (Nat.le_of_ble_eq_true rfl) k_IM_init (fun w1 h1 => ?_)
  obtain ⟨q9, q10, rfl⟩ := h1
  refine kp_putF (q0 := 0) (ws' := [(a, .inr (0, [.ref q1, .ref q5, .ref q8, .null, .null, .null, .int 0, .int 0, .int 0, .int 0, .int 0])), (q1, .inr (1, [.ref q2, .ref q3, .ref q4, .int (nI 0)])), (q2, .inl (E.2.2.1, 164, .inl (upd (upd (fun _ => 0) 64 (nI 77001)) 65 (nI 1)))), (q3, .inl (E.2.2.1, 28, .inl (fun _ => 0))), (q4, .inl (E.2.2.1, 112, .inl (fun _ => 0))), (q5, .inr (2, [.ref q6, .ref q7, .int (nI 0)])), (q6, .inl (E.2.2.2, 16, .inl (fun _ => 0))), (q7, .inl (E.2.2.1, 64, .inl (fun _ => 0))), (q8, .inr (2, [.ref q9, .ref q10, .int (nI 0)])), (q9, .inl (E.2.2.2, 16, .inl (fun _ => 0))), (q10, .inl (E.2.2.1, 64, .inl (fun _ => 0)))]) kd_RS_34 kf_RS_23 rfl rfl rfl (Nat.le_of_ble_eq_true rfl) rfl ?_
  refine kp_aload kd_RS_37 ?_
  refine kp_new kd_RS_38 kn_RS_26 (Nat.le_of_ble_eq_true rfl) (Nat.le_of_ble_eq_true rfl) (fun q11 => ?_)
  refine kp_dup rfl kd_RS_41 ?_
  refine kp_callI (wc := [(q11, .inr (3, [.null, .null, .int 0, .int 0]))]) (wr := [(a, .inr (0, [.ref q1, .ref q5, .ref q8, .null, .null, .null, .int 0, .int 0, .int 0, .int 0, .int 0])), (q1, .inr (1, [.ref q2, .ref q3, .ref q4, .int (nI 0)])), (q2, .inl (E.2.2.1, 164, .inl (upd (upd (fun _ => 0) 64 (nI 77001)) 65 (nI 1)))), (q3, .inl (E.2.2.1, 28, .inl (fun _ => 0))), (q4, .inl (E.2.2.1, 112, .inl (fun _ => 0))), (q5, .inr (2, [.ref q6, .ref q7, .int (nI 0)])), (q6, .inl (E.2.2.2, 16, .inl (fun _ => 0))), (q7, .inl (E.2.2.1, 64, .inl (fun _ => 0))), (q8, .inr (2, [.ref q9, .ref q10, .int (nI 0)])), (q9, .inl (E.2.2.2, 16, .inl (fun _ => 0))), (q10, .inl (E.2.2.1, 64, .inl (fun _ => 0)))]) kd_RS_42 kb_RS_28 kw_1_60 rfl rfl (by decide) [11] [0, 1, 2, 3, 4, 5, 6, 7, 8, 9, 10] rfl rfl (by decide) (by decide) (by decide) (Nat.le_of_ble_eq_true rfl) (Nat.le_of_ble_eq_true rfl) (Nat.le_of_ble_eq_true rfl) k_RW_init (fun w1 h1 => ?_)
  obtain ⟨q12, q13, rfl⟩ := h1
  refine kp_putF (q0 := 0) (ws' := [(a, .inr (0, [.ref q1, .ref q5, .ref q8, .ref q11, .null, .null, .int 0, .int 0, .int 0, .int 0, .int 0])), (q1, .inr (1, [.ref q2, .ref q3, .ref q4, .int (nI 0)])), (q2, .inl (E.2.2.1, 164, .inl (upd (upd (fun _ => 0) 64 (nI 77001)) 65 (nI 1)))), (q3, .inl (E.2.2.1, 28, .inl (fun _ => 0))), (q4, .inl (E.2.2.1, 112, .inl (fun _ => 0))), (q5, .inr (2, [.ref q6, .ref q7, .int (nI 0)])), (q6, .inl (E.2.2.2, 16, .inl (fun _ => 0))), (q7, .inl (E.2.2.1, 64, .inl (fun _ => 0))), (q8, .inr (2, [.ref q9, .ref q10, .int (nI 0)])), (q9, .inl (E.2.2.2, 16, .inl (fun _ => 0))), (q10, .inl (E.2.2.1, 64, .inl (fun _ => 0))), (q11, .inr (3, [.ref q12, .ref q13, .int (nI 0), .int (nI 0)])), (q12, .inl (E.2.2.1, 48, .inl (fun _ => 0))), (q13, .inl (E.2.2.1, 4, .inl (fun _ => 0)))]) kd_RS_45 kf_RS_29 rfl rfl rfl (Nat.le_of_ble_eq_true rfl) rfl ?_
  refine kp_aload kd_RS_48 ?_
  refine kp_new kd_RS_49 kn_RS_33 (Nat.le_of_ble_eq_true rfl) (Nat.le_of_ble_eq_true rfl) (fun q14 => ?_)
  refine kp_dup rfl kd_RS_52 ?_
  refine kp_callI (wc := [(q14, .inr (4, [.null, .null, .null, .null, .null, .null, .int 0, .int 0, .int 0, .int 0, .int 0, .int 0, .int 0]))]) (wr := [(a, .inr (0, [.ref q1, .ref q5, .ref q8, .ref q11, .null, .null, .int 0, .int 0, .int 0, .int 0, .int 0])), (q1, .inr (1, [.ref q2, .ref q3, .ref q4, .int (nI 0)])), (q2, .inl (E.2.2.1, 164, .inl (upd (upd (fun _ => 0) 64 (nI 77001)) 65 (nI 1)))), (q3, .inl (E.2.2.1, 28, .inl (fun _ => 0))), (q4, .inl (E.2.2.1, 112, .inl (fun _ => 0))), (q5, .inr (2, [.ref q6, .ref q7, .int (nI 0)])), (q6, .inl (E.2.2.2, 16, .inl (fun _ => 0))), (q7, .inl (E.2.2.1, 64, .inl (fun _ => 0))), (q8, .inr (2, [.ref q9, .ref q10, .int (nI 0)])), (q9, .inl (E.2.2.2, 16, .inl (fun _ => 0))), (q10, .inl (E.2.2.1, 64, .inl (fun _ => 0))), (q11, .inr (3, [.ref q12, .ref q13, .int (nI 0), .int (nI 0)])), (q12, .inl (E.2.2.1, 48, .inl (fun _ => 0))), (q13, .inl (E.2.2.1, 4, .inl (fun _ => 0)))]) kd_RS_53 kb_RS_35 kw_1_79 rfl rfl (by decide) [14] [0, 1, 2, 3, 4, 5, 6, 7, 8, 9, 10, 11, 12, 13] rfl rfl (by decide) (by decide) (by decide) (Nat.le_of_ble_eq_true rfl) (Nat.le_of_ble_eq_true rfl) (Nat.le_of_ble_eq_true rfl) k_LR_init (fun w1 h1 => ?_)
  obtain ⟨q15, q16, q17, q18, q19, q20, rfl⟩ := h1
  refine kp_putF (q0 := 0) (ws' := [(a, .inr (0, [.ref q1, .ref q5, .ref q8, .ref q11, .ref q14, .null, .int 0, .int 0, .int 0, .int 0, .int 0])), (q1, .inr (1, [.ref q2, .ref q3, .ref q4, .int (nI 0)])), (q2, .inl (E.2.2.1, 164, .inl (upd (upd (fun _ => 0) 64 (nI 77001)) 65 (nI 1)))), (q3, .inl (E.2.2.1, 28, .inl (fun _ => 0))), (q4, .inl (E.2.2.1, 112, .inl (fun _ => 0))), (q5, .inr (2, [.ref q6, .ref q7, .int (nI 0)])), (q6, .inl (E.2.2.2, 16, .inl (fun _ => 0))), (q7, .inl (E.2.2.1, 64, .inl (fun _ => 0))), (q8, .inr (2, [.ref q9, .ref q10, .int (nI 0)])), (q9, .inl (E.2.2.2, 16, .inl (fun _ => 0))), (q10, .inl (E.2.2.1, 64, .inl (fun _ => 0))), (q11, .inr (3, [.ref q12, .ref q13, .int (nI 0), .int (nI 0)])), (q12, .inl (E.2.2.1, 48, .inl (fun _ => 0))), (q13, .inl (E.2.2.1, 4, .inl (fun _ => 0))), (q14, .inr (4, [.ref q15, .ref q16, .ref q17, .ref q18, .ref q19, .ref q20, .int (nI 0), .int (nI 0), .int (nI 0), .int (nI 0), .int (nI 0), .int (nI 0), .int (nI 0)])), (q15, .inl (E.2.2.1, 96, .inl (fun _ => 0))), (q16, .inl (E.2.2.1, 24, .inl (fun _ => 0))), (q17, .inl (E.2.2.1, 24, .inl (fun _ => 0))), (q18, .inl (E.2.2.2, 24, .inl (fun _ => 0))), (q19, .inl (E.2.2.1, 24, .inl (fun _ => 0))), (q20, .inl (E.2.2.1, 16, .inl (fun _ => 0)))]) kd_RS_56 kf_RS_36 rfl rfl rfl (Nat.le_of_ble_eq_true rfl) rfl ?_
  refine kp_aload kd_RS_59 ?_
  refine kp_new kd_RS_60 kn_RS_40 (Nat.le_of_ble_eq_true rfl) (Nat.le_of_ble_eq_true rfl) (fun q21 => ?_)
  refine kp_dup rfl kd_RS_63 ?_
  refine kp_callI (wc := [(q21, .inr (5, [.null, .null, .int 0, .int 0, .int 0]))]) (wr := [(a, .inr (0, [.ref q1, .ref q5, .ref q8, .ref q11, .ref q14, .null, .int 0, .int 0, .int 0, .int 0, .int 0])), (q1, .inr (1, [.ref q2, .ref q3, .ref q4, .int (nI 0)])), (q2, .inl (E.2.2.1, 164, .inl (upd (upd (fun _ => 0) 64 (nI 77001)) 65 (nI 1)))), (q3, .inl (E.2.2.1, 28, .inl (fun _ => 0))), (q4, .inl (E.2.2.1, 112, .inl (fun _ => 0))), (q5, .inr (2, [.ref q6, .ref q7, .int (nI 0)])), (q6, .inl (E.2.2.2, 16, .inl (fun _ => 0))), (q7, .inl (E.2.2.1, 64, .inl (fun _ => 0))), (q8, .inr (2, [.ref q9, .ref q10, .int (nI 0)])), (q9, .inl (E.2.2.2, 16, .inl (fun _ => 0))), (q10, .inl (E.2.2.1, 64, .inl (fun _ => 0))), (q11, .inr (3, [.ref q12, .ref q13, .int (nI 0), .int (nI 0)])), (q12, .inl (E.2.2.1, 48, .inl (fun _ => 0))), (q13, .inl (E.2.2.1, 4, .inl (fun _ => 0))), (q14, .inr (4, [.ref q15, .ref q16, .ref q17, .ref q18, .ref q19, .ref q20, .int (nI 0), .int (nI 0), .int (nI 0), .int (nI 0), .int (nI 0), .int (nI 0), .int (nI 0)])), (q15, .inl (E.2.2.1, 96, .inl (fun _ => 0))), (q16, .inl (E.2.2.1, 24, .inl (fun _ => 0))), (q17, .inl (E.2.2.1, 24, .inl (fun _ => 0))), (q18, .inl (E.2.2.2, 24, .inl (fun _ => 0))), (q19, .inl (E.2.2.1, 24, .inl (fun _ => 0))), (q20, .inl (E.2.2.1, 16, .inl (fun _ => 0)))]) kd_RS_64 kb_RS_42 kw_1_125 rfl rfl (by decide) [21] [0, 1, 2, 3, 4, 5, 6, 7, 8, 9, 10, 11, 12, 13, 14, 15, 16, 17, 18, 19, 20] rfl rfl (by decide) (by decide) (by decide) (Nat.le_of_ble_eq_true rfl) (Nat.le_of_ble_eq_true rfl) (Nat.le_of_ble_eq_true rfl) k_JB_init (fun w1 h1 => ?_)
  obtain ⟨q22, q23, rfl⟩ := h1
  refine kp_putF (q0 := 0) (ws' := [(a, .inr (0, [.ref q1, .ref q5, .ref q8, .ref q11, .ref q14, .ref q21, .int 0, .int 0, .int 0, .int 0, .int 0])), (q1, .inr (1, [.ref q2, .ref q3, .ref q4, .int (nI 0)])), (q2, .inl (E.2.2.1, 164, .inl (upd (upd (fun _ => 0) 64 (nI 77001)) 65 (nI 1)))), (q3, .inl (E.2.2.1, 28, .inl (fun _ => 0))), (q4, .inl (E.2.2.1, 112, .inl (fun _ => 0))), (q5, .inr (2, [.ref q6, .ref q7, .int (nI 0)])), (q6, .inl (E.2.2.2, 16, .inl (fun _ => 0))), (q7, .inl (E.2.2.1, 64, .inl (fun _ => 0))), (q8, .inr (2, [.ref q9, .ref q10, .int (nI 0)])), (q9, .inl (E.2.2.2, 16, .inl (fun _ => 0))), (q10, .inl (E.2.2.1, 64, .inl (fun _ => 0))), (q11, .inr (3, [.ref q12, .ref q13, .int (nI 0), .int (nI 0)])), (q12, .inl (E.2.2.1, 48, .inl (fun _ => 0))), (q13, .inl (E.2.2.1, 4, .inl (fun _ => 0))), (q14, .inr (4, [.ref q15, .ref q16, .ref q17, .ref q18, .ref q19, .ref q20, .int (nI 0), .int (nI 0), .int (nI 0), .int (nI 0), .int (nI 0), .int (nI 0), .int (nI 0)])), (q15, .inl (E.2.2.1, 96, .inl (fun _ => 0))), (q16, .inl (E.2.2.1, 24, .inl (fun _ => 0))), (q17, .inl (E.2.2.1, 24, .inl (fun _ => 0))), (q18, .inl (E.2.2.2, 24, .inl (fun _ => 0))), (q19, .inl (E.2.2.1, 24, .inl (fun _ => 0))), (q20, .inl (E.2.2.1, 16, .inl (fun _ => 0))), (q21, .inr (5, [.ref q22, .ref q23, .int (nI 0), .int (nI 0), .int (nI 0)])), (q22, .inl (E.2.2.1, 27, .inl (fun _ => 0))), (q23, .inl (E.2.2.1, 108, .inl (fun _ => 0)))]) kd_RS_67 kf_RS_43 rfl rfl rfl (Nat.le_of_ble_eq_true rfl) rfl ?_
  refine kp_aload kd_RS_70 ?_
  refine kp_iconst (v := nI 1) kd_RS_71 kc_iconst_1 ?_
  refine kp_iconst (v := nI 0) kd_RS_72 kc_iconst_0 ?_
  refine kp_perm (ws' := [(a, .inr (0, [.ref q1, .ref q5, .ref q8, .ref q11, .ref q14, .ref q21, .int 0, .int 0, .int 0, .int 0, .int 0])), (q1, .inr (1, [.ref q2, .ref q3, .ref q4, .int (nI 0)])), (q5, .inr (2, [.ref q6, .ref q7, .int (nI 0)])), (q8, .inr (2, [.ref q9, .ref q10, .int (nI 0)])), (q11, .inr (3, [.ref q12, .ref q13, .int (nI 0), .int (nI 0)])), (q14, .inr (4, [.ref q15, .ref q16, .ref q17, .ref q18, .ref q19, .ref q20, .int (nI 0), .int (nI 0), .int (nI 0), .int (nI 0), .int (nI 0), .int (nI 0), .int (nI 0)])), (q21, .inr (5, [.ref q22, .ref q23, .int (nI 0), .int (nI 0), .int (nI 0)])), (q23, .inl (E.2.2.1, 108, .inl (fun _ => 0))), (q2, .inl (E.2.2.1, 164, .inl (upd (upd (fun _ => 0) 64 (nI 77001)) 65 (nI 1)))), (q3, .inl (E.2.2.1, 28, .inl (fun _ => 0))), (q4, .inl (E.2.2.1, 112, .inl (fun _ => 0))), (q6, .inl (E.2.2.2, 16, .inl (fun _ => 0))), (q7, .inl (E.2.2.1, 64, .inl (fun _ => 0))), (q9, .inl (E.2.2.2, 16, .inl (fun _ => 0))), (q10, .inl (E.2.2.1, 64, .inl (fun _ => 0))), (q12, .inl (E.2.2.1, 48, .inl (fun _ => 0))), (q13, .inl (E.2.2.1, 4, .inl (fun _ => 0))), (q15, .inl (E.2.2.1, 96, .inl (fun _ => 0))), (q16, .inl (E.2.2.1, 24, .inl (fun _ => 0))), (q17, .inl (E.2.2.1, 24, .inl (fun _ => 0))), (q18, .inl (E.2.2.2, 24, .inl (fun _ => 0))), (q19, .inl (E.2.2.1, 24, .inl (fun _ => 0))), (q20, .inl (E.2.2.1, 16, .inl (fun _ => 0))), (q22, .inl (E.2.2.1, 27, .inl (fun _ => 0)))]) [0, 1, 5, 8, 11, 14, 21, 23, 2, 3, 4, 6, 7, 9, 10, 12, 13, 15, 16, 17, 18, 19, 20, 22] rfl rfl (by decide) ?_
  refine kp_callZ (ad := fun k => [a, q1, q5, q8, q11, q14, q21, q23, q2, q3, q4, q6, q7, q9, q10, q12, q13, q15, q16, q17, q18, q19, q20, q22].getD k 0) (h := h_start) (as := [.inl (nI 1), .inl (nI 0)]) (b := 0) kd_RS_73 kb_RS_47 ⟨kw_1_146, ks_comeUp⟩ rfl rfl rfl rfl (by decide) rfl rfl (by decide) (by decide) (s_comeUp_z (num' := 1) (nx' := 0) (rn := fun _ => 0) (pw := fun _ => 0) (fun h' f' V' => ⟨rfl, ?_⟩)) (fun r h' z => z)
  exact kp_ret kd_RS_76 rfl (by decide) (by decide) ⟨_, h', rfl, rfl, V', by rw [f' 1 3 rfl]; rfl, by rw [f'.cell 8 (fun _ => rfl)]; rfl, by rw [f' 6 2 rfl]; rfl, by rw [f' 6 3 rfl]; rfl, by rw [f' 6 4 rfl]; rfl⟩
