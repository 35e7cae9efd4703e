/-! THE LAW'S BODY, by program (wip/whole/gen_law.py): the decode rows, and each of its calls -/
theorem lw_1_1 : (Jvm.Cond.initialized "RedoShelf") ∈ gW := gW_in (tb_1 (List.mem_of_getElem? (i := 1) rfl)) rfl
theorem lw_1_186 : (Jvm.Cond.methodLink "RedoShelfLaw" (13 : Nat) ({ cls := "RedoShelf", name := "put", desc := "(III)Z" } : Jvm.MethodName)) ∈ gW := gW_in (tb_1 (List.mem_of_getElem? (i := 186) rfl)) rfl
theorem lw_1_187 : (Jvm.Cond.instanceMethod ({ cls := "RedoShelf", name := "put", desc := "(III)Z" } : Jvm.MethodName)) ∈ gW := gW_in (tb_1 (List.mem_of_getElem? (i := 187) rfl)) rfl
theorem lw_1_188 : (Jvm.Cond.selects "RedoShelf" ({ cls := "RedoShelf", name := "put", desc := "(III)Z" } : Jvm.MethodName) ({ cls := "RedoShelf", name := "put", desc := "(III)Z" } : Jvm.MethodName)) ∈ gW := gW_in (tb_1 (List.mem_of_getElem? (i := 188) rfl)) rfl
theorem lw_1_189 : (Jvm.Cond.code ({ cls := "RedoShelf", name := "put", desc := "(III)Z" } : Jvm.MethodName) prog_1_method_2_code (4 : Nat) (Option.some Jvm.ClassFile.FieldType.boolean)) ∈ gW := gW_in (tb_1 (List.mem_of_getElem? (i := 189) rfl)) rfl
theorem lw_1_7 : (Jvm.Cond.initialized "RedoShelfModel") ∈ gW := gW_in (tb_1 (List.mem_of_getElem? (i := 7) rfl)) rfl
theorem lw_2_0 : (Jvm.Cond.methodLink "RedoShelfLaw" (18 : Nat) ({ cls := "RedoShelf", name := "revoke", desc := "(I)Z" } : Jvm.MethodName)) ∈ gW := gW_in (tb_2 (List.mem_of_getElem? (i := 0) rfl)) rfl
theorem lw_2_1 : (Jvm.Cond.instanceMethod ({ cls := "RedoShelf", name := "revoke", desc := "(I)Z" } : Jvm.MethodName)) ∈ gW := gW_in (tb_2 (List.mem_of_getElem? (i := 1) rfl)) rfl
theorem lw_2_10 : (Jvm.Cond.selects "RedoShelf" ({ cls := "RedoShelf", name := "direct", desc := "(III)Z" } : Jvm.MethodName) ({ cls := "RedoShelf", name := "direct", desc := "(III)Z" } : Jvm.MethodName)) ∈ gW := gW_in (tb_2 (List.mem_of_getElem? (i := 10) rfl)) rfl
theorem lw_2_11 : (Jvm.Cond.code ({ cls := "RedoShelf", name := "direct", desc := "(III)Z" } : Jvm.MethodName) prog_1_method_4_code (4 : Nat) (Option.some Jvm.ClassFile.FieldType.boolean)) ∈ gW := gW_in (tb_2 (List.mem_of_getElem? (i := 11) rfl)) rfl
theorem lw_2_155 : (Jvm.Cond.methodLink "RedoShelfLaw" (40 : Nat) ({ cls := "RedoShelf", name := "step", desc := "(I)I" } : Jvm.MethodName)) ∈ gW := gW_in (tb_2 (List.mem_of_getElem? (i := 155) rfl)) rfl
theorem lw_2_156 : (Jvm.Cond.instanceMethod ({ cls := "RedoShelf", name := "step", desc := "(I)I" } : Jvm.MethodName)) ∈ gW := gW_in (tb_2 (List.mem_of_getElem? (i := 156) rfl)) rfl
theorem lw_2_157 : (Jvm.Cond.selects "RedoShelf" ({ cls := "RedoShelf", name := "step", desc := "(I)I" } : Jvm.MethodName) ({ cls := "RedoShelf", name := "step", desc := "(I)I" } : Jvm.MethodName)) ∈ gW := gW_in (tb_2 (List.mem_of_getElem? (i := 157) rfl)) rfl
theorem lw_2_158 : (Jvm.Cond.code ({ cls := "RedoShelf", name := "step", desc := "(I)I" } : Jvm.MethodName) prog_1_method_8_code (4 : Nat) (Option.some Jvm.ClassFile.FieldType.int)) ∈ gW := gW_in (tb_2 (List.mem_of_getElem? (i := 158) rfl)) rfl
theorem lw_2_2 : (Jvm.Cond.selects "RedoShelf" ({ cls := "RedoShelf", name := "revoke", desc := "(I)Z" } : Jvm.MethodName) ({ cls := "RedoShelf", name := "revoke", desc := "(I)Z" } : Jvm.MethodName)) ∈ gW := gW_in (tb_2 (List.mem_of_getElem? (i := 2) rfl)) rfl
theorem lw_2_21 : (Jvm.Cond.methodLink "RedoShelfLaw" (27 : Nat) ({ cls := "RedoShelf", name := "commit", desc := "()I" } : Jvm.MethodName)) ∈ gW := gW_in (tb_2 (List.mem_of_getElem? (i := 21) rfl)) rfl
theorem lw_2_212 : (Jvm.Cond.methodLink "RedoShelfLaw" (45 : Nat) ({ cls := "RedoShelf", name := "crash", desc := "(II)I" } : Jvm.MethodName)) ∈ gW := gW_in (tb_2 (List.mem_of_getElem? (i := 212) rfl)) rfl
theorem lw_2_213 : (Jvm.Cond.instanceMethod ({ cls := "RedoShelf", name := "crash", desc := "(II)I" } : Jvm.MethodName)) ∈ gW := gW_in (tb_2 (List.mem_of_getElem? (i := 213) rfl)) rfl
theorem lw_2_214 : (Jvm.Cond.selects "RedoShelf" ({ cls := "RedoShelf", name := "crash", desc := "(II)I" } : Jvm.MethodName) ({ cls := "RedoShelf", name := "crash", desc := "(II)I" } : Jvm.MethodName)) ∈ gW := gW_in (tb_2 (List.mem_of_getElem? (i := 214) rfl)) rfl
theorem lw_2_215 : (Jvm.Cond.code ({ cls := "RedoShelf", name := "crash", desc := "(II)I" } : Jvm.MethodName) prog_1_method_9_code (3 : Nat) (Option.some Jvm.ClassFile.FieldType.int)) ∈ gW := gW_in (tb_2 (List.mem_of_getElem? (i := 215) rfl)) rfl
theorem lw_2_22 : (Jvm.Cond.instanceMethod ({ cls := "RedoShelf", name := "commit", desc := "()I" } : Jvm.MethodName)) ∈ gW := gW_in (tb_2 (List.mem_of_getElem? (i := 22) rfl)) rfl
theorem lw_2_223 : (Jvm.Cond.methodLink "RedoShelfLaw" (50 : Nat) ({ cls := "RedoShelf", name := "get", desc := "(II)I" } : Jvm.MethodName)) ∈ gW := gW_in (tb_2 (List.mem_of_getElem? (i := 223) rfl)) rfl
theorem lw_2_224 : (Jvm.Cond.instanceMethod ({ cls := "RedoShelf", name := "get", desc := "(II)I" } : Jvm.MethodName)) ∈ gW := gW_in (tb_2 (List.mem_of_getElem? (i := 224) rfl)) rfl
theorem lw_2_225 : (Jvm.Cond.selects "RedoShelf" ({ cls := "RedoShelf", name := "get", desc := "(II)I" } : Jvm.MethodName) ({ cls := "RedoShelf", name := "get", desc := "(II)I" } : Jvm.MethodName)) ∈ gW := gW_in (tb_2 (List.mem_of_getElem? (i := 225) rfl)) rfl
theorem lw_2_226 : (Jvm.Cond.code ({ cls := "RedoShelf", name := "get", desc := "(II)I" } : Jvm.MethodName) prog_1_method_10_code (3 : Nat) (Option.some Jvm.ClassFile.FieldType.int)) ∈ gW := gW_in (tb_2 (List.mem_of_getElem? (i := 226) rfl)) rfl
theorem lw_2_227 : (Jvm.Cond.methodLink "RedoShelfLaw" (54 : Nat) ({ cls := "RedoShelf", name := "read", desc := "(II)I" } : Jvm.MethodName)) ∈ gW := gW_in (tb_2 (List.mem_of_getElem? (i := 227) rfl)) rfl
theorem lw_2_228 : (Jvm.Cond.instanceMethod ({ cls := "RedoShelf", name := "read", desc := "(II)I" } : Jvm.MethodName)) ∈ gW := gW_in (tb_2 (List.mem_of_getElem? (i := 228) rfl)) rfl
theorem lw_2_229 : (Jvm.Cond.selects "RedoShelf" ({ cls := "RedoShelf", name := "read", desc := "(II)I" } : Jvm.MethodName) ({ cls := "RedoShelf", name := "read", desc := "(II)I" } : Jvm.MethodName)) ∈ gW := gW_in (tb_2 (List.mem_of_getElem? (i := 229) rfl)) rfl
theorem lw_2_23 : (Jvm.Cond.selects "RedoShelf" ({ cls := "RedoShelf", name := "commit", desc := "()I" } : Jvm.MethodName) ({ cls := "RedoShelf", name := "commit", desc := "()I" } : Jvm.MethodName)) ∈ gW := gW_in (tb_2 (List.mem_of_getElem? (i := 23) rfl)) rfl
theorem lw_2_230 : (Jvm.Cond.code ({ cls := "RedoShelf", name := "read", desc := "(II)I" } : Jvm.MethodName) prog_1_method_11_code (3 : Nat) (Option.some Jvm.ClassFile.FieldType.int)) ∈ gW := gW_in (tb_2 (List.mem_of_getElem? (i := 230) rfl)) rfl
theorem lw_2_234 : (Jvm.Cond.methodLink "RedoShelfLaw" (58 : Nat) ({ cls := "RedoShelf", name := "stored", desc := "(II)I" } : Jvm.MethodName)) ∈ gW := gW_in (tb_2 (List.mem_of_getElem? (i := 234) rfl)) rfl
theorem lw_2_235 : (Jvm.Cond.instanceMethod ({ cls := "RedoShelf", name := "stored", desc := "(II)I" } : Jvm.MethodName)) ∈ gW := gW_in (tb_2 (List.mem_of_getElem? (i := 235) rfl)) rfl
theorem lw_2_236 : (Jvm.Cond.selects "RedoShelf" ({ cls := "RedoShelf", name := "stored", desc := "(II)I" } : Jvm.MethodName) ({ cls := "RedoShelf", name := "stored", desc := "(II)I" } : Jvm.MethodName)) ∈ gW := gW_in (tb_2 (List.mem_of_getElem? (i := 236) rfl)) rfl
theorem lw_2_237 : (Jvm.Cond.code ({ cls := "RedoShelf", name := "stored", desc := "(II)I" } : Jvm.MethodName) prog_1_method_12_code (3 : Nat) (Option.some Jvm.ClassFile.FieldType.int)) ∈ gW := gW_in (tb_2 (List.mem_of_getElem? (i := 237) rfl)) rfl
theorem lw_2_239 : (Jvm.Cond.methodLink "RedoShelfLaw" (62 : Nat) ({ cls := "RedoShelf", name := "cached", desc := "()I" } : Jvm.MethodName)) ∈ gW := gW_in (tb_2 (List.mem_of_getElem? (i := 239) rfl)) rfl
theorem lw_2_24 : (Jvm.Cond.code ({ cls := "RedoShelf", name := "commit", desc := "()I" } : Jvm.MethodName) prog_1_method_5_code (3 : Nat) (Option.some Jvm.ClassFile.FieldType.int)) ∈ gW := gW_in (tb_2 (List.mem_of_getElem? (i := 24) rfl)) rfl
theorem lw_2_3 : (Jvm.Cond.code ({ cls := "RedoShelf", name := "revoke", desc := "(I)Z" } : Jvm.MethodName) prog_1_method_3_code (2 : Nat) (Option.some Jvm.ClassFile.FieldType.boolean)) ∈ gW := gW_in (tb_2 (List.mem_of_getElem? (i := 3) rfl)) rfl
theorem lw_2_71 : (Jvm.Cond.methodLink "RedoShelfLaw" (32 : Nat) ({ cls := "RedoShelf", name := "checkpoint", desc := "()I" } : Jvm.MethodName)) ∈ gW := gW_in (tb_2 (List.mem_of_getElem? (i := 71) rfl)) rfl
theorem lw_2_72 : (Jvm.Cond.instanceMethod ({ cls := "RedoShelf", name := "checkpoint", desc := "()I" } : Jvm.MethodName)) ∈ gW := gW_in (tb_2 (List.mem_of_getElem? (i := 72) rfl)) rfl
theorem lw_2_73 : (Jvm.Cond.selects "RedoShelf" ({ cls := "RedoShelf", name := "checkpoint", desc := "()I" } : Jvm.MethodName) ({ cls := "RedoShelf", name := "checkpoint", desc := "()I" } : Jvm.MethodName)) ∈ gW := gW_in (tb_2 (List.mem_of_getElem? (i := 73) rfl)) rfl
theorem lw_2_74 : (Jvm.Cond.code ({ cls := "RedoShelf", name := "checkpoint", desc := "()I" } : Jvm.MethodName) prog_1_method_6_code (2 : Nat) (Option.some Jvm.ClassFile.FieldType.int)) ∈ gW := gW_in (tb_2 (List.mem_of_getElem? (i := 74) rfl)) rfl
theorem lw_2_8 : (Jvm.Cond.methodLink "RedoShelfLaw" (23 : Nat) ({ cls := "RedoShelf", name := "direct", desc := "(III)Z" } : Jvm.MethodName)) ∈ gW := gW_in (tb_2 (List.mem_of_getElem? (i := 8) rfl)) rfl
theorem lw_2_80 : (Jvm.Cond.methodLink "RedoShelfLaw" (36 : Nat) ({ cls := "RedoShelf", name := "recover", desc := "()I" } : Jvm.MethodName)) ∈ gW := gW_in (tb_2 (List.mem_of_getElem? (i := 80) rfl)) rfl
theorem lw_2_81 : (Jvm.Cond.instanceMethod ({ cls := "RedoShelf", name := "recover", desc := "()I" } : Jvm.MethodName)) ∈ gW := gW_in (tb_2 (List.mem_of_getElem? (i := 81) rfl)) rfl
theorem lw_2_82 : (Jvm.Cond.selects "RedoShelf" ({ cls := "RedoShelf", name := "recover", desc := "()I" } : Jvm.MethodName) ({ cls := "RedoShelf", name := "recover", desc := "()I" } : Jvm.MethodName)) ∈ gW := gW_in (tb_2 (List.mem_of_getElem? (i := 82) rfl)) rfl
theorem lw_2_83 : (Jvm.Cond.code ({ cls := "RedoShelf", name := "recover", desc := "()I" } : Jvm.MethodName) prog_1_method_7_code (3 : Nat) (Option.some Jvm.ClassFile.FieldType.int)) ∈ gW := gW_in (tb_2 (List.mem_of_getElem? (i := 83) rfl)) rfl
theorem lw_2_9 : (Jvm.Cond.instanceMethod ({ cls := "RedoShelf", name := "direct", desc := "(III)Z" } : Jvm.MethodName)) ∈ gW := gW_in (tb_2 (List.mem_of_getElem? (i := 9) rfl)) rfl
theorem lw_3_0 : (Jvm.Cond.instanceMethod ({ cls := "RedoShelf", name := "cached", desc := "()I" } : Jvm.MethodName)) ∈ gW := gW_in (tb_3 (List.mem_of_getElem? (i := 0) rfl)) rfl
theorem lw_3_1 : (Jvm.Cond.selects "RedoShelf" ({ cls := "RedoShelf", name := "cached", desc := "()I" } : Jvm.MethodName) ({ cls := "RedoShelf", name := "cached", desc := "()I" } : Jvm.MethodName)) ∈ gW := gW_in (tb_3 (List.mem_of_getElem? (i := 1) rfl)) rfl
theorem lw_3_10 : (Jvm.Cond.code ({ cls := "RedoShelf", name := "number", desc := "()I" } : Jvm.MethodName) prog_1_method_15_code (1 : Nat) (Option.some Jvm.ClassFile.FieldType.int)) ∈ gW := gW_in (tb_3 (List.mem_of_getElem? (i := 10) rfl)) rfl
theorem lw_3_100 : (Jvm.Cond.methodLink "RedoShelfLaw" (57 : Nat) ({ cls := "RedoShelfModel", name := "read", desc := "(II)I" } : Jvm.MethodName)) ∈ gW := gW_in (tb_3 (List.mem_of_getElem? (i := 100) rfl)) rfl
theorem lw_3_101 : (Jvm.Cond.instanceMethod ({ cls := "RedoShelfModel", name := "read", desc := "(II)I" } : Jvm.MethodName)) ∈ gW := gW_in (tb_3 (List.mem_of_getElem? (i := 101) rfl)) rfl
theorem lw_3_102 : (Jvm.Cond.selects "RedoShelfModel" ({ cls := "RedoShelfModel", name := "read", desc := "(II)I" } : Jvm.MethodName) ({ cls := "RedoShelfModel", name := "read", desc := "(II)I" } : Jvm.MethodName)) ∈ gW := gW_in (tb_3 (List.mem_of_getElem? (i := 102) rfl)) rfl
theorem lw_3_103 : (Jvm.Cond.code ({ cls := "RedoShelfModel", name := "read", desc := "(II)I" } : Jvm.MethodName) prog_8_method_2_code (5 : Nat) (Option.some Jvm.ClassFile.FieldType.int)) ∈ gW := gW_in (tb_3 (List.mem_of_getElem? (i := 103) rfl)) rfl
theorem lw_3_104 : (Jvm.Cond.methodLink "RedoShelfLaw" (61 : Nat) ({ cls := "RedoShelfModel", name := "stored", desc := "(II)I" } : Jvm.MethodName)) ∈ gW := gW_in (tb_3 (List.mem_of_getElem? (i := 104) rfl)) rfl
theorem lw_3_105 : (Jvm.Cond.instanceMethod ({ cls := "RedoShelfModel", name := "stored", desc := "(II)I" } : Jvm.MethodName)) ∈ gW := gW_in (tb_3 (List.mem_of_getElem? (i := 105) rfl)) rfl
theorem lw_3_106 : (Jvm.Cond.selects "RedoShelfModel" ({ cls := "RedoShelfModel", name := "stored", desc := "(II)I" } : Jvm.MethodName) ({ cls := "RedoShelfModel", name := "stored", desc := "(II)I" } : Jvm.MethodName)) ∈ gW := gW_in (tb_3 (List.mem_of_getElem? (i := 106) rfl)) rfl
theorem lw_3_107 : (Jvm.Cond.code ({ cls := "RedoShelfModel", name := "stored", desc := "(II)I" } : Jvm.MethodName) prog_8_method_3_code (3 : Nat) (Option.some Jvm.ClassFile.FieldType.int)) ∈ gW := gW_in (tb_3 (List.mem_of_getElem? (i := 107) rfl)) rfl
theorem lw_3_108 : (Jvm.Cond.methodLink "RedoShelfLaw" (65 : Nat) ({ cls := "RedoShelfModel", name := "cached", desc := "()I" } : Jvm.MethodName)) ∈ gW := gW_in (tb_3 (List.mem_of_getElem? (i := 108) rfl)) rfl
theorem lw_3_109 : (Jvm.Cond.instanceMethod ({ cls := "RedoShelfModel", name := "cached", desc := "()I" } : Jvm.MethodName)) ∈ gW := gW_in (tb_3 (List.mem_of_getElem? (i := 109) rfl)) rfl
theorem lw_3_11 : (Jvm.Cond.methodLink "RedoShelfLaw" (74 : Nat) ({ cls := "RedoShelf", name := "used", desc := "()I" } : Jvm.MethodName)) ∈ gW := gW_in (tb_3 (List.mem_of_getElem? (i := 11) rfl)) rfl
theorem lw_3_110 : (Jvm.Cond.selects "RedoShelfModel" ({ cls := "RedoShelfModel", name := "cached", desc := "()I" } : Jvm.MethodName) ({ cls := "RedoShelfModel", name := "cached", desc := "()I" } : Jvm.MethodName)) ∈ gW := gW_in (tb_3 (List.mem_of_getElem? (i := 110) rfl)) rfl
theorem lw_3_111 : (Jvm.Cond.code ({ cls := "RedoShelfModel", name := "cached", desc := "()I" } : Jvm.MethodName) prog_8_method_4_code (1 : Nat) (Option.some Jvm.ClassFile.FieldType.int)) ∈ gW := gW_in (tb_3 (List.mem_of_getElem? (i := 111) rfl)) rfl
theorem lw_3_112 : (Jvm.Cond.methodLink "RedoShelfLaw" (53 : Nat) ({ cls := "RedoShelfModel", name := "get", desc := "(II)I" } : Jvm.MethodName)) ∈ gW := gW_in (tb_3 (List.mem_of_getElem? (i := 112) rfl)) rfl
theorem lw_3_113 : (Jvm.Cond.instanceMethod ({ cls := "RedoShelfModel", name := "get", desc := "(II)I" } : Jvm.MethodName)) ∈ gW := gW_in (tb_3 (List.mem_of_getElem? (i := 113) rfl)) rfl
theorem lw_3_114 : (Jvm.Cond.selects "RedoShelfModel" ({ cls := "RedoShelfModel", name := "get", desc := "(II)I" } : Jvm.MethodName) ({ cls := "RedoShelfModel", name := "get", desc := "(II)I" } : Jvm.MethodName)) ∈ gW := gW_in (tb_3 (List.mem_of_getElem? (i := 114) rfl)) rfl
theorem lw_3_115 : (Jvm.Cond.code ({ cls := "RedoShelfModel", name := "get", desc := "(II)I" } : Jvm.MethodName) prog_8_method_13_code (3 : Nat) (Option.some Jvm.ClassFile.FieldType.int)) ∈ gW := gW_in (tb_3 (List.mem_of_getElem? (i := 115) rfl)) rfl
theorem lw_3_12 : (Jvm.Cond.instanceMethod ({ cls := "RedoShelf", name := "used", desc := "()I" } : Jvm.MethodName)) ∈ gW := gW_in (tb_3 (List.mem_of_getElem? (i := 12) rfl)) rfl
theorem lw_3_123 : (Jvm.Cond.methodLink "RedoShelfLaw" (17 : Nat) ({ cls := "RedoShelfModel", name := "put", desc := "(III)Z" } : Jvm.MethodName)) ∈ gW := gW_in (tb_3 (List.mem_of_getElem? (i := 123) rfl)) rfl
theorem lw_3_124 : (Jvm.Cond.instanceMethod ({ cls := "RedoShelfModel", name := "put", desc := "(III)Z" } : Jvm.MethodName)) ∈ gW := gW_in (tb_3 (List.mem_of_getElem? (i := 124) rfl)) rfl
theorem lw_3_125 : (Jvm.Cond.selects "RedoShelfModel" ({ cls := "RedoShelfModel", name := "put", desc := "(III)Z" } : Jvm.MethodName) ({ cls := "RedoShelfModel", name := "put", desc := "(III)Z" } : Jvm.MethodName)) ∈ gW := gW_in (tb_3 (List.mem_of_getElem? (i := 125) rfl)) rfl
theorem lw_3_126 : (Jvm.Cond.code ({ cls := "RedoShelfModel", name := "put", desc := "(III)Z" } : Jvm.MethodName) prog_8_method_15_code (5 : Nat) (Option.some Jvm.ClassFile.FieldType.boolean)) ∈ gW := gW_in (tb_3 (List.mem_of_getElem? (i := 126) rfl)) rfl
theorem lw_3_13 : (Jvm.Cond.selects "RedoShelf" ({ cls := "RedoShelf", name := "used", desc := "()I" } : Jvm.MethodName) ({ cls := "RedoShelf", name := "used", desc := "()I" } : Jvm.MethodName)) ∈ gW := gW_in (tb_3 (List.mem_of_getElem? (i := 13) rfl)) rfl
theorem lw_3_136 : (Jvm.Cond.methodLink "RedoShelfLaw" (22 : Nat) ({ cls := "RedoShelfModel", name := "revoke", desc := "(I)Z" } : Jvm.MethodName)) ∈ gW := gW_in (tb_3 (List.mem_of_getElem? (i := 136) rfl)) rfl
theorem lw_3_137 : (Jvm.Cond.instanceMethod ({ cls := "RedoShelfModel", name := "revoke", desc := "(I)Z" } : Jvm.MethodName)) ∈ gW := gW_in (tb_3 (List.mem_of_getElem? (i := 137) rfl)) rfl
theorem lw_3_138 : (Jvm.Cond.selects "RedoShelfModel" ({ cls := "RedoShelfModel", name := "revoke", desc := "(I)Z" } : Jvm.MethodName) ({ cls := "RedoShelfModel", name := "revoke", desc := "(I)Z" } : Jvm.MethodName)) ∈ gW := gW_in (tb_3 (List.mem_of_getElem? (i := 138) rfl)) rfl
theorem lw_3_139 : (Jvm.Cond.code ({ cls := "RedoShelfModel", name := "revoke", desc := "(I)Z" } : Jvm.MethodName) prog_8_method_16_code (2 : Nat) (Option.some Jvm.ClassFile.FieldType.boolean)) ∈ gW := gW_in (tb_3 (List.mem_of_getElem? (i := 139) rfl)) rfl
theorem lw_3_14 : (Jvm.Cond.code ({ cls := "RedoShelf", name := "used", desc := "()I" } : Jvm.MethodName) prog_1_method_16_code (1 : Nat) (Option.some Jvm.ClassFile.FieldType.int)) ∈ gW := gW_in (tb_3 (List.mem_of_getElem? (i := 14) rfl)) rfl
theorem lw_3_140 : (Jvm.Cond.methodLink "RedoShelfLaw" (26 : Nat) ({ cls := "RedoShelfModel", name := "direct", desc := "(III)Z" } : Jvm.MethodName)) ∈ gW := gW_in (tb_3 (List.mem_of_getElem? (i := 140) rfl)) rfl
theorem lw_3_141 : (Jvm.Cond.instanceMethod ({ cls := "RedoShelfModel", name := "direct", desc := "(III)Z" } : Jvm.MethodName)) ∈ gW := gW_in (tb_3 (List.mem_of_getElem? (i := 141) rfl)) rfl
theorem lw_3_142 : (Jvm.Cond.selects "RedoShelfModel" ({ cls := "RedoShelfModel", name := "direct", desc := "(III)Z" } : Jvm.MethodName) ({ cls := "RedoShelfModel", name := "direct", desc := "(III)Z" } : Jvm.MethodName)) ∈ gW := gW_in (tb_3 (List.mem_of_getElem? (i := 142) rfl)) rfl
theorem lw_3_143 : (Jvm.Cond.code ({ cls := "RedoShelfModel", name := "direct", desc := "(III)Z" } : Jvm.MethodName) prog_8_method_17_code (5 : Nat) (Option.some Jvm.ClassFile.FieldType.boolean)) ∈ gW := gW_in (tb_3 (List.mem_of_getElem? (i := 143) rfl)) rfl
theorem lw_3_148 : (Jvm.Cond.methodLink "RedoShelfLaw" (81 : Nat) ({ cls := "RedoShelfModel", name := "changed", desc := "(I)I" } : Jvm.MethodName)) ∈ gW := gW_in (tb_3 (List.mem_of_getElem? (i := 148) rfl)) rfl
theorem lw_3_149 : (Jvm.Cond.instanceMethod ({ cls := "RedoShelfModel", name := "changed", desc := "(I)I" } : Jvm.MethodName)) ∈ gW := gW_in (tb_3 (List.mem_of_getElem? (i := 149) rfl)) rfl
theorem lw_3_15 : (Jvm.Cond.methodLink "RedoShelfLaw" (78 : Nat) ({ cls := "RedoShelf", name := "changed", desc := "(I)I" } : Jvm.MethodName)) ∈ gW := gW_in (tb_3 (List.mem_of_getElem? (i := 15) rfl)) rfl
theorem lw_3_150 : (Jvm.Cond.selects "RedoShelfModel" ({ cls := "RedoShelfModel", name := "changed", desc := "(I)I" } : Jvm.MethodName) ({ cls := "RedoShelfModel", name := "changed", desc := "(I)I" } : Jvm.MethodName)) ∈ gW := gW_in (tb_3 (List.mem_of_getElem? (i := 150) rfl)) rfl
theorem lw_3_151 : (Jvm.Cond.code ({ cls := "RedoShelfModel", name := "changed", desc := "(I)I" } : Jvm.MethodName) prog_8_method_18_code (2 : Nat) (Option.some Jvm.ClassFile.FieldType.int)) ∈ gW := gW_in (tb_3 (List.mem_of_getElem? (i := 151) rfl)) rfl
theorem lw_3_152 : (Jvm.Cond.methodLink "RedoShelfLaw" (31 : Nat) ({ cls := "RedoShelfModel", name := "commit", desc := "()I" } : Jvm.MethodName)) ∈ gW := gW_in (tb_3 (List.mem_of_getElem? (i := 152) rfl)) rfl
theorem lw_3_153 : (Jvm.Cond.instanceMethod ({ cls := "RedoShelfModel", name := "commit", desc := "()I" } : Jvm.MethodName)) ∈ gW := gW_in (tb_3 (List.mem_of_getElem? (i := 153) rfl)) rfl
theorem lw_3_154 : (Jvm.Cond.selects "RedoShelfModel" ({ cls := "RedoShelfModel", name := "commit", desc := "()I" } : Jvm.MethodName) ({ cls := "RedoShelfModel", name := "commit", desc := "()I" } : Jvm.MethodName)) ∈ gW := gW_in (tb_3 (List.mem_of_getElem? (i := 154) rfl)) rfl
theorem lw_3_155 : (Jvm.Cond.code ({ cls := "RedoShelfModel", name := "commit", desc := "()I" } : Jvm.MethodName) prog_8_method_25_code (2 : Nat) (Option.some Jvm.ClassFile.FieldType.int)) ∈ gW := gW_in (tb_3 (List.mem_of_getElem? (i := 155) rfl)) rfl
theorem lw_3_16 : (Jvm.Cond.instanceMethod ({ cls := "RedoShelf", name := "changed", desc := "(I)I" } : Jvm.MethodName)) ∈ gW := gW_in (tb_3 (List.mem_of_getElem? (i := 16) rfl)) rfl
theorem lw_3_160 : (Jvm.Cond.methodLink "RedoShelfLaw" (35 : Nat) ({ cls := "RedoShelfModel", name := "checkpoint", desc := "()I" } : Jvm.MethodName)) ∈ gW := gW_in (tb_3 (List.mem_of_getElem? (i := 160) rfl)) rfl
theorem lw_3_161 : (Jvm.Cond.instanceMethod ({ cls := "RedoShelfModel", name := "checkpoint", desc := "()I" } : Jvm.MethodName)) ∈ gW := gW_in (tb_3 (List.mem_of_getElem? (i := 161) rfl)) rfl
theorem lw_3_162 : (Jvm.Cond.selects "RedoShelfModel" ({ cls := "RedoShelfModel", name := "checkpoint", desc := "()I" } : Jvm.MethodName) ({ cls := "RedoShelfModel", name := "checkpoint", desc := "()I" } : Jvm.MethodName)) ∈ gW := gW_in (tb_3 (List.mem_of_getElem? (i := 162) rfl)) rfl
theorem lw_3_163 : (Jvm.Cond.code ({ cls := "RedoShelfModel", name := "checkpoint", desc := "()I" } : Jvm.MethodName) prog_8_method_29_code (1 : Nat) (Option.some Jvm.ClassFile.FieldType.int)) ∈ gW := gW_in (tb_3 (List.mem_of_getElem? (i := 163) rfl)) rfl
theorem lw_3_168 : (Jvm.Cond.methodLink "RedoShelfLaw" (39 : Nat) ({ cls := "RedoShelfModel", name := "recover", desc := "()I" } : Jvm.MethodName)) ∈ gW := gW_in (tb_3 (List.mem_of_getElem? (i := 168) rfl)) rfl
theorem lw_3_169 : (Jvm.Cond.instanceMethod ({ cls := "RedoShelfModel", name := "recover", desc := "()I" } : Jvm.MethodName)) ∈ gW := gW_in (tb_3 (List.mem_of_getElem? (i := 169) rfl)) rfl
theorem lw_3_17 : (Jvm.Cond.selects "RedoShelf" ({ cls := "RedoShelf", name := "changed", desc := "(I)I" } : Jvm.MethodName) ({ cls := "RedoShelf", name := "changed", desc := "(I)I" } : Jvm.MethodName)) ∈ gW := gW_in (tb_3 (List.mem_of_getElem? (i := 17) rfl)) rfl
theorem lw_3_170 : (Jvm.Cond.selects "RedoShelfModel" ({ cls := "RedoShelfModel", name := "recover", desc := "()I" } : Jvm.MethodName) ({ cls := "RedoShelfModel", name := "recover", desc := "()I" } : Jvm.MethodName)) ∈ gW := gW_in (tb_3 (List.mem_of_getElem? (i := 170) rfl)) rfl
theorem lw_3_171 : (Jvm.Cond.code ({ cls := "RedoShelfModel", name := "recover", desc := "()I" } : Jvm.MethodName) prog_8_method_39_code (1 : Nat) (Option.some Jvm.ClassFile.FieldType.int)) ∈ gW := gW_in (tb_3 (List.mem_of_getElem? (i := 171) rfl)) rfl
theorem lw_3_18 : (Jvm.Cond.code ({ cls := "RedoShelf", name := "changed", desc := "(I)I" } : Jvm.MethodName) prog_1_method_17_code (3 : Nat) (Option.some Jvm.ClassFile.FieldType.int)) ∈ gW := gW_in (tb_3 (List.mem_of_getElem? (i := 18) rfl)) rfl
theorem lw_3_19 : (Jvm.Cond.methodLink "RedoShelfLaw" (82 : Nat) ({ cls := "RedoShelf", name := "left", desc := "()I" } : Jvm.MethodName)) ∈ gW := gW_in (tb_3 (List.mem_of_getElem? (i := 19) rfl)) rfl
theorem lw_3_2 : (Jvm.Cond.code ({ cls := "RedoShelf", name := "cached", desc := "()I" } : Jvm.MethodName) prog_1_method_13_code (1 : Nat) (Option.some Jvm.ClassFile.FieldType.int)) ∈ gW := gW_in (tb_3 (List.mem_of_getElem? (i := 2) rfl)) rfl
theorem lw_3_20 : (Jvm.Cond.instanceMethod ({ cls := "RedoShelf", name := "left", desc := "()I" } : Jvm.MethodName)) ∈ gW := gW_in (tb_3 (List.mem_of_getElem? (i := 20) rfl)) rfl
theorem lw_3_208 : (Jvm.Cond.methodLink "RedoShelfLaw" (44 : Nat) ({ cls := "RedoShelfModel", name := "step", desc := "(I)I" } : Jvm.MethodName)) ∈ gW := gW_in (tb_3 (List.mem_of_getElem? (i := 208) rfl)) rfl
theorem lw_3_209 : (Jvm.Cond.instanceMethod ({ cls := "RedoShelfModel", name := "step", desc := "(I)I" } : Jvm.MethodName)) ∈ gW := gW_in (tb_3 (List.mem_of_getElem? (i := 209) rfl)) rfl
theorem lw_3_21 : (Jvm.Cond.selects "RedoShelf" ({ cls := "RedoShelf", name := "left", desc := "()I" } : Jvm.MethodName) ({ cls := "RedoShelf", name := "left", desc := "()I" } : Jvm.MethodName)) ∈ gW := gW_in (tb_3 (List.mem_of_getElem? (i := 21) rfl)) rfl
theorem lw_3_210 : (Jvm.Cond.selects "RedoShelfModel" ({ cls := "RedoShelfModel", name := "step", desc := "(I)I" } : Jvm.MethodName) ({ cls := "RedoShelfModel", name := "step", desc := "(I)I" } : Jvm.MethodName)) ∈ gW := gW_in (tb_3 (List.mem_of_getElem? (i := 210) rfl)) rfl
theorem lw_3_211 : (Jvm.Cond.code ({ cls := "RedoShelfModel", name := "step", desc := "(I)I" } : Jvm.MethodName) prog_8_method_43_code (3 : Nat) (Option.some Jvm.ClassFile.FieldType.int)) ∈ gW := gW_in (tb_3 (List.mem_of_getElem? (i := 211) rfl)) rfl
theorem lw_3_22 : (Jvm.Cond.code ({ cls := "RedoShelf", name := "left", desc := "()I" } : Jvm.MethodName) prog_1_method_18_code (1 : Nat) (Option.some Jvm.ClassFile.FieldType.int)) ∈ gW := gW_in (tb_3 (List.mem_of_getElem? (i := 22) rfl)) rfl
theorem lw_3_3 : (Jvm.Cond.methodLink "RedoShelfLaw" (66 : Nat) ({ cls := "RedoShelf", name := "state", desc := "()I" } : Jvm.MethodName)) ∈ gW := gW_in (tb_3 (List.mem_of_getElem? (i := 3) rfl)) rfl
theorem lw_3_4 : (Jvm.Cond.instanceMethod ({ cls := "RedoShelf", name := "state", desc := "()I" } : Jvm.MethodName)) ∈ gW := gW_in (tb_3 (List.mem_of_getElem? (i := 4) rfl)) rfl
theorem lw_3_5 : (Jvm.Cond.selects "RedoShelf" ({ cls := "RedoShelf", name := "state", desc := "()I" } : Jvm.MethodName) ({ cls := "RedoShelf", name := "state", desc := "()I" } : Jvm.MethodName)) ∈ gW := gW_in (tb_3 (List.mem_of_getElem? (i := 5) rfl)) rfl
theorem lw_3_6 : (Jvm.Cond.code ({ cls := "RedoShelf", name := "state", desc := "()I" } : Jvm.MethodName) prog_1_method_14_code (1 : Nat) (Option.some Jvm.ClassFile.FieldType.int)) ∈ gW := gW_in (tb_3 (List.mem_of_getElem? (i := 6) rfl)) rfl
theorem lw_3_7 : (Jvm.Cond.methodLink "RedoShelfLaw" (70 : Nat) ({ cls := "RedoShelf", name := "number", desc := "()I" } : Jvm.MethodName)) ∈ gW := gW_in (tb_3 (List.mem_of_getElem? (i := 7) rfl)) rfl
theorem lw_3_8 : (Jvm.Cond.instanceMethod ({ cls := "RedoShelf", name := "number", desc := "()I" } : Jvm.MethodName)) ∈ gW := gW_in (tb_3 (List.mem_of_getElem? (i := 8) rfl)) rfl
theorem lw_3_9 : (Jvm.Cond.selects "RedoShelf" ({ cls := "RedoShelf", name := "number", desc := "()I" } : Jvm.MethodName) ({ cls := "RedoShelf", name := "number", desc := "()I" } : Jvm.MethodName)) ∈ gW := gW_in (tb_3 (List.mem_of_getElem? (i := 9) rfl)) rfl
theorem lw_4_28 : (Jvm.Cond.methodLink "RedoShelfLaw" (49 : Nat) ({ cls := "RedoShelfModel", name := "crash", desc := "(II)I" } : Jvm.MethodName)) ∈ gW := gW_in (tb_4 (List.mem_of_getElem? (i := 28) rfl)) rfl
theorem lw_4_29 : (Jvm.Cond.instanceMethod ({ cls := "RedoShelfModel", name := "crash", desc := "(II)I" } : Jvm.MethodName)) ∈ gW := gW_in (tb_4 (List.mem_of_getElem? (i := 29) rfl)) rfl
theorem lw_4_30 : (Jvm.Cond.selects "RedoShelfModel" ({ cls := "RedoShelfModel", name := "crash", desc := "(II)I" } : Jvm.MethodName) ({ cls := "RedoShelfModel", name := "crash", desc := "(II)I" } : Jvm.MethodName)) ∈ gW := gW_in (tb_4 (List.mem_of_getElem? (i := 30) rfl)) rfl
theorem lw_4_31 : (Jvm.Cond.code ({ cls := "RedoShelfModel", name := "crash", desc := "(II)I" } : Jvm.MethodName) prog_8_method_44_code (7 : Nat) (Option.some Jvm.ClassFile.FieldType.int)) ∈ gW := gW_in (tb_4 (List.mem_of_getElem? (i := 31) rfl)) rfl
theorem lw_4_32 : (Jvm.Cond.methodLink "RedoShelfLaw" (69 : Nat) ({ cls := "RedoShelfModel", name := "state", desc := "()I" } : Jvm.MethodName)) ∈ gW := gW_in (tb_4 (List.mem_of_getElem? (i := 32) rfl)) rfl
theorem lw_4_33 : (Jvm.Cond.instanceMethod ({ cls := "RedoShelfModel", name := "state", desc := "()I" } : Jvm.MethodName)) ∈ gW := gW_in (tb_4 (List.mem_of_getElem? (i := 33) rfl)) rfl
theorem lw_4_34 : (Jvm.Cond.selects "RedoShelfModel" ({ cls := "RedoShelfModel", name := "state", desc := "()I" } : Jvm.MethodName) ({ cls := "RedoShelfModel", name := "state", desc := "()I" } : Jvm.MethodName)) ∈ gW := gW_in (tb_4 (List.mem_of_getElem? (i := 34) rfl)) rfl
theorem lw_4_35 : (Jvm.Cond.code ({ cls := "RedoShelfModel", name := "state", desc := "()I" } : Jvm.MethodName) prog_8_method_45_code (1 : Nat) (Option.some Jvm.ClassFile.FieldType.int)) ∈ gW := gW_in (tb_4 (List.mem_of_getElem? (i := 35) rfl)) rfl
theorem lw_4_36 : (Jvm.Cond.methodLink "RedoShelfLaw" (73 : Nat) ({ cls := "RedoShelfModel", name := "number", desc := "()I" } : Jvm.MethodName)) ∈ gW := gW_in (tb_4 (List.mem_of_getElem? (i := 36) rfl)) rfl
theorem lw_4_37 : (Jvm.Cond.instanceMethod ({ cls := "RedoShelfModel", name := "number", desc := "()I" } : Jvm.MethodName)) ∈ gW := gW_in (tb_4 (List.mem_of_getElem? (i := 37) rfl)) rfl
theorem lw_4_38 : (Jvm.Cond.selects "RedoShelfModel" ({ cls := "RedoShelfModel", name := "number", desc := "()I" } : Jvm.MethodName) ({ cls := "RedoShelfModel", name := "number", desc := "()I" } : Jvm.MethodName)) ∈ gW := gW_in (tb_4 (List.mem_of_getElem? (i := 38) rfl)) rfl
theorem lw_4_39 : (Jvm.Cond.code ({ cls := "RedoShelfModel", name := "number", desc := "()I" } : Jvm.MethodName) prog_8_method_46_code (1 : Nat) (Option.some Jvm.ClassFile.FieldType.int)) ∈ gW := gW_in (tb_4 (List.mem_of_getElem? (i := 39) rfl)) rfl
theorem lw_4_40 : (Jvm.Cond.methodLink "RedoShelfLaw" (77 : Nat) ({ cls := "RedoShelfModel", name := "used", desc := "()I" } : Jvm.MethodName)) ∈ gW := gW_in (tb_4 (List.mem_of_getElem? (i := 40) rfl)) rfl
theorem lw_4_41 : (Jvm.Cond.instanceMethod ({ cls := "RedoShelfModel", name := "used", desc := "()I" } : Jvm.MethodName)) ∈ gW := gW_in (tb_4 (List.mem_of_getElem? (i := 41) rfl)) rfl
theorem lw_4_42 : (Jvm.Cond.selects "RedoShelfModel" ({ cls := "RedoShelfModel", name := "used", desc := "()I" } : Jvm.MethodName) ({ cls := "RedoShelfModel", name := "used", desc := "()I" } : Jvm.MethodName)) ∈ gW := gW_in (tb_4 (List.mem_of_getElem? (i := 42) rfl)) rfl
theorem lw_4_43 : (Jvm.Cond.code ({ cls := "RedoShelfModel", name := "used", desc := "()I" } : Jvm.MethodName) prog_8_method_47_code (1 : Nat) (Option.some Jvm.ClassFile.FieldType.int)) ∈ gW := gW_in (tb_4 (List.mem_of_getElem? (i := 43) rfl)) rfl
theorem lw_4_44 : (Jvm.Cond.methodLink "RedoShelfLaw" (85 : Nat) ({ cls := "RedoShelfModel", name := "left", desc := "()I" } : Jvm.MethodName)) ∈ gW := gW_in (tb_4 (List.mem_of_getElem? (i := 44) rfl)) rfl
theorem lw_4_45 : (Jvm.Cond.instanceMethod ({ cls := "RedoShelfModel", name := "left", desc := "()I" } : Jvm.MethodName)) ∈ gW := gW_in (tb_4 (List.mem_of_getElem? (i := 45) rfl)) rfl
theorem lw_4_46 : (Jvm.Cond.selects "RedoShelfModel" ({ cls := "RedoShelfModel", name := "left", desc := "()I" } : Jvm.MethodName) ({ cls := "RedoShelfModel", name := "left", desc := "()I" } : Jvm.MethodName)) ∈ gW := gW_in (tb_4 (List.mem_of_getElem? (i := 46) rfl)) rfl
theorem lw_4_47 : (Jvm.Cond.code ({ cls := "RedoShelfModel", name := "left", desc := "()I" } : Jvm.MethodName) prog_8_method_48_code (1 : Nat) (Option.some Jvm.ClassFile.FieldType.int)) ∈ gW := gW_in (tb_4 (List.mem_of_getElem? (i := 47) rfl)) rfl
theorem lv_MD_cached : VL M_MD_cached 65 0 := ⟨by decide +kernel, lw_3_111, lw_1_7, ⟨by decide +kernel, by decide +kernel, by decide +kernel⟩, ⟨by decide, by decide⟩, lw_3_108⟩
theorem lv_MD_changed : VL M_MD_changed 81 1 := ⟨by decide +kernel, lw_3_151, lw_1_7, ⟨by decide +kernel, by decide +kernel, by decide +kernel⟩, ⟨by decide, by decide⟩, lw_3_148⟩
theorem lv_MD_checkpoint : VL M_MD_checkpoint 35 0 := ⟨by decide +kernel, lw_3_163, lw_1_7, ⟨by decide +kernel, by decide +kernel, by decide +kernel⟩, ⟨by decide, by decide⟩, lw_3_160⟩
theorem lv_MD_commit : VL M_MD_commit 31 0 := ⟨by decide +kernel, lw_3_155, lw_1_7, ⟨by decide +kernel, by decide +kernel, by decide +kernel⟩, ⟨by decide, by decide⟩, lw_3_152⟩
theorem lv_MD_crash : VL M_MD_crash 49 2 := ⟨by decide +kernel, lw_4_31, lw_1_7, ⟨by decide +kernel, by decide +kernel, by decide +kernel⟩, ⟨by decide, by decide⟩, lw_4_28⟩
theorem lv_MD_direct : VL M_MD_direct 26 3 := ⟨by decide +kernel, lw_3_143, lw_1_7, ⟨by decide +kernel, by decide +kernel, by decide +kernel⟩, ⟨by decide, by decide⟩, lw_3_140⟩
theorem lv_MD_get : VL M_MD_get 53 2 := ⟨by decide +kernel, lw_3_115, lw_1_7, ⟨by decide +kernel, by decide +kernel, by decide +kernel⟩, ⟨by decide, by decide⟩, lw_3_112⟩
theorem lv_MD_left : VL M_MD_left 85 0 := ⟨by decide +kernel, lw_4_47, lw_1_7, ⟨by decide +kernel, by decide +kernel, by decide +kernel⟩, ⟨by decide, by decide⟩, lw_4_44⟩
theorem lv_MD_number : VL M_MD_number 73 0 := ⟨by decide +kernel, lw_4_39, lw_1_7, ⟨by decide +kernel, by decide +kernel, by decide +kernel⟩, ⟨by decide, by decide⟩, lw_4_36⟩
theorem lv_MD_put : VL M_MD_put 17 3 := ⟨by decide +kernel, lw_3_126, lw_1_7, ⟨by decide +kernel, by decide +kernel, by decide +kernel⟩, ⟨by decide, by decide⟩, lw_3_123⟩
theorem lv_MD_read : VL M_MD_read 57 2 := ⟨by decide +kernel, lw_3_103, lw_1_7, ⟨by decide +kernel, by decide +kernel, by decide +kernel⟩, ⟨by decide, by decide⟩, lw_3_100⟩
theorem lv_MD_recover : VL M_MD_recover 39 0 := ⟨by decide +kernel, lw_3_171, lw_1_7, ⟨by decide +kernel, by decide +kernel, by decide +kernel⟩, ⟨by decide, by decide⟩, lw_3_168⟩
theorem lv_MD_revoke : VL M_MD_revoke 22 1 := ⟨by decide +kernel, lw_3_139, lw_1_7, ⟨by decide +kernel, by decide +kernel, by decide +kernel⟩, ⟨by decide, by decide⟩, lw_3_136⟩
theorem lv_MD_state : VL M_MD_state 69 0 := ⟨by decide +kernel, lw_4_35, lw_1_7, ⟨by decide +kernel, by decide +kernel, by decide +kernel⟩, ⟨by decide, by decide⟩, lw_4_32⟩
theorem lv_MD_step : VL M_MD_step 44 1 := ⟨by decide +kernel, lw_3_211, lw_1_7, ⟨by decide +kernel, by decide +kernel, by decide +kernel⟩, ⟨by decide, by decide⟩, lw_3_208⟩
theorem lv_MD_stored : VL M_MD_stored 61 2 := ⟨by decide +kernel, lw_3_107, lw_1_7, ⟨by decide +kernel, by decide +kernel, by decide +kernel⟩, ⟨by decide, by decide⟩, lw_3_104⟩
theorem lv_MD_used : VL M_MD_used 77 0 := ⟨by decide +kernel, lw_4_43, lw_1_7, ⟨by decide +kernel, by decide +kernel, by decide +kernel⟩, ⟨by decide, by decide⟩, lw_4_40⟩
theorem lv_RS_cached : VL M_RS_cached 62 0 := ⟨by decide +kernel, lw_3_2, lw_1_1, ⟨by decide +kernel, by decide +kernel, by decide +kernel⟩, ⟨by decide, by decide⟩, lw_2_239⟩
theorem lv_RS_changed : VL M_RS_changed 78 1 := ⟨by decide +kernel, lw_3_18, lw_1_1, ⟨by decide +kernel, by decide +kernel, by decide +kernel⟩, ⟨by decide, by decide⟩, lw_3_15⟩
theorem lv_RS_checkpoint : VL M_RS_checkpoint 32 0 := ⟨by decide +kernel, lw_2_74, lw_1_1, ⟨by decide +kernel, by decide +kernel, by decide +kernel⟩, ⟨by decide, by decide⟩, lw_2_71⟩
theorem lv_RS_commit : VL M_RS_commit 27 0 := ⟨by decide +kernel, lw_2_24, lw_1_1, ⟨by decide +kernel, by decide +kernel, by decide +kernel⟩, ⟨by decide, by decide⟩, lw_2_21⟩
theorem lv_RS_crash : VL M_RS_crash 45 2 := ⟨by decide +kernel, lw_2_215, lw_1_1, ⟨by decide +kernel, by decide +kernel, by decide +kernel⟩, ⟨by decide, by decide⟩, lw_2_212⟩
theorem lv_RS_direct : VL M_RS_direct 23 3 := ⟨by decide +kernel, lw_2_11, lw_1_1, ⟨by decide +kernel, by decide +kernel, by decide +kernel⟩, ⟨by decide, by decide⟩, lw_2_8⟩
theorem lv_RS_get : VL M_RS_get 50 2 := ⟨by decide +kernel, lw_2_226, lw_1_1, ⟨by decide +kernel, by decide +kernel, by decide +kernel⟩, ⟨by decide, by decide⟩, lw_2_223⟩
theorem lv_RS_left : VL M_RS_left 82 0 := ⟨by decide +kernel, lw_3_22, lw_1_1, ⟨by decide +kernel, by decide +kernel, by decide +kernel⟩, ⟨by decide, by decide⟩, lw_3_19⟩
theorem lv_RS_number : VL M_RS_number 70 0 := ⟨by decide +kernel, lw_3_10, lw_1_1, ⟨by decide +kernel, by decide +kernel, by decide +kernel⟩, ⟨by decide, by decide⟩, lw_3_7⟩
theorem lv_RS_put : VL M_RS_put 13 3 := ⟨by decide +kernel, lw_1_189, lw_1_1, ⟨by decide +kernel, by decide +kernel, by decide +kernel⟩, ⟨by decide, by decide⟩, lw_1_186⟩
theorem lv_RS_read : VL M_RS_read 54 2 := ⟨by decide +kernel, lw_2_230, lw_1_1, ⟨by decide +kernel, by decide +kernel, by decide +kernel⟩, ⟨by decide, by decide⟩, lw_2_227⟩
theorem lv_RS_recover : VL M_RS_recover 36 0 := ⟨by decide +kernel, lw_2_83, lw_1_1, ⟨by decide +kernel, by decide +kernel, by decide +kernel⟩, ⟨by decide, by decide⟩, lw_2_80⟩
theorem lv_RS_revoke : VL M_RS_revoke 18 1 := ⟨by decide +kernel, lw_2_3, lw_1_1, ⟨by decide +kernel, by decide +kernel, by decide +kernel⟩, ⟨by decide, by decide⟩, lw_2_0⟩
theorem lv_RS_state : VL M_RS_state 66 0 := ⟨by decide +kernel, lw_3_6, lw_1_1, ⟨by decide +kernel, by decide +kernel, by decide +kernel⟩, ⟨by decide, by decide⟩, lw_3_3⟩
theorem lv_RS_step : VL M_RS_step 40 1 := ⟨by decide +kernel, lw_2_158, lw_1_1, ⟨by decide +kernel, by decide +kernel, by decide +kernel⟩, ⟨by decide, by decide⟩, lw_2_155⟩
theorem lv_RS_stored : VL M_RS_stored 58 2 := ⟨by decide +kernel, lw_2_237, lw_1_1, ⟨by decide +kernel, by decide +kernel, by decide +kernel⟩, ⟨by decide, by decide⟩, lw_2_234⟩
theorem lv_RS_used : VL M_RS_used 74 0 := ⟨by decide +kernel, lw_3_14, lw_1_1, ⟨by decide +kernel, by decide +kernel, by decide +kernel⟩, ⟨by decide, by decide⟩, lw_3_11⟩
theorem lc_1 : Int32.ofInt ((1 : Nat) : Int) = nI 1 := by decide +kernel
theorem lc_2 : Int32.ofInt ((2 : Nat) : Int) = nI 2 := by decide +kernel
theorem lc_3 : Int32.ofInt ((3 : Nat) : Int) = nI 3 := by decide +kernel
theorem dl_0 : decode code 0 = .ok (.new 7, 3) := by decide +kernel
theorem dl_3 : decode code 3 = .ok (.dup, 1) := by decide +kernel
theorem dl_4 : decode code 4 = .ok (.invokespecial 9, 3) := by decide +kernel
theorem dl_7 : decode code 7 = .ok (.astore_n 1, 1) := by decide +kernel
theorem dl_8 : decode code 8 = .ok (.new 10, 3) := by decide +kernel
theorem dl_11 : decode code 11 = .ok (.dup, 1) := by decide +kernel
theorem dl_12 : decode code 12 = .ok (.invokespecial 12, 3) := by decide +kernel
theorem dl_15 : decode code 15 = .ok (.astore_n 2, 1) := by decide +kernel
theorem dl_16 : decode code 16 = .ok (.iconst 0, 1) := by decide +kernel
theorem dl_17 : decode code 17 = .ok (.istore_n 3, 1) := by decide +kernel
theorem dl_18 : decode code 18 = .ok (.iload_n 3, 1) := by decide +kernel
theorem dl_19 : decode code 19 = .ok (.aload_n 0, 1) := by decide +kernel
theorem dl_20 : decode code 20 = .ok (.arraylength, 1) := by decide +kernel
theorem dl_21 : decode code 21 = .ok (.iconst 4, 1) := by decide +kernel
theorem dl_22 : decode code 22 = .ok (.isub, 1) := by decide +kernel
theorem dl_23 : decode code 23 = .ok (.if_icmp .gt 490, 3) := by decide +kernel
theorem dl_26 : decode code 26 = .ok (.aload_n 0, 1) := by decide +kernel
theorem dl_27 : decode code 27 = .ok (.iload_n 3, 1) := by decide +kernel
theorem dl_28 : decode code 28 = .ok (.iaload, 1) := by decide +kernel
theorem dl_29 : decode code 29 = .ok (.bipush 31, 2) := by decide +kernel
theorem dl_31 : decode code 31 = .ok (.iand, 1) := by decide +kernel
theorem dl_32 : decode code 32 = .ok (.tableswitch 475 0 16 #[84, 127, 150, 193, 206, 219, 232, 255, 288, 321, 354, 387, 400, 413, 426, 439, 462], 84) := by decide +kernel
theorem dl_116 : decode code 116 = .ok (.aload_n 1, 1) := by decide +kernel
theorem dl_117 : decode code 117 = .ok (.aload_n 0, 1) := by decide +kernel
theorem dl_118 : decode code 118 = .ok (.iload_n 3, 1) := by decide +kernel
theorem dl_119 : decode code 119 = .ok (.iconst 1, 1) := by decide +kernel
theorem dl_120 : decode code 120 = .ok (.iadd, 1) := by decide +kernel
theorem dl_121 : decode code 121 = .ok (.iaload, 1) := by decide +kernel
theorem dl_122 : decode code 122 = .ok (.aload_n 0, 1) := by decide +kernel
theorem dl_123 : decode code 123 = .ok (.iload_n 3, 1) := by decide +kernel
theorem dl_124 : decode code 124 = .ok (.iconst 2, 1) := by decide +kernel
theorem dl_125 : decode code 125 = .ok (.iadd, 1) := by decide +kernel
theorem dl_126 : decode code 126 = .ok (.iaload, 1) := by decide +kernel
theorem dl_127 : decode code 127 = .ok (.aload_n 0, 1) := by decide +kernel
theorem dl_128 : decode code 128 = .ok (.iload_n 3, 1) := by decide +kernel
theorem dl_129 : decode code 129 = .ok (.iconst 3, 1) := by decide +kernel
theorem dl_130 : decode code 130 = .ok (.iadd, 1) := by decide +kernel
theorem dl_131 : decode code 131 = .ok (.iaload, 1) := by decide +kernel
theorem dl_132 : decode code 132 = .ok (.invokevirtual 13, 3) := by decide +kernel
theorem dl_135 : decode code 135 = .ok (.aload_n 2, 1) := by decide +kernel
theorem dl_136 : decode code 136 = .ok (.aload_n 0, 1) := by decide +kernel
theorem dl_137 : decode code 137 = .ok (.iload_n 3, 1) := by decide +kernel
theorem dl_138 : decode code 138 = .ok (.iconst 1, 1) := by decide +kernel
theorem dl_139 : decode code 139 = .ok (.iadd, 1) := by decide +kernel
theorem dl_140 : decode code 140 = .ok (.iaload, 1) := by decide +kernel
theorem dl_141 : decode code 141 = .ok (.aload_n 0, 1) := by decide +kernel
theorem dl_142 : decode code 142 = .ok (.iload_n 3, 1) := by decide +kernel
theorem dl_143 : decode code 143 = .ok (.iconst 2, 1) := by decide +kernel
theorem dl_144 : decode code 144 = .ok (.iadd, 1) := by decide +kernel
theorem dl_145 : decode code 145 = .ok (.iaload, 1) := by decide +kernel
theorem dl_146 : decode code 146 = .ok (.aload_n 0, 1) := by decide +kernel
theorem dl_147 : decode code 147 = .ok (.iload_n 3, 1) := by decide +kernel
theorem dl_148 : decode code 148 = .ok (.iconst 3, 1) := by decide +kernel
theorem dl_149 : decode code 149 = .ok (.iadd, 1) := by decide +kernel
theorem dl_150 : decode code 150 = .ok (.iaload, 1) := by decide +kernel
theorem dl_151 : decode code 151 = .ok (.invokevirtual 17, 3) := by decide +kernel
theorem dl_154 : decode code 154 = .ok (.if_icmp .eq 353, 3) := by decide +kernel
theorem dl_157 : decode code 157 = .ok (.iconst 0, 1) := by decide +kernel
theorem dl_158 : decode code 158 = .ok (.ireturn, 1) := by decide +kernel
theorem dl_159 : decode code 159 = .ok (.aload_n 1, 1) := by decide +kernel
theorem dl_160 : decode code 160 = .ok (.aload_n 0, 1) := by decide +kernel
theorem dl_161 : decode code 161 = .ok (.iload_n 3, 1) := by decide +kernel
theorem dl_162 : decode code 162 = .ok (.iconst 1, 1) := by decide +kernel
theorem dl_163 : decode code 163 = .ok (.iadd, 1) := by decide +kernel
theorem dl_164 : decode code 164 = .ok (.iaload, 1) := by decide +kernel
theorem dl_165 : decode code 165 = .ok (.invokevirtual 18, 3) := by decide +kernel
theorem dl_168 : decode code 168 = .ok (.aload_n 2, 1) := by decide +kernel
theorem dl_169 : decode code 169 = .ok (.aload_n 0, 1) := by decide +kernel
theorem dl_170 : decode code 170 = .ok (.iload_n 3, 1) := by decide +kernel
theorem dl_171 : decode code 171 = .ok (.iconst 1, 1) := by decide +kernel
theorem dl_172 : decode code 172 = .ok (.iadd, 1) := by decide +kernel
theorem dl_173 : decode code 173 = .ok (.iaload, 1) := by decide +kernel
theorem dl_174 : decode code 174 = .ok (.invokevirtual 22, 3) := by decide +kernel
theorem dl_177 : decode code 177 = .ok (.if_icmp .eq 330, 3) := by decide +kernel
theorem dl_180 : decode code 180 = .ok (.iconst 0, 1) := by decide +kernel
theorem dl_181 : decode code 181 = .ok (.ireturn, 1) := by decide +kernel
theorem dl_182 : decode code 182 = .ok (.aload_n 1, 1) := by decide +kernel
theorem dl_183 : decode code 183 = .ok (.aload_n 0, 1) := by decide +kernel
theorem dl_184 : decode code 184 = .ok (.iload_n 3, 1) := by decide +kernel
theorem dl_185 : decode code 185 = .ok (.iconst 1, 1) := by decide +kernel
theorem dl_186 : decode code 186 = .ok (.iadd, 1) := by decide +kernel
theorem dl_187 : decode code 187 = .ok (.iaload, 1) := by decide +kernel
theorem dl_188 : decode code 188 = .ok (.aload_n 0, 1) := by decide +kernel
theorem dl_189 : decode code 189 = .ok (.iload_n 3, 1) := by decide +kernel
theorem dl_190 : decode code 190 = .ok (.iconst 2, 1) := by decide +kernel
theorem dl_191 : decode code 191 = .ok (.iadd, 1) := by decide +kernel
theorem dl_192 : decode code 192 = .ok (.iaload, 1) := by decide +kernel
theorem dl_193 : decode code 193 = .ok (.aload_n 0, 1) := by decide +kernel
theorem dl_194 : decode code 194 = .ok (.iload_n 3, 1) := by decide +kernel
theorem dl_195 : decode code 195 = .ok (.iconst 3, 1) := by decide +kernel
theorem dl_196 : decode code 196 = .ok (.iadd, 1) := by decide +kernel
theorem dl_197 : decode code 197 = .ok (.iaload, 1) := by decide +kernel
theorem dl_198 : decode code 198 = .ok (.invokevirtual 23, 3) := by decide +kernel
theorem dl_201 : decode code 201 = .ok (.aload_n 2, 1) := by decide +kernel
theorem dl_202 : decode code 202 = .ok (.aload_n 0, 1) := by decide +kernel
theorem dl_203 : decode code 203 = .ok (.iload_n 3, 1) := by decide +kernel
theorem dl_204 : decode code 204 = .ok (.iconst 1, 1) := by decide +kernel
theorem dl_205 : decode code 205 = .ok (.iadd, 1) := by decide +kernel
theorem dl_206 : decode code 206 = .ok (.iaload, 1) := by decide +kernel
theorem dl_207 : decode code 207 = .ok (.aload_n 0, 1) := by decide +kernel
theorem dl_208 : decode code 208 = .ok (.iload_n 3, 1) := by decide +kernel
theorem dl_209 : decode code 209 = .ok (.iconst 2, 1) := by decide +kernel
theorem dl_210 : decode code 210 = .ok (.iadd, 1) := by decide +kernel
theorem dl_211 : decode code 211 = .ok (.iaload, 1) := by decide +kernel
theorem dl_212 : decode code 212 = .ok (.aload_n 0, 1) := by decide +kernel
theorem dl_213 : decode code 213 = .ok (.iload_n 3, 1) := by decide +kernel
theorem dl_214 : decode code 214 = .ok (.iconst 3, 1) := by decide +kernel
theorem dl_215 : decode code 215 = .ok (.iadd, 1) := by decide +kernel
theorem dl_216 : decode code 216 = .ok (.iaload, 1) := by decide +kernel
theorem dl_217 : decode code 217 = .ok (.invokevirtual 26, 3) := by decide +kernel
theorem dl_220 : decode code 220 = .ok (.if_icmp .eq 287, 3) := by decide +kernel
theorem dl_223 : decode code 223 = .ok (.iconst 0, 1) := by decide +kernel
theorem dl_224 : decode code 224 = .ok (.ireturn, 1) := by decide +kernel
theorem dl_225 : decode code 225 = .ok (.aload_n 1, 1) := by decide +kernel
theorem dl_226 : decode code 226 = .ok (.invokevirtual 27, 3) := by decide +kernel
theorem dl_229 : decode code 229 = .ok (.aload_n 2, 1) := by decide +kernel
theorem dl_230 : decode code 230 = .ok (.invokevirtual 31, 3) := by decide +kernel
theorem dl_233 : decode code 233 = .ok (.if_icmp .eq 274, 3) := by decide +kernel
theorem dl_236 : decode code 236 = .ok (.iconst 0, 1) := by decide +kernel
theorem dl_237 : decode code 237 = .ok (.ireturn, 1) := by decide +kernel
theorem dl_238 : decode code 238 = .ok (.aload_n 1, 1) := by decide +kernel
theorem dl_239 : decode code 239 = .ok (.invokevirtual 32, 3) := by decide +kernel
theorem dl_242 : decode code 242 = .ok (.aload_n 2, 1) := by decide +kernel
theorem dl_243 : decode code 243 = .ok (.invokevirtual 35, 3) := by decide +kernel
theorem dl_246 : decode code 246 = .ok (.if_icmp .eq 261, 3) := by decide +kernel
theorem dl_249 : decode code 249 = .ok (.iconst 0, 1) := by decide +kernel
theorem dl_250 : decode code 250 = .ok (.ireturn, 1) := by decide +kernel
theorem dl_251 : decode code 251 = .ok (.aload_n 1, 1) := by decide +kernel
theorem dl_252 : decode code 252 = .ok (.invokevirtual 36, 3) := by decide +kernel
theorem dl_255 : decode code 255 = .ok (.aload_n 2, 1) := by decide +kernel
theorem dl_256 : decode code 256 = .ok (.invokevirtual 39, 3) := by decide +kernel
theorem dl_259 : decode code 259 = .ok (.if_icmp .eq 248, 3) := by decide +kernel
theorem dl_262 : decode code 262 = .ok (.iconst 0, 1) := by decide +kernel
theorem dl_263 : decode code 263 = .ok (.ireturn, 1) := by decide +kernel
theorem dl_264 : decode code 264 = .ok (.aload_n 1, 1) := by decide +kernel
theorem dl_265 : decode code 265 = .ok (.aload_n 0, 1) := by decide +kernel
theorem dl_266 : decode code 266 = .ok (.iload_n 3, 1) := by decide +kernel
theorem dl_267 : decode code 267 = .ok (.iconst 1, 1) := by decide +kernel
theorem dl_268 : decode code 268 = .ok (.iadd, 1) := by decide +kernel
theorem dl_269 : decode code 269 = .ok (.iaload, 1) := by decide +kernel
theorem dl_270 : decode code 270 = .ok (.invokevirtual 40, 3) := by decide +kernel
theorem dl_273 : decode code 273 = .ok (.aload_n 2, 1) := by decide +kernel
theorem dl_274 : decode code 274 = .ok (.aload_n 0, 1) := by decide +kernel
theorem dl_275 : decode code 275 = .ok (.iload_n 3, 1) := by decide +kernel
theorem dl_276 : decode code 276 = .ok (.iconst 1, 1) := by decide +kernel
theorem dl_277 : decode code 277 = .ok (.iadd, 1) := by decide +kernel
theorem dl_278 : decode code 278 = .ok (.iaload, 1) := by decide +kernel
theorem dl_279 : decode code 279 = .ok (.invokevirtual 44, 3) := by decide +kernel
theorem dl_282 : decode code 282 = .ok (.if_icmp .eq 225, 3) := by decide +kernel
theorem dl_285 : decode code 285 = .ok (.iconst 0, 1) := by decide +kernel
theorem dl_286 : decode code 286 = .ok (.ireturn, 1) := by decide +kernel
theorem dl_287 : decode code 287 = .ok (.aload_n 1, 1) := by decide +kernel
theorem dl_288 : decode code 288 = .ok (.aload_n 0, 1) := by decide +kernel
theorem dl_289 : decode code 289 = .ok (.iload_n 3, 1) := by decide +kernel
theorem dl_290 : decode code 290 = .ok (.iconst 1, 1) := by decide +kernel
theorem dl_291 : decode code 291 = .ok (.iadd, 1) := by decide +kernel
theorem dl_292 : decode code 292 = .ok (.iaload, 1) := by decide +kernel
theorem dl_293 : decode code 293 = .ok (.aload_n 0, 1) := by decide +kernel
theorem dl_294 : decode code 294 = .ok (.iload_n 3, 1) := by decide +kernel
theorem dl_295 : decode code 295 = .ok (.iconst 2, 1) := by decide +kernel
theorem dl_296 : decode code 296 = .ok (.iadd, 1) := by decide +kernel
theorem dl_297 : decode code 297 = .ok (.iaload, 1) := by decide +kernel
theorem dl_298 : decode code 298 = .ok (.invokevirtual 45, 3) := by decide +kernel
theorem dl_301 : decode code 301 = .ok (.aload_n 2, 1) := by decide +kernel
theorem dl_302 : decode code 302 = .ok (.aload_n 0, 1) := by decide +kernel
theorem dl_303 : decode code 303 = .ok (.iload_n 3, 1) := by decide +kernel
theorem dl_304 : decode code 304 = .ok (.iconst 1, 1) := by decide +kernel
theorem dl_305 : decode code 305 = .ok (.iadd, 1) := by decide +kernel
theorem dl_306 : decode code 306 = .ok (.iaload, 1) := by decide +kernel
theorem dl_307 : decode code 307 = .ok (.aload_n 0, 1) := by decide +kernel
theorem dl_308 : decode code 308 = .ok (.iload_n 3, 1) := by decide +kernel
theorem dl_309 : decode code 309 = .ok (.iconst 2, 1) := by decide +kernel
theorem dl_310 : decode code 310 = .ok (.iadd, 1) := by decide +kernel
theorem dl_311 : decode code 311 = .ok (.iaload, 1) := by decide +kernel
theorem dl_312 : decode code 312 = .ok (.invokevirtual 49, 3) := by decide +kernel
theorem dl_315 : decode code 315 = .ok (.if_icmp .eq 192, 3) := by decide +kernel
theorem dl_318 : decode code 318 = .ok (.iconst 0, 1) := by decide +kernel
theorem dl_319 : decode code 319 = .ok (.ireturn, 1) := by decide +kernel
theorem dl_320 : decode code 320 = .ok (.aload_n 1, 1) := by decide +kernel
theorem dl_321 : decode code 321 = .ok (.aload_n 0, 1) := by decide +kernel
theorem dl_322 : decode code 322 = .ok (.iload_n 3, 1) := by decide +kernel
theorem dl_323 : decode code 323 = .ok (.iconst 1, 1) := by decide +kernel
theorem dl_324 : decode code 324 = .ok (.iadd, 1) := by decide +kernel
theorem dl_325 : decode code 325 = .ok (.iaload, 1) := by decide +kernel
theorem dl_326 : decode code 326 = .ok (.aload_n 0, 1) := by decide +kernel
theorem dl_327 : decode code 327 = .ok (.iload_n 3, 1) := by decide +kernel
theorem dl_328 : decode code 328 = .ok (.iconst 2, 1) := by decide +kernel
theorem dl_329 : decode code 329 = .ok (.iadd, 1) := by decide +kernel
theorem dl_330 : decode code 330 = .ok (.iaload, 1) := by decide +kernel
theorem dl_331 : decode code 331 = .ok (.invokevirtual 50, 3) := by decide +kernel
theorem dl_334 : decode code 334 = .ok (.aload_n 2, 1) := by decide +kernel
theorem dl_335 : decode code 335 = .ok (.aload_n 0, 1) := by decide +kernel
theorem dl_336 : decode code 336 = .ok (.iload_n 3, 1) := by decide +kernel
theorem dl_337 : decode code 337 = .ok (.iconst 1, 1) := by decide +kernel
theorem dl_338 : decode code 338 = .ok (.iadd, 1) := by decide +kernel
theorem dl_339 : decode code 339 = .ok (.iaload, 1) := by decide +kernel
theorem dl_340 : decode code 340 = .ok (.aload_n 0, 1) := by decide +kernel
theorem dl_341 : decode code 341 = .ok (.iload_n 3, 1) := by decide +kernel
theorem dl_342 : decode code 342 = .ok (.iconst 2, 1) := by decide +kernel
theorem dl_343 : decode code 343 = .ok (.iadd, 1) := by decide +kernel
theorem dl_344 : decode code 344 = .ok (.iaload, 1) := by decide +kernel
theorem dl_345 : decode code 345 = .ok (.invokevirtual 53, 3) := by decide +kernel
theorem dl_348 : decode code 348 = .ok (.if_icmp .eq 159, 3) := by decide +kernel
theorem dl_351 : decode code 351 = .ok (.iconst 0, 1) := by decide +kernel
theorem dl_352 : decode code 352 = .ok (.ireturn, 1) := by decide +kernel
theorem dl_353 : decode code 353 = .ok (.aload_n 1, 1) := by decide +kernel
theorem dl_354 : decode code 354 = .ok (.aload_n 0, 1) := by decide +kernel
theorem dl_355 : decode code 355 = .ok (.iload_n 3, 1) := by decide +kernel
theorem dl_356 : decode code 356 = .ok (.iconst 1, 1) := by decide +kernel
theorem dl_357 : decode code 357 = .ok (.iadd, 1) := by decide +kernel
theorem dl_358 : decode code 358 = .ok (.iaload, 1) := by decide +kernel
theorem dl_359 : decode code 359 = .ok (.aload_n 0, 1) := by decide +kernel
theorem dl_360 : decode code 360 = .ok (.iload_n 3, 1) := by decide +kernel
theorem dl_361 : decode code 361 = .ok (.iconst 2, 1) := by decide +kernel
theorem dl_362 : decode code 362 = .ok (.iadd, 1) := by decide +kernel
theorem dl_363 : decode code 363 = .ok (.iaload, 1) := by decide +kernel
theorem dl_364 : decode code 364 = .ok (.invokevirtual 54, 3) := by decide +kernel
theorem dl_367 : decode code 367 = .ok (.aload_n 2, 1) := by decide +kernel
theorem dl_368 : decode code 368 = .ok (.aload_n 0, 1) := by decide +kernel
theorem dl_369 : decode code 369 = .ok (.iload_n 3, 1) := by decide +kernel
theorem dl_370 : decode code 370 = .ok (.iconst 1, 1) := by decide +kernel
theorem dl_371 : decode code 371 = .ok (.iadd, 1) := by decide +kernel
theorem dl_372 : decode code 372 = .ok (.iaload, 1) := by decide +kernel
theorem dl_373 : decode code 373 = .ok (.aload_n 0, 1) := by decide +kernel
theorem dl_374 : decode code 374 = .ok (.iload_n 3, 1) := by decide +kernel
theorem dl_375 : decode code 375 = .ok (.iconst 2, 1) := by decide +kernel
theorem dl_376 : decode code 376 = .ok (.iadd, 1) := by decide +kernel
theorem dl_377 : decode code 377 = .ok (.iaload, 1) := by decide +kernel
theorem dl_378 : decode code 378 = .ok (.invokevirtual 57, 3) := by decide +kernel
theorem dl_381 : decode code 381 = .ok (.if_icmp .eq 126, 3) := by decide +kernel
theorem dl_384 : decode code 384 = .ok (.iconst 0, 1) := by decide +kernel
theorem dl_385 : decode code 385 = .ok (.ireturn, 1) := by decide +kernel
theorem dl_386 : decode code 386 = .ok (.aload_n 1, 1) := by decide +kernel
theorem dl_387 : decode code 387 = .ok (.aload_n 0, 1) := by decide +kernel
theorem dl_388 : decode code 388 = .ok (.iload_n 3, 1) := by decide +kernel
theorem dl_389 : decode code 389 = .ok (.iconst 1, 1) := by decide +kernel
theorem dl_390 : decode code 390 = .ok (.iadd, 1) := by decide +kernel
theorem dl_391 : decode code 391 = .ok (.iaload, 1) := by decide +kernel
theorem dl_392 : decode code 392 = .ok (.aload_n 0, 1) := by decide +kernel
theorem dl_393 : decode code 393 = .ok (.iload_n 3, 1) := by decide +kernel
theorem dl_394 : decode code 394 = .ok (.iconst 2, 1) := by decide +kernel
theorem dl_395 : decode code 395 = .ok (.iadd, 1) := by decide +kernel
theorem dl_396 : decode code 396 = .ok (.iaload, 1) := by decide +kernel
theorem dl_397 : decode code 397 = .ok (.invokevirtual 58, 3) := by decide +kernel
theorem dl_400 : decode code 400 = .ok (.aload_n 2, 1) := by decide +kernel
theorem dl_401 : decode code 401 = .ok (.aload_n 0, 1) := by decide +kernel
theorem dl_402 : decode code 402 = .ok (.iload_n 3, 1) := by decide +kernel
theorem dl_403 : decode code 403 = .ok (.iconst 1, 1) := by decide +kernel
theorem dl_404 : decode code 404 = .ok (.iadd, 1) := by decide +kernel
theorem dl_405 : decode code 405 = .ok (.iaload, 1) := by decide +kernel
theorem dl_406 : decode code 406 = .ok (.aload_n 0, 1) := by decide +kernel
theorem dl_407 : decode code 407 = .ok (.iload_n 3, 1) := by decide +kernel
theorem dl_408 : decode code 408 = .ok (.iconst 2, 1) := by decide +kernel
theorem dl_409 : decode code 409 = .ok (.iadd, 1) := by decide +kernel
theorem dl_410 : decode code 410 = .ok (.iaload, 1) := by decide +kernel
theorem dl_411 : decode code 411 = .ok (.invokevirtual 61, 3) := by decide +kernel
theorem dl_414 : decode code 414 = .ok (.if_icmp .eq 93, 3) := by decide +kernel
theorem dl_417 : decode code 417 = .ok (.iconst 0, 1) := by decide +kernel
theorem dl_418 : decode code 418 = .ok (.ireturn, 1) := by decide +kernel
theorem dl_419 : decode code 419 = .ok (.aload_n 1, 1) := by decide +kernel
theorem dl_420 : decode code 420 = .ok (.invokevirtual 62, 3) := by decide +kernel
theorem dl_423 : decode code 423 = .ok (.aload_n 2, 1) := by decide +kernel
theorem dl_424 : decode code 424 = .ok (.invokevirtual 65, 3) := by decide +kernel
theorem dl_427 : decode code 427 = .ok (.if_icmp .eq 80, 3) := by decide +kernel
theorem dl_430 : decode code 430 = .ok (.iconst 0, 1) := by decide +kernel
theorem dl_431 : decode code 431 = .ok (.ireturn, 1) := by decide +kernel
theorem dl_432 : decode code 432 = .ok (.aload_n 1, 1) := by decide +kernel
theorem dl_433 : decode code 433 = .ok (.invokevirtual 66, 3) := by decide +kernel
theorem dl_436 : decode code 436 = .ok (.aload_n 2, 1) := by decide +kernel
theorem dl_437 : decode code 437 = .ok (.invokevirtual 69, 3) := by decide +kernel
theorem dl_440 : decode code 440 = .ok (.if_icmp .eq 67, 3) := by decide +kernel
theorem dl_443 : decode code 443 = .ok (.iconst 0, 1) := by decide +kernel
theorem dl_444 : decode code 444 = .ok (.ireturn, 1) := by decide +kernel
theorem dl_445 : decode code 445 = .ok (.aload_n 1, 1) := by decide +kernel
theorem dl_446 : decode code 446 = .ok (.invokevirtual 70, 3) := by decide +kernel
theorem dl_449 : decode code 449 = .ok (.aload_n 2, 1) := by decide +kernel
theorem dl_450 : decode code 450 = .ok (.invokevirtual 73, 3) := by decide +kernel
theorem dl_453 : decode code 453 = .ok (.if_icmp .eq 54, 3) := by decide +kernel
theorem dl_456 : decode code 456 = .ok (.iconst 0, 1) := by decide +kernel
theorem dl_457 : decode code 457 = .ok (.ireturn, 1) := by decide +kernel
theorem dl_458 : decode code 458 = .ok (.aload_n 1, 1) := by decide +kernel
theorem dl_459 : decode code 459 = .ok (.invokevirtual 74, 3) := by decide +kernel
theorem dl_462 : decode code 462 = .ok (.aload_n 2, 1) := by decide +kernel
theorem dl_463 : decode code 463 = .ok (.invokevirtual 77, 3) := by decide +kernel
theorem dl_466 : decode code 466 = .ok (.if_icmp .eq 41, 3) := by decide +kernel
theorem dl_469 : decode code 469 = .ok (.iconst 0, 1) := by decide +kernel
theorem dl_470 : decode code 470 = .ok (.ireturn, 1) := by decide +kernel
theorem dl_471 : decode code 471 = .ok (.aload_n 1, 1) := by decide +kernel
theorem dl_472 : decode code 472 = .ok (.aload_n 0, 1) := by decide +kernel
theorem dl_473 : decode code 473 = .ok (.iload_n 3, 1) := by decide +kernel
theorem dl_474 : decode code 474 = .ok (.iconst 1, 1) := by decide +kernel
theorem dl_475 : decode code 475 = .ok (.iadd, 1) := by decide +kernel
theorem dl_476 : decode code 476 = .ok (.iaload, 1) := by decide +kernel
theorem dl_477 : decode code 477 = .ok (.invokevirtual 78, 3) := by decide +kernel
theorem dl_480 : decode code 480 = .ok (.aload_n 2, 1) := by decide +kernel
theorem dl_481 : decode code 481 = .ok (.aload_n 0, 1) := by decide +kernel
theorem dl_482 : decode code 482 = .ok (.iload_n 3, 1) := by decide +kernel
theorem dl_483 : decode code 483 = .ok (.iconst 1, 1) := by decide +kernel
theorem dl_484 : decode code 484 = .ok (.iadd, 1) := by decide +kernel
theorem dl_485 : decode code 485 = .ok (.iaload, 1) := by decide +kernel
theorem dl_486 : decode code 486 = .ok (.invokevirtual 81, 3) := by decide +kernel
theorem dl_489 : decode code 489 = .ok (.if_icmp .eq 18, 3) := by decide +kernel
theorem dl_492 : decode code 492 = .ok (.iconst 0, 1) := by decide +kernel
theorem dl_493 : decode code 493 = .ok (.ireturn, 1) := by decide +kernel
theorem dl_494 : decode code 494 = .ok (.aload_n 1, 1) := by decide +kernel
theorem dl_495 : decode code 495 = .ok (.invokevirtual 82, 3) := by decide +kernel
theorem dl_498 : decode code 498 = .ok (.aload_n 2, 1) := by decide +kernel
theorem dl_499 : decode code 499 = .ok (.invokevirtual 85, 3) := by decide +kernel
theorem dl_502 : decode code 502 = .ok (.if_icmp .eq 5, 3) := by decide +kernel
theorem dl_505 : decode code 505 = .ok (.iconst 0, 1) := by decide +kernel
theorem dl_506 : decode code 506 = .ok (.ireturn, 1) := by decide +kernel
theorem dl_507 : decode code 507 = .ok (.iinc 3 4, 3) := by decide +kernel
theorem dl_510 : decode code 510 = .ok (.goto (-492), 3) := by decide +kernel
theorem dl_513 : decode code 513 = .ok (.iconst 1, 1) := by decide +kernel
theorem dl_514 : decode code 514 = .ok (.ireturn, 1) := by decide +kernel
section LCA
variable {l : Launch} {E : xE} {p : Program} {e : Env} {s : State} {m : MethodId} {below : List Frame} {meth : Method} {c : Code} {b L : Nat} {xs : Nat → Int32}
theorem lk_0 {i m' : Nat} {h : xh} (C0 : lw_At p s m meth c b L xs) (K : xK E s) (hL : L ≤ 2048) (hi : i + 3 < L) (hm : m' < 2 ^ 28) (R : Rel m' h) (kk : ∀ h', Rel (m' + 24) h' → xLP l E p e s m below meth c b i 507 [] h') : xLP l E p e s m below meth c b i 116 [] h := by
  refine lp_al1 C0 dl_116 ?_
  refine lp_arg (k := 1) C0 hL (by omega) dl_117 dl_118 dl_119 lc_1 dl_120 dl_121 ?_
  refine lp_arg (k := 2) C0 hL (by omega) dl_122 dl_123 dl_124 lc_2 dl_125 dl_126 ?_
  refine lp_arg (k := 3) C0 hL (by omega) dl_127 dl_128 dl_129 lc_3 dl_130 dl_131 ?_
  refine lp_call (as := [.inl (xs (i + 1)), .inl (xs (i + 2)), .inl (xs (i + 3))]) (b' := 0) (rest := []) C0 K dl_132 lv_RS_put ⟨lw_1_187, lw_1_188⟩ rfl rfl rfl rfl (Nat.le_of_ble_eq_true rfl) rfl (Nat.zero_le _) (R_put R) (fun r h1 z => ?_)
  obtain ⟨v, rfl, k1⟩ := z
  refine ⟨v, rfl, ?_⟩
  refine lp_al2 C0 dl_135 ?_
  refine lp_arg (k := 1) C0 hL (by omega) dl_136 dl_137 dl_138 lc_1 dl_139 dl_140 ?_
  refine lp_arg (k := 2) C0 hL (by omega) dl_141 dl_142 dl_143 lc_2 dl_144 dl_145 ?_
  refine lp_arg (k := 3) C0 hL (by omega) dl_146 dl_147 dl_148 lc_3 dl_149 dl_150 ?_
  refine lp_call (as := [.inl (xs (i + 1)), .inl (xs (i + 2)), .inl (xs (i + 3))]) (b' := 7) (rest := [.int v]) C0 K dl_151 lv_MD_put ⟨lw_3_124, lw_3_125⟩ rfl rfl rfl rfl (Nat.le_of_ble_eq_true rfl) rfl (Nat.le_of_ble_eq_true rfl) k1 (fun r h2 z => ?_)
  obtain ⟨rfl, R2⟩ := z
  refine ⟨v, rfl, ?_⟩
  exact lp_iceq C0 dl_154 (by decide) rfl (kk h2 (R2.mono (by omega)))
theorem lk_1 {i m' : Nat} {h : xh} (C0 : lw_At p s m meth c b L xs) (K : xK E s) (hL : L ≤ 2048) (hi : i + 3 < L) (hm : m' < 2 ^ 28) (R : Rel m' h) (kk : ∀ h', Rel (m' + 24) h' → xLP l E p e s m below meth c b i 507 [] h') : xLP l E p e s m below meth c b i 159 [] h := by
  refine lp_al1 C0 dl_159 ?_
  refine lp_arg (k := 1) C0 hL (by omega) dl_160 dl_161 dl_162 lc_1 dl_163 dl_164 ?_
  refine lp_call (as := [.inl (xs (i + 1))]) (b' := 0) (rest := []) C0 K dl_165 lv_RS_revoke ⟨lw_2_1, lw_2_2⟩ rfl rfl rfl rfl (Nat.le_of_ble_eq_true rfl) rfl (Nat.zero_le _) (R_revoke R) (fun r h1 z => ?_)
  obtain ⟨v, rfl, k1⟩ := z
  refine ⟨v, rfl, ?_⟩
  refine lp_al2 C0 dl_168 ?_
  refine lp_arg (k := 1) C0 hL (by omega) dl_169 dl_170 dl_171 lc_1 dl_172 dl_173 ?_
  refine lp_call (as := [.inl (xs (i + 1))]) (b' := 7) (rest := [.int v]) C0 K dl_174 lv_MD_revoke ⟨lw_3_137, lw_3_138⟩ rfl rfl rfl rfl (Nat.le_of_ble_eq_true rfl) rfl (Nat.le_of_ble_eq_true rfl) k1 (fun r h2 z => ?_)
  obtain ⟨rfl, R2⟩ := z
  refine ⟨v, rfl, ?_⟩
  exact lp_iceq C0 dl_177 (by decide) rfl (kk h2 (R2.mono (by omega)))
theorem lk_2 {i m' : Nat} {h : xh} (C0 : lw_At p s m meth c b L xs) (K : xK E s) (hL : L ≤ 2048) (hi : i + 3 < L) (hm : m' < 2 ^ 28) (R : Rel m' h) (kk : ∀ h', Rel (m' + 24) h' → xLP l E p e s m below meth c b i 507 [] h') : xLP l E p e s m below meth c b i 182 [] h := by
  refine lp_al1 C0 dl_182 ?_
  refine lp_arg (k := 1) C0 hL (by omega) dl_183 dl_184 dl_185 lc_1 dl_186 dl_187 ?_
  refine lp_arg (k := 2) C0 hL (by omega) dl_188 dl_189 dl_190 lc_2 dl_191 dl_192 ?_
  refine lp_arg (k := 3) C0 hL (by omega) dl_193 dl_194 dl_195 lc_3 dl_196 dl_197 ?_
  refine lp_call (as := [.inl (xs (i + 1)), .inl (xs (i + 2)), .inl (xs (i + 3))]) (b' := 0) (rest := []) C0 K dl_198 lv_RS_direct ⟨lw_2_9, lw_2_10⟩ rfl rfl rfl rfl (Nat.le_of_ble_eq_true rfl) rfl (Nat.zero_le _) (R_direct R) (fun r h1 z => ?_)
  obtain ⟨v, rfl, k1⟩ := z
  refine ⟨v, rfl, ?_⟩
  refine lp_al2 C0 dl_201 ?_
  refine lp_arg (k := 1) C0 hL (by omega) dl_202 dl_203 dl_204 lc_1 dl_205 dl_206 ?_
  refine lp_arg (k := 2) C0 hL (by omega) dl_207 dl_208 dl_209 lc_2 dl_210 dl_211 ?_
  refine lp_arg (k := 3) C0 hL (by omega) dl_212 dl_213 dl_214 lc_3 dl_215 dl_216 ?_
  refine lp_call (as := [.inl (xs (i + 1)), .inl (xs (i + 2)), .inl (xs (i + 3))]) (b' := 7) (rest := [.int v]) C0 K dl_217 lv_MD_direct ⟨lw_3_141, lw_3_142⟩ rfl rfl rfl rfl (Nat.le_of_ble_eq_true rfl) rfl (Nat.le_of_ble_eq_true rfl) k1 (fun r h2 z => ?_)
  obtain ⟨rfl, R2⟩ := z
  refine ⟨v, rfl, ?_⟩
  exact lp_iceq C0 dl_220 (by decide) rfl (kk h2 (R2.mono (by omega)))
theorem lk_3 {i m' : Nat} {h : xh} (C0 : lw_At p s m meth c b L xs) (K : xK E s) (hL : L ≤ 2048) (hi : i + 3 < L) (hm : m' < 2 ^ 28) (R : Rel m' h) (kk : ∀ h', Rel (m' + 24) h' → xLP l E p e s m below meth c b i 507 [] h') : xLP l E p e s m below meth c b i 225 [] h := by
  refine lp_al1 C0 dl_225 ?_
  refine lp_call (as := []) (b' := 0) (rest := []) C0 K dl_226 lv_RS_commit ⟨lw_2_22, lw_2_23⟩ rfl rfl rfl rfl (Nat.le_of_ble_eq_true rfl) rfl (Nat.zero_le _) (R_commit R) (fun r h1 z => ?_)
  obtain ⟨v, rfl, k1⟩ := z
  refine ⟨v, rfl, ?_⟩
  refine lp_al2 C0 dl_229 ?_
  refine lp_call (as := []) (b' := 7) (rest := [.int v]) C0 K dl_230 lv_MD_commit ⟨lw_3_153, lw_3_154⟩ rfl rfl rfl rfl (Nat.le_of_ble_eq_true rfl) rfl (Nat.le_of_ble_eq_true rfl) k1 (fun r h2 z => ?_)
  obtain ⟨rfl, R2⟩ := z
  refine ⟨v, rfl, ?_⟩
  exact lp_iceq C0 dl_233 (by decide) rfl (kk h2 (R2.mono (by omega)))
theorem lk_4 {i m' : Nat} {h : xh} (C0 : lw_At p s m meth c b L xs) (K : xK E s) (hL : L ≤ 2048) (hi : i + 3 < L) (hm : m' < 2 ^ 28) (R : Rel m' h) (kk : ∀ h', Rel (m' + 24) h' → xLP l E p e s m below meth c b i 507 [] h') : xLP l E p e s m below meth c b i 238 [] h := by
  refine lp_al1 C0 dl_238 ?_
  refine lp_call (as := []) (b' := 0) (rest := []) C0 K dl_239 lv_RS_checkpoint ⟨lw_2_72, lw_2_73⟩ rfl rfl rfl rfl (Nat.le_of_ble_eq_true rfl) rfl (Nat.zero_le _) (R_checkpoint R) (fun r h1 z => ?_)
  obtain ⟨v, rfl, k1⟩ := z
  refine ⟨v, rfl, ?_⟩
  refine lp_al2 C0 dl_242 ?_
  refine lp_call (as := []) (b' := 7) (rest := [.int v]) C0 K dl_243 lv_MD_checkpoint ⟨lw_3_161, lw_3_162⟩ rfl rfl rfl rfl (Nat.le_of_ble_eq_true rfl) rfl (Nat.le_of_ble_eq_true rfl) k1 (fun r h2 z => ?_)
  obtain ⟨rfl, R2⟩ := z
  refine ⟨v, rfl, ?_⟩
  exact lp_iceq C0 dl_246 (by decide) rfl (kk h2 (R2.mono (by omega)))
theorem lk_5 {i m' : Nat} {h : xh} (C0 : lw_At p s m meth c b L xs) (K : xK E s) (hL : L ≤ 2048) (hi : i + 3 < L) (hm : m' < 2 ^ 28) (R : Rel m' h) (kk : ∀ h', Rel (m' + 24) h' → xLP l E p e s m below meth c b i 507 [] h') : xLP l E p e s m below meth c b i 251 [] h := by
  refine lp_al1 C0 dl_251 ?_
  refine lp_call (as := []) (b' := 0) (rest := []) C0 K dl_252 lv_RS_recover ⟨lw_2_81, lw_2_82⟩ rfl rfl rfl rfl (Nat.le_of_ble_eq_true rfl) rfl (Nat.zero_le _) (R_recover hm R) (fun r h1 z => ?_)
  obtain ⟨v, rfl, k1⟩ := z
  refine ⟨v, rfl, ?_⟩
  refine lp_al2 C0 dl_255 ?_
  refine lp_call (as := []) (b' := 7) (rest := [.int v]) C0 K dl_256 lv_MD_recover ⟨lw_3_169, lw_3_170⟩ rfl rfl rfl rfl (Nat.le_of_ble_eq_true rfl) rfl (Nat.le_of_ble_eq_true rfl) k1 (fun r h2 z => ?_)
  obtain ⟨rfl, R2⟩ := z
  refine ⟨v, rfl, ?_⟩
  exact lp_iceq C0 dl_259 (by decide) rfl (kk h2 R2)
theorem lk_6 {i m' : Nat} {h : xh} (C0 : lw_At p s m meth c b L xs) (K : xK E s) (hL : L ≤ 2048) (hi : i + 3 < L) (hm : m' < 2 ^ 28) (R : Rel m' h) (kk : ∀ h', Rel (m' + 24) h' → xLP l E p e s m below meth c b i 507 [] h') : xLP l E p e s m below meth c b i 264 [] h := by
  refine lp_al1 C0 dl_264 ?_
  refine lp_arg (k := 1) C0 hL (by omega) dl_265 dl_266 dl_267 lc_1 dl_268 dl_269 ?_
  refine lp_call (as := [.inl (xs (i + 1))]) (b' := 0) (rest := []) C0 K dl_270 lv_RS_step ⟨lw_2_156, lw_2_157⟩ rfl rfl rfl rfl (Nat.le_of_ble_eq_true rfl) rfl (Nat.zero_le _) (R_step hm R) (fun r h1 z => ?_)
  obtain ⟨v, rfl, k1⟩ := z
  refine ⟨v, rfl, ?_⟩
  refine lp_al2 C0 dl_273 ?_
  refine lp_arg (k := 1) C0 hL (by omega) dl_274 dl_275 dl_276 lc_1 dl_277 dl_278 ?_
  refine lp_call (as := [.inl (xs (i + 1))]) (b' := 7) (rest := [.int v]) C0 K dl_279 lv_MD_step ⟨lw_3_209, lw_3_210⟩ rfl rfl rfl rfl (Nat.le_of_ble_eq_true rfl) rfl (Nat.le_of_ble_eq_true rfl) k1 (fun r h2 z => ?_)
  obtain ⟨rfl, R2⟩ := z
  refine ⟨v, rfl, ?_⟩
  exact lp_iceq C0 dl_282 (by decide) rfl (kk h2 R2)
theorem lk_7 {i m' : Nat} {h : xh} (C0 : lw_At p s m meth c b L xs) (K : xK E s) (hL : L ≤ 2048) (hi : i + 3 < L) (hm : m' < 2 ^ 28) (R : Rel m' h) (kk : ∀ h', Rel (m' + 24) h' → xLP l E p e s m below meth c b i 507 [] h') : xLP l E p e s m below meth c b i 287 [] h := by
  refine lp_al1 C0 dl_287 ?_
  refine lp_arg (k := 1) C0 hL (by omega) dl_288 dl_289 dl_290 lc_1 dl_291 dl_292 ?_
  refine lp_arg (k := 2) C0 hL (by omega) dl_293 dl_294 dl_295 lc_2 dl_296 dl_297 ?_
  refine lp_call (as := [.inl (xs (i + 1)), .inl (xs (i + 2))]) (b' := 0) (rest := []) C0 K dl_298 lv_RS_crash ⟨lw_2_213, lw_2_214⟩ rfl rfl rfl rfl (Nat.le_of_ble_eq_true rfl) rfl (Nat.zero_le _) (R_crash R) (fun r h1 z => ?_)
  obtain ⟨v, rfl, k1⟩ := z
  refine ⟨v, rfl, ?_⟩
  refine lp_al2 C0 dl_301 ?_
  refine lp_arg (k := 1) C0 hL (by omega) dl_302 dl_303 dl_304 lc_1 dl_305 dl_306 ?_
  refine lp_arg (k := 2) C0 hL (by omega) dl_307 dl_308 dl_309 lc_2 dl_310 dl_311 ?_
  refine lp_call (as := [.inl (xs (i + 1)), .inl (xs (i + 2))]) (b' := 7) (rest := [.int v]) C0 K dl_312 lv_MD_crash ⟨lw_4_29, lw_4_30⟩ rfl rfl rfl rfl (Nat.le_of_ble_eq_true rfl) rfl (Nat.le_of_ble_eq_true rfl) k1 (fun r h2 z => ?_)
  obtain ⟨rfl, R2⟩ := z
  refine ⟨v, rfl, ?_⟩
  exact lp_iceq C0 dl_315 (by decide) rfl (kk h2 (R2.mono (by omega)))
theorem lk_8 {i m' : Nat} {h : xh} (C0 : lw_At p s m meth c b L xs) (K : xK E s) (hL : L ≤ 2048) (hi : i + 3 < L) (hm : m' < 2 ^ 28) (R : Rel m' h) (kk : ∀ h', Rel (m' + 24) h' → xLP l E p e s m below meth c b i 507 [] h') : xLP l E p e s m below meth c b i 320 [] h := by
  refine lp_al1 C0 dl_320 ?_
  refine lp_arg (k := 1) C0 hL (by omega) dl_321 dl_322 dl_323 lc_1 dl_324 dl_325 ?_
  refine lp_arg (k := 2) C0 hL (by omega) dl_326 dl_327 dl_328 lc_2 dl_329 dl_330 ?_
  refine lp_call (as := [.inl (xs (i + 1)), .inl (xs (i + 2))]) (b' := 0) (rest := []) C0 K dl_331 lv_RS_get ⟨lw_2_224, lw_2_225⟩ rfl rfl rfl rfl (Nat.le_of_ble_eq_true rfl) rfl (Nat.zero_le _) (R_get R) (fun r h1 z => ?_)
  obtain ⟨v, rfl, k1⟩ := z
  refine ⟨v, rfl, ?_⟩
  refine lp_al2 C0 dl_334 ?_
  refine lp_arg (k := 1) C0 hL (by omega) dl_335 dl_336 dl_337 lc_1 dl_338 dl_339 ?_
  refine lp_arg (k := 2) C0 hL (by omega) dl_340 dl_341 dl_342 lc_2 dl_343 dl_344 ?_
  refine lp_call (as := [.inl (xs (i + 1)), .inl (xs (i + 2))]) (b' := 7) (rest := [.int v]) C0 K dl_345 lv_MD_get ⟨lw_3_113, lw_3_114⟩ rfl rfl rfl rfl (Nat.le_of_ble_eq_true rfl) rfl (Nat.le_of_ble_eq_true rfl) k1 (fun r h2 z => ?_)
  obtain ⟨rfl, R2⟩ := z
  refine ⟨v, rfl, ?_⟩
  exact lp_iceq C0 dl_348 (by decide) rfl (kk h2 (R2.mono (by omega)))
theorem lk_9 {i m' : Nat} {h : xh} (C0 : lw_At p s m meth c b L xs) (K : xK E s) (hL : L ≤ 2048) (hi : i + 3 < L) (hm : m' < 2 ^ 28) (R : Rel m' h) (kk : ∀ h', Rel (m' + 24) h' → xLP l E p e s m below meth c b i 507 [] h') : xLP l E p e s m below meth c b i 353 [] h := by
  refine lp_al1 C0 dl_353 ?_
  refine lp_arg (k := 1) C0 hL (by omega) dl_354 dl_355 dl_356 lc_1 dl_357 dl_358 ?_
  refine lp_arg (k := 2) C0 hL (by omega) dl_359 dl_360 dl_361 lc_2 dl_362 dl_363 ?_
  refine lp_call (as := [.inl (xs (i + 1)), .inl (xs (i + 2))]) (b' := 0) (rest := []) C0 K dl_364 lv_RS_read ⟨lw_2_228, lw_2_229⟩ rfl rfl rfl rfl (Nat.le_of_ble_eq_true rfl) rfl (Nat.zero_le _) (R_read R) (fun r h1 z => ?_)
  obtain ⟨v, rfl, k1⟩ := z
  refine ⟨v, rfl, ?_⟩
  refine lp_al2 C0 dl_367 ?_
  refine lp_arg (k := 1) C0 hL (by omega) dl_368 dl_369 dl_370 lc_1 dl_371 dl_372 ?_
  refine lp_arg (k := 2) C0 hL (by omega) dl_373 dl_374 dl_375 lc_2 dl_376 dl_377 ?_
  refine lp_call (as := [.inl (xs (i + 1)), .inl (xs (i + 2))]) (b' := 7) (rest := [.int v]) C0 K dl_378 lv_MD_read ⟨lw_3_101, lw_3_102⟩ rfl rfl rfl rfl (Nat.le_of_ble_eq_true rfl) rfl (Nat.le_of_ble_eq_true rfl) k1 (fun r h2 z => ?_)
  obtain ⟨rfl, R2⟩ := z
  refine ⟨v, rfl, ?_⟩
  exact lp_iceq C0 dl_381 (by decide) rfl (kk h2 (R2.mono (by omega)))
theorem lk_10 {i m' : Nat} {h : xh} (C0 : lw_At p s m meth c b L xs) (K : xK E s) (hL : L ≤ 2048) (hi : i + 3 < L) (hm : m' < 2 ^ 28) (R : Rel m' h) (kk : ∀ h', Rel (m' + 24) h' → xLP l E p e s m below meth c b i 507 [] h') : xLP l E p e s m below meth c b i 386 [] h := by
  refine lp_al1 C0 dl_386 ?_
  refine lp_arg (k := 1) C0 hL (by omega) dl_387 dl_388 dl_389 lc_1 dl_390 dl_391 ?_
  refine lp_arg (k := 2) C0 hL (by omega) dl_392 dl_393 dl_394 lc_2 dl_395 dl_396 ?_
  refine lp_call (as := [.inl (xs (i + 1)), .inl (xs (i + 2))]) (b' := 0) (rest := []) C0 K dl_397 lv_RS_stored ⟨lw_2_235, lw_2_236⟩ rfl rfl rfl rfl (Nat.le_of_ble_eq_true rfl) rfl (Nat.zero_le _) (R_stored R) (fun r h1 z => ?_)
  obtain ⟨v, rfl, k1⟩ := z
  refine ⟨v, rfl, ?_⟩
  refine lp_al2 C0 dl_400 ?_
  refine lp_arg (k := 1) C0 hL (by omega) dl_401 dl_402 dl_403 lc_1 dl_404 dl_405 ?_
  refine lp_arg (k := 2) C0 hL (by omega) dl_406 dl_407 dl_408 lc_2 dl_409 dl_410 ?_
  refine lp_call (as := [.inl (xs (i + 1)), .inl (xs (i + 2))]) (b' := 7) (rest := [.int v]) C0 K dl_411 lv_MD_stored ⟨lw_3_105, lw_3_106⟩ rfl rfl rfl rfl (Nat.le_of_ble_eq_true rfl) rfl (Nat.le_of_ble_eq_true rfl) k1 (fun r h2 z => ?_)
  obtain ⟨rfl, R2⟩ := z
  refine ⟨v, rfl, ?_⟩
  exact lp_iceq C0 dl_414 (by decide) rfl (kk h2 (R2.mono (by omega)))
theorem lk_11 {i m' : Nat} {h : xh} (C0 : lw_At p s m meth c b L xs) (K : xK E s) (hL : L ≤ 2048) (hi : i + 3 < L) (hm : m' < 2 ^ 28) (R : Rel m' h) (kk : ∀ h', Rel (m' + 24) h' → xLP l E p e s m below meth c b i 507 [] h') : xLP l E p e s m below meth c b i 419 [] h := by
  refine lp_al1 C0 dl_419 ?_
  refine lp_call (as := []) (b' := 0) (rest := []) C0 K dl_420 lv_RS_cached ⟨lw_3_0, lw_3_1⟩ rfl rfl rfl rfl (Nat.le_of_ble_eq_true rfl) rfl (Nat.zero_le _) (R_cached R) (fun r h1 z => ?_)
  obtain ⟨v, rfl, k1⟩ := z
  refine ⟨v, rfl, ?_⟩
  refine lp_al2 C0 dl_423 ?_
  refine lp_call (as := []) (b' := 7) (rest := [.int v]) C0 K dl_424 lv_MD_cached ⟨lw_3_109, lw_3_110⟩ rfl rfl rfl rfl (Nat.le_of_ble_eq_true rfl) rfl (Nat.le_of_ble_eq_true rfl) k1 (fun r h2 z => ?_)
  obtain ⟨rfl, R2⟩ := z
  refine ⟨v, rfl, ?_⟩
  exact lp_iceq C0 dl_427 (by decide) rfl (kk h2 (R2.mono (by omega)))
theorem lk_12 {i m' : Nat} {h : xh} (C0 : lw_At p s m meth c b L xs) (K : xK E s) (hL : L ≤ 2048) (hi : i + 3 < L) (hm : m' < 2 ^ 28) (R : Rel m' h) (kk : ∀ h', Rel (m' + 24) h' → xLP l E p e s m below meth c b i 507 [] h') : xLP l E p e s m below meth c b i 432 [] h := by
  refine lp_al1 C0 dl_432 ?_
  refine lp_call (as := []) (b' := 0) (rest := []) C0 K dl_433 lv_RS_state ⟨lw_3_4, lw_3_5⟩ rfl rfl rfl rfl (Nat.le_of_ble_eq_true rfl) rfl (Nat.zero_le _) (R_state R) (fun r h1 z => ?_)
  obtain ⟨v, rfl, k1⟩ := z
  refine ⟨v, rfl, ?_⟩
  refine lp_al2 C0 dl_436 ?_
  refine lp_call (as := []) (b' := 7) (rest := [.int v]) C0 K dl_437 lv_MD_state ⟨lw_4_33, lw_4_34⟩ rfl rfl rfl rfl (Nat.le_of_ble_eq_true rfl) rfl (Nat.le_of_ble_eq_true rfl) k1 (fun r h2 z => ?_)
  obtain ⟨rfl, R2⟩ := z
  refine ⟨v, rfl, ?_⟩
  exact lp_iceq C0 dl_440 (by decide) rfl (kk h2 (R2.mono (by omega)))
theorem lk_13 {i m' : Nat} {h : xh} (C0 : lw_At p s m meth c b L xs) (K : xK E s) (hL : L ≤ 2048) (hi : i + 3 < L) (hm : m' < 2 ^ 28) (R : Rel m' h) (kk : ∀ h', Rel (m' + 24) h' → xLP l E p e s m below meth c b i 507 [] h') : xLP l E p e s m below meth c b i 445 [] h := by
  refine lp_al1 C0 dl_445 ?_
  refine lp_call (as := []) (b' := 0) (rest := []) C0 K dl_446 lv_RS_number ⟨lw_3_8, lw_3_9⟩ rfl rfl rfl rfl (Nat.le_of_ble_eq_true rfl) rfl (Nat.zero_le _) (R_number R) (fun r h1 z => ?_)
  obtain ⟨v, rfl, k1⟩ := z
  refine ⟨v, rfl, ?_⟩
  refine lp_al2 C0 dl_449 ?_
  refine lp_call (as := []) (b' := 7) (rest := [.int v]) C0 K dl_450 lv_MD_number ⟨lw_4_37, lw_4_38⟩ rfl rfl rfl rfl (Nat.le_of_ble_eq_true rfl) rfl (Nat.le_of_ble_eq_true rfl) k1 (fun r h2 z => ?_)
  obtain ⟨rfl, R2⟩ := z
  refine ⟨v, rfl, ?_⟩
  exact lp_iceq C0 dl_453 (by decide) rfl (kk h2 (R2.mono (by omega)))
theorem lk_14 {i m' : Nat} {h : xh} (C0 : lw_At p s m meth c b L xs) (K : xK E s) (hL : L ≤ 2048) (hi : i + 3 < L) (hm : m' < 2 ^ 28) (R : Rel m' h) (kk : ∀ h', Rel (m' + 24) h' → xLP l E p e s m below meth c b i 507 [] h') : xLP l E p e s m below meth c b i 458 [] h := by
  refine lp_al1 C0 dl_458 ?_
  refine lp_call (as := []) (b' := 0) (rest := []) C0 K dl_459 lv_RS_used ⟨lw_3_12, lw_3_13⟩ rfl rfl rfl rfl (Nat.le_of_ble_eq_true rfl) rfl (Nat.zero_le _) (R_used R) (fun r h1 z => ?_)
  obtain ⟨v, rfl, k1⟩ := z
  refine ⟨v, rfl, ?_⟩
  refine lp_al2 C0 dl_462 ?_
  refine lp_call (as := []) (b' := 7) (rest := [.int v]) C0 K dl_463 lv_MD_used ⟨lw_4_41, lw_4_42⟩ rfl rfl rfl rfl (Nat.le_of_ble_eq_true rfl) rfl (Nat.le_of_ble_eq_true rfl) k1 (fun r h2 z => ?_)
  obtain ⟨rfl, R2⟩ := z
  refine ⟨v, rfl, ?_⟩
  exact lp_iceq C0 dl_466 (by decide) rfl (kk h2 (R2.mono (by omega)))
theorem lk_15 {i m' : Nat} {h : xh} (C0 : lw_At p s m meth c b L xs) (K : xK E s) (hL : L ≤ 2048) (hi : i + 3 < L) (hm : m' < 2 ^ 28) (R : Rel m' h) (kk : ∀ h', Rel (m' + 24) h' → xLP l E p e s m below meth c b i 507 [] h') : xLP l E p e s m below meth c b i 471 [] h := by
  refine lp_al1 C0 dl_471 ?_
  refine lp_arg (k := 1) C0 hL (by omega) dl_472 dl_473 dl_474 lc_1 dl_475 dl_476 ?_
  refine lp_call (as := [.inl (xs (i + 1))]) (b' := 0) (rest := []) C0 K dl_477 lv_RS_changed ⟨lw_3_16, lw_3_17⟩ rfl rfl rfl rfl (Nat.le_of_ble_eq_true rfl) rfl (Nat.zero_le _) (R_changed R) (fun r h1 z => ?_)
  obtain ⟨v, rfl, k1⟩ := z
  refine ⟨v, rfl, ?_⟩
  refine lp_al2 C0 dl_480 ?_
  refine lp_arg (k := 1) C0 hL (by omega) dl_481 dl_482 dl_483 lc_1 dl_484 dl_485 ?_
  refine lp_call (as := [.inl (xs (i + 1))]) (b' := 7) (rest := [.int v]) C0 K dl_486 lv_MD_changed ⟨lw_3_149, lw_3_150⟩ rfl rfl rfl rfl (Nat.le_of_ble_eq_true rfl) rfl (Nat.le_of_ble_eq_true rfl) k1 (fun r h2 z => ?_)
  obtain ⟨rfl, R2⟩ := z
  refine ⟨v, rfl, ?_⟩
  exact lp_iceq C0 dl_489 (by decide) rfl (kk h2 (R2.mono (by omega)))
theorem lk_16 {i m' : Nat} {h : xh} (C0 : lw_At p s m meth c b L xs) (K : xK E s) (hL : L ≤ 2048) (hi : i + 3 < L) (hm : m' < 2 ^ 28) (R : Rel m' h) (kk : ∀ h', Rel (m' + 24) h' → xLP l E p e s m below meth c b i 507 [] h') : xLP l E p e s m below meth c b i 494 [] h := by
  refine lp_al1 C0 dl_494 ?_
  refine lp_call (as := []) (b' := 0) (rest := []) C0 K dl_495 lv_RS_left ⟨lw_3_20, lw_3_21⟩ rfl rfl rfl rfl (Nat.le_of_ble_eq_true rfl) rfl (Nat.zero_le _) (R_left R) (fun r h1 z => ?_)
  obtain ⟨v, rfl, k1⟩ := z
  refine ⟨v, rfl, ?_⟩
  refine lp_al2 C0 dl_498 ?_
  refine lp_call (as := []) (b' := 7) (rest := [.int v]) C0 K dl_499 lv_MD_left ⟨lw_4_45, lw_4_46⟩ rfl rfl rfl rfl (Nat.le_of_ble_eq_true rfl) rfl (Nat.le_of_ble_eq_true rfl) k1 (fun r h2 z => ?_)
  obtain ⟨rfl, R2⟩ := z
  refine ⟨v, rfl, ?_⟩
  exact lp_iceq C0 dl_502 (by decide) rfl (kk h2 (R2.mono (by omega)))
end LCA
