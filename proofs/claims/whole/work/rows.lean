section
-- ===== PART A: goes FIRST, ahead of the names: the tables' words, and 'selects' of the private methods out of them =====
/-- a private method of a class that the tables say can be made, by its rows of tables_1 -/
def lw_okq (q : MethodName × Nat) : Prop := (q.1.cls ≠ "java/lang/invoke/MethodHandle" ∧ q.1.cls ≠ "java/lang/invoke/VarHandle") ∧ Cond.instantiable q.1.cls q.2 ∈ tables_1 ∧ Cond.privateMethod q.1 ∈ tables_1 ∧ Cond.instanceMethod q.1 ∈ tables_1
theorem lw_p0 : lw_okq (⟨"RedoShelf", "comeUp", "(II)V"⟩, 11) := ⟨⟨by decide +kernel, by decide +kernel⟩, List.mem_of_getElem? (i := 12) (by decide +kernel), List.mem_of_getElem? (i := 145) (by decide +kernel), List.mem_of_getElem? (i := 146) (by decide +kernel)⟩
theorem lw_p1 : lw_okq (⟨"RedoShelf", "isIdle", "()Z"⟩, 11) := ⟨⟨by decide +kernel, by decide +kernel⟩, List.mem_of_getElem? (i := 12) (by decide +kernel), List.mem_of_getElem? (i := 191) (by decide +kernel), List.mem_of_getElem? (i := 192) (by decide +kernel)⟩
theorem lw_p2 : lw_okq (⟨"RedoShelf", "beginImage", "(I)V"⟩, 11) := ⟨⟨by decide +kernel, by decide +kernel⟩, List.mem_of_getElem? (i := 12) (by decide +kernel), List.mem_of_getElem? (i := 213) (by decide +kernel), List.mem_of_getElem? (i := 214) (by decide +kernel)⟩
theorem lw_p3 : lw_okq (⟨"RedoShelf", "volumeWord", "(II)I"⟩, 11) := ⟨⟨by decide +kernel, by decide +kernel⟩, List.mem_of_getElem? (i := 12) (by decide +kernel), List.mem_of_getElem? (i := 217) (by decide +kernel), List.mem_of_getElem? (i := 218) (by decide +kernel)⟩
theorem lw_p4 : lw_okq (⟨"RedoShelf$Row", "addGroup", "(LRedoShelf$Images;II)V"⟩, 4) := ⟨⟨by decide +kernel, by decide +kernel⟩, List.mem_of_getElem? (i := 58) (by decide +kernel), List.mem_of_getElem? (i := 271) (by decide +kernel), List.mem_of_getElem? (i := 272) (by decide +kernel)⟩
theorem lw_p5 : lw_okq (⟨"RedoShelf$Row", "add", "(IIII)V"⟩, 4) := ⟨⟨by decide +kernel, by decide +kernel⟩, List.mem_of_getElem? (i := 58) (by decide +kernel), List.mem_of_getElem? (i := 277) (by decide +kernel), List.mem_of_getElem? (i := 278) (by decide +kernel)⟩
theorem lw_p6 : lw_okq (⟨"RedoShelf", "planRowSector", "(I)V"⟩, 11) := ⟨⟨by decide +kernel, by decide +kernel⟩, List.mem_of_getElem? (i := 12) (by decide +kernel), List.mem_of_getElem? (i := 293) (by decide +kernel), List.mem_of_getElem? (i := 294) (by decide +kernel)⟩
theorem lw_p7 : lw_okq (⟨"RedoShelf", "planHead", "(II)V"⟩, 11) := ⟨⟨by decide +kernel, by decide +kernel⟩, List.mem_of_getElem? (i := 12) (by decide +kernel), List.mem_of_getElem? (i := 316) (by decide +kernel), List.mem_of_getElem? (i := 317) (by decide +kernel)⟩
theorem lw_p8 : lw_okq (⟨"RedoShelf$LogReader", "takeHead", "(LRedoShelf$Device;)V"⟩, 13) := ⟨⟨by decide +kernel, by decide +kernel⟩, List.mem_of_getElem? (i := 77) (by decide +kernel), List.mem_of_getElem? (i := 329) (by decide +kernel), List.mem_of_getElem? (i := 330) (by decide +kernel)⟩
theorem lw_p9 : lw_okq (⟨"RedoShelf$LogReader", "takeLog", "(LRedoShelf$Device;)V"⟩, 13) := ⟨⟨by decide +kernel, by decide +kernel⟩, List.mem_of_getElem? (i := 77) (by decide +kernel), List.mem_of_getElem? (i := 335) (by decide +kernel), List.mem_of_getElem? (i := 336) (by decide +kernel)⟩
theorem lw_p10 : lw_okq (⟨"RedoShelf$LogReader", "takeTransaction", "(I)Z"⟩, 13) := ⟨⟨by decide +kernel, by decide +kernel⟩, List.mem_of_getElem? (i := 77) (by decide +kernel), List.mem_of_getElem? (i := 343) (by decide +kernel), List.mem_of_getElem? (i := 344) (by decide +kernel)⟩
theorem lw_p11 : lw_okq (⟨"RedoShelf$LogReader", "passGroups", "(I)V"⟩, 13) := ⟨⟨by decide +kernel, by decide +kernel⟩, List.mem_of_getElem? (i := 77) (by decide +kernel), List.mem_of_getElem? (i := 347) (by decide +kernel), List.mem_of_getElem? (i := 348) (by decide +kernel)⟩
theorem lw_p12 : lw_okq (⟨"RedoShelf$LogReader", "isOwn", "(I)Z"⟩, 13) := ⟨⟨by decide +kernel, by decide +kernel⟩, List.mem_of_getElem? (i := 77) (by decide +kernel), List.mem_of_getElem? (i := 351) (by decide +kernel), List.mem_of_getElem? (i := 352) (by decide +kernel)⟩
theorem lw_p13 : lw_okq (⟨"RedoShelf$LogReader", "wordAt", "(II)I"⟩, 13) := ⟨⟨by decide +kernel, by decide +kernel⟩, List.mem_of_getElem? (i := 77) (by decide +kernel), List.mem_of_getElem? (i := 355) (by decide +kernel), List.mem_of_getElem? (i := 356) (by decide +kernel)⟩
theorem lw_p14 : lw_okq (⟨"RedoShelf$LogReader", "passSector", "()V"⟩, 13) := ⟨⟨by decide +kernel, by decide +kernel⟩, List.mem_of_getElem? (i := 77) (by decide +kernel), List.mem_of_getElem? (i := 359) (by decide +kernel), List.mem_of_getElem? (i := 360) (by decide +kernel)⟩
theorem lw_p15 : lw_okq (⟨"RedoShelf$LogReader", "noteImage", "(II)V"⟩, 13) := ⟨⟨by decide +kernel, by decide +kernel⟩, List.mem_of_getElem? (i := 77) (by decide +kernel), List.mem_of_getElem? (i := 364) (by decide +kernel), List.mem_of_getElem? (i := 365) (by decide +kernel)⟩
def lw_privs_1 : List (MethodName × Nat) := [(⟨"RedoShelf", "comeUp", "(II)V"⟩, 11), (⟨"RedoShelf", "isIdle", "()Z"⟩, 11), (⟨"RedoShelf", "beginImage", "(I)V"⟩, 11), (⟨"RedoShelf", "volumeWord", "(II)I"⟩, 11), (⟨"RedoShelf$Row", "addGroup", "(LRedoShelf$Images;II)V"⟩, 4), (⟨"RedoShelf$Row", "add", "(IIII)V"⟩, 4), (⟨"RedoShelf", "planRowSector", "(I)V"⟩, 11), (⟨"RedoShelf", "planHead", "(II)V"⟩, 11), (⟨"RedoShelf$LogReader", "takeHead", "(LRedoShelf$Device;)V"⟩, 13), (⟨"RedoShelf$LogReader", "takeLog", "(LRedoShelf$Device;)V"⟩, 13), (⟨"RedoShelf$LogReader", "takeTransaction", "(I)Z"⟩, 13), (⟨"RedoShelf$LogReader", "passGroups", "(I)V"⟩, 13), (⟨"RedoShelf$LogReader", "isOwn", "(I)Z"⟩, 13), (⟨"RedoShelf$LogReader", "wordAt", "(II)I"⟩, 13), (⟨"RedoShelf$LogReader", "passSector", "()V"⟩, 13), (⟨"RedoShelf$LogReader", "noteImage", "(II)V"⟩, 13)]
theorem lw_r1 : ∀ q ∈ lw_privs_1, lw_okq q := List.forall_mem_cons.mpr ⟨lw_p0, List.forall_mem_cons.mpr ⟨lw_p1, List.forall_mem_cons.mpr ⟨lw_p2, List.forall_mem_cons.mpr ⟨lw_p3, List.forall_mem_cons.mpr ⟨lw_p4, List.forall_mem_cons.mpr ⟨lw_p5, List.forall_mem_cons.mpr ⟨lw_p6, List.forall_mem_cons.mpr ⟨lw_p7, List.forall_mem_cons.mpr ⟨lw_p8, List.forall_mem_cons.mpr ⟨lw_p9, List.forall_mem_cons.mpr ⟨lw_p10, List.forall_mem_cons.mpr ⟨lw_p11, List.forall_mem_cons.mpr ⟨lw_p12, List.forall_mem_cons.mpr ⟨lw_p13, List.forall_mem_cons.mpr ⟨lw_p14, List.forall_mem_cons.mpr ⟨lw_p15, fun _ h => absurd h List.not_mem_nil⟩⟩⟩⟩⟩⟩⟩⟩⟩⟩⟩⟩⟩⟩⟩⟩
theorem lw_p16 : lw_okq (⟨"RedoShelf$LogReader", "passRevocations", "()I"⟩, 13) := ⟨⟨by decide +kernel, by decide +kernel⟩, List.mem_of_getElem? (i := 77) (by decide +kernel), List.mem_of_getElem? (i := 368) (by decide +kernel), List.mem_of_getElem? (i := 369) (by decide +kernel)⟩
theorem lw_p17 : lw_okq (⟨"RedoShelf$Device", "settle", "(II)V"⟩, 4) := ⟨⟨by decide +kernel, by decide +kernel⟩, List.mem_of_getElem? (i := 20) (by decide +kernel), List.mem_of_getElem? (i := 415) (by decide +kernel), List.mem_of_getElem? (i := 416) (by decide +kernel)⟩
theorem lw_p18 : lw_okq (⟨"RedoShelf", "finishJob", "()V"⟩, 11) := ⟨⟨by decide +kernel, by decide +kernel⟩, List.mem_of_getElem? (i := 12) (by decide +kernel), List.mem_of_getElem? (i := 426) (by decide +kernel), List.mem_of_getElem? (i := 427) (by decide +kernel)⟩
theorem lw_p19 : lw_okq (⟨"RedoShelf", "finishCommit", "()V"⟩, 11) := ⟨⟨by decide +kernel, by decide +kernel⟩, List.mem_of_getElem? (i := 12) (by decide +kernel), List.mem_of_getElem? (i := 439) (by decide +kernel), List.mem_of_getElem? (i := 440) (by decide +kernel)⟩
theorem lw_p20 : lw_okq (⟨"RedoShelf", "isRevoked", "(I)Z"⟩, 11) := ⟨⟨by decide +kernel, by decide +kernel⟩, List.mem_of_getElem? (i := 12) (by decide +kernel), List.mem_of_getElem? (i := 449) (by decide +kernel), List.mem_of_getElem? (i := 450) (by decide +kernel)⟩
theorem lw_p21 : lw_okq (⟨"RedoShelfModel", "idle", "()Z"⟩, 23) := ⟨⟨by decide +kernel, by decide +kernel⟩, List.mem_of_getElem? (i := 504) (by decide +kernel), List.mem_of_getElem? (i := 608) (by decide +kernel), List.mem_of_getElem? (i := 609) (by decide +kernel)⟩
theorem lw_p22 : lw_okq (⟨"RedoShelfModel", "countOf", "(I)I"⟩, 23) := ⟨⟨by decide +kernel, by decide +kernel⟩, List.mem_of_getElem? (i := 504) (by decide +kernel), List.mem_of_getElem? (i := 612) (by decide +kernel), List.mem_of_getElem? (i := 613) (by decide +kernel)⟩
theorem lw_p23 : lw_okq (⟨"RedoShelfModel", "writeOut", "(I)V"⟩, 23) := ⟨⟨by decide +kernel, by decide +kernel⟩, List.mem_of_getElem? (i := 504) (by decide +kernel), List.mem_of_getElem? (i := 625) (by decide +kernel), List.mem_of_getElem? (i := 626) (by decide +kernel)⟩
theorem lw_p24 : lw_okq (⟨"RedoShelfModel", "rowLength", "()I"⟩, 23) := ⟨⟨by decide +kernel, by decide +kernel⟩, List.mem_of_getElem? (i := 504) (by decide +kernel), List.mem_of_getElem? (i := 637) (by decide +kernel), List.mem_of_getElem? (i := 638) (by decide +kernel)⟩
theorem lw_p25 : lw_okq (⟨"RedoShelfModel", "countPending", "()I"⟩, 23) := ⟨⟨by decide +kernel, by decide +kernel⟩, List.mem_of_getElem? (i := 504) (by decide +kernel), List.mem_of_getElem? (i := 645) (by decide +kernel), List.mem_of_getElem? (i := 646) (by decide +kernel)⟩
theorem lw_p26 : lw_okq (⟨"RedoShelfModel", "replay", "(I)I"⟩, 23) := ⟨⟨by decide +kernel, by decide +kernel⟩, List.mem_of_getElem? (i := 504) (by decide +kernel), List.mem_of_getElem? (i := 653) (by decide +kernel), List.mem_of_getElem? (i := 654) (by decide +kernel)⟩
theorem lw_p27 : lw_okq (⟨"RedoShelfModel", "findRevocations", "()V"⟩, 23) := ⟨⟨by decide +kernel, by decide +kernel⟩, List.mem_of_getElem? (i := 504) (by decide +kernel), List.mem_of_getElem? (i := 657) (by decide +kernel), List.mem_of_getElem? (i := 658) (by decide +kernel)⟩
theorem lw_p28 : lw_okq (⟨"RedoShelfModel", "findHead", "()V"⟩, 23) := ⟨⟨by decide +kernel, by decide +kernel⟩, List.mem_of_getElem? (i := 504) (by decide +kernel), List.mem_of_getElem? (i := 661) (by decide +kernel), List.mem_of_getElem? (i := 662) (by decide +kernel)⟩
theorem lw_p29 : lw_okq (⟨"RedoShelfModel", "validAt", "(II)I"⟩, 23) := ⟨⟨by decide +kernel, by decide +kernel⟩, List.mem_of_getElem? (i := 504) (by decide +kernel), List.mem_of_getElem? (i := 665) (by decide +kernel), List.mem_of_getElem? (i := 666) (by decide +kernel)⟩
theorem lw_p30 : lw_okq (⟨"RedoShelfModel", "logWord", "(II)I"⟩, 23) := ⟨⟨by decide +kernel, by decide +kernel⟩, List.mem_of_getElem? (i := 504) (by decide +kernel), List.mem_of_getElem? (i := 669) (by decide +kernel), List.mem_of_getElem? (i := 670) (by decide +kernel)⟩
theorem lw_p31 : lw_okq (⟨"RedoShelfModel", "mixSector", "(II)I"⟩, 23) := ⟨⟨by decide +kernel, by decide +kernel⟩, List.mem_of_getElem? (i := 504) (by decide +kernel), List.mem_of_getElem? (i := 673) (by decide +kernel), List.mem_of_getElem? (i := 674) (by decide +kernel)⟩
def lw_privs_2 : List (MethodName × Nat) := [(⟨"RedoShelf$LogReader", "passRevocations", "()I"⟩, 13), (⟨"RedoShelf$Device", "settle", "(II)V"⟩, 4), (⟨"RedoShelf", "finishJob", "()V"⟩, 11), (⟨"RedoShelf", "finishCommit", "()V"⟩, 11), (⟨"RedoShelf", "isRevoked", "(I)Z"⟩, 11), (⟨"RedoShelfModel", "idle", "()Z"⟩, 23), (⟨"RedoShelfModel", "countOf", "(I)I"⟩, 23), (⟨"RedoShelfModel", "writeOut", "(I)V"⟩, 23), (⟨"RedoShelfModel", "rowLength", "()I"⟩, 23), (⟨"RedoShelfModel", "countPending", "()I"⟩, 23), (⟨"RedoShelfModel", "replay", "(I)I"⟩, 23), (⟨"RedoShelfModel", "findRevocations", "()V"⟩, 23), (⟨"RedoShelfModel", "findHead", "()V"⟩, 23), (⟨"RedoShelfModel", "validAt", "(II)I"⟩, 23), (⟨"RedoShelfModel", "logWord", "(II)I"⟩, 23), (⟨"RedoShelfModel", "mixSector", "(II)I"⟩, 23)]
theorem lw_r2 : ∀ q ∈ lw_privs_2, lw_okq q := List.forall_mem_cons.mpr ⟨lw_p16, List.forall_mem_cons.mpr ⟨lw_p17, List.forall_mem_cons.mpr ⟨lw_p18, List.forall_mem_cons.mpr ⟨lw_p19, List.forall_mem_cons.mpr ⟨lw_p20, List.forall_mem_cons.mpr ⟨lw_p21, List.forall_mem_cons.mpr ⟨lw_p22, List.forall_mem_cons.mpr ⟨lw_p23, List.forall_mem_cons.mpr ⟨lw_p24, List.forall_mem_cons.mpr ⟨lw_p25, List.forall_mem_cons.mpr ⟨lw_p26, List.forall_mem_cons.mpr ⟨lw_p27, List.forall_mem_cons.mpr ⟨lw_p28, List.forall_mem_cons.mpr ⟨lw_p29, List.forall_mem_cons.mpr ⟨lw_p30, List.forall_mem_cons.mpr ⟨lw_p31, fun _ h => absurd h List.not_mem_nil⟩⟩⟩⟩⟩⟩⟩⟩⟩⟩⟩⟩⟩⟩⟩⟩
theorem lw_p32 : lw_okq (⟨"RedoShelfModel", "isRevocation", "(II)Z"⟩, 23) := ⟨⟨by decide +kernel, by decide +kernel⟩, List.mem_of_getElem? (i := 504) (by decide +kernel), List.mem_of_getElem? (i := 681) (by decide +kernel), List.mem_of_getElem? (i := 682) (by decide +kernel)⟩
theorem lw_p33 : lw_okq (⟨"RedoShelfModel", "say", "(IIII)V"⟩, 23) := ⟨⟨by decide +kernel, by decide +kernel⟩, List.mem_of_getElem? (i := 504) (by decide +kernel), List.mem_of_getElem? (i := 685) (by decide +kernel), List.mem_of_getElem? (i := 686) (by decide +kernel)⟩
theorem lw_p34 : lw_okq (⟨"RedoShelfModel", "commitAction", "(I)V"⟩, 23) := ⟨⟨by decide +kernel, by decide +kernel⟩, List.mem_of_getElem? (i := 504) (by decide +kernel), List.mem_of_getElem? (i := 693) (by decide +kernel), List.mem_of_getElem? (i := 694) (by decide +kernel)⟩
theorem lw_p35 : lw_okq (⟨"RedoShelfModel", "body", "(I)V"⟩, 23) := ⟨⟨by decide +kernel, by decide +kernel⟩, List.mem_of_getElem? (i := 504) (by decide +kernel), List.mem_of_getElem? (i := 697) (by decide +kernel), List.mem_of_getElem? (i := 698) (by decide +kernel)⟩
theorem lw_p36 : lw_okq (⟨"RedoShelfModel", "revocationWord", "()I"⟩, 23) := ⟨⟨by decide +kernel, by decide +kernel⟩, List.mem_of_getElem? (i := 504) (by decide +kernel), List.mem_of_getElem? (i := 701) (by decide +kernel), List.mem_of_getElem? (i := 702) (by decide +kernel)⟩
theorem lw_p37 : lw_okq (⟨"RedoShelfModel", "groupWord", "(II)I"⟩, 23) := ⟨⟨by decide +kernel, by decide +kernel⟩, List.mem_of_getElem? (i := 504) (by decide +kernel), List.mem_of_getElem? (i := 705) (by decide +kernel), List.mem_of_getElem? (i := 706) (by decide +kernel)⟩
theorem lw_p38 : lw_okq (⟨"RedoShelfModel", "imageBlock", "(I)I"⟩, 23) := ⟨⟨by decide +kernel, by decide +kernel⟩, List.mem_of_getElem? (i := 504) (by decide +kernel), List.mem_of_getElem? (i := 709) (by decide +kernel), List.mem_of_getElem? (i := 710) (by decide +kernel)⟩
theorem lw_p39 : lw_okq (⟨"RedoShelfModel", "sum", "(I)I"⟩, 23) := ⟨⟨by decide +kernel, by decide +kernel⟩, List.mem_of_getElem? (i := 504) (by decide +kernel), List.mem_of_getElem? (i := 713) (by decide +kernel), List.mem_of_getElem? (i := 714) (by decide +kernel)⟩
theorem lw_p40 : lw_okq (⟨"RedoShelfModel", "flush", "()V"⟩, 23) := ⟨⟨by decide +kernel, by decide +kernel⟩, List.mem_of_getElem? (i := 504) (by decide +kernel), List.mem_of_getElem? (i := 717) (by decide +kernel), List.mem_of_getElem? (i := 718) (by decide +kernel)⟩
theorem lw_p41 : lw_okq (⟨"RedoShelfModel", "settle", "(II)V"⟩, 23) := ⟨⟨by decide +kernel, by decide +kernel⟩, List.mem_of_getElem? (i := 504) (by decide +kernel), List.mem_of_getElem? (i := 721) (by decide +kernel), List.mem_of_getElem? (i := 722) (by decide +kernel)⟩
theorem lw_p42 : lw_okq (⟨"RedoShelfModel", "checkpointAction", "(I)V"⟩, 23) := ⟨⟨by decide +kernel, by decide +kernel⟩, List.mem_of_getElem? (i := 504) (by decide +kernel), List.mem_of_getElem? (i := 725) (by decide +kernel), List.mem_of_getElem? (i := 726) (by decide +kernel)⟩
theorem lw_p43 : lw_okq (⟨"RedoShelfModel", "recoveryAction", "(I)V"⟩, 23) := ⟨⟨by decide +kernel, by decide +kernel⟩, List.mem_of_getElem? (i := 504) (by decide +kernel), List.mem_of_getElem? (i := 729) (by decide +kernel), List.mem_of_getElem? (i := 730) (by decide +kernel)⟩
theorem lw_p44 : lw_okq (⟨"RedoShelfModel", "finish", "()V"⟩, 23) := ⟨⟨by decide +kernel, by decide +kernel⟩, List.mem_of_getElem? (i := 504) (by decide +kernel), List.mem_of_getElem? (i := 733) (by decide +kernel), List.mem_of_getElem? (i := 734) (by decide +kernel)⟩
theorem lw_p45 : lw_okq (⟨"RedoShelfModel", "committed", "()V"⟩, 23) := ⟨⟨by decide +kernel, by decide +kernel⟩, List.mem_of_getElem? (i := 504) (by decide +kernel), List.mem_of_getElem? (i := 737) (by decide +kernel), List.mem_of_getElem? (i := 738) (by decide +kernel)⟩
theorem lw_p46 : lw_okq (⟨"RedoShelfModel", "checkpointed", "()V"⟩, 23) := ⟨⟨by decide +kernel, by decide +kernel⟩, List.mem_of_getElem? (i := 504) (by decide +kernel), List.mem_of_getElem? (i := 741) (by decide +kernel), List.mem_of_getElem? (i := 742) (by decide +kernel)⟩
theorem lw_p47 : lw_okq (⟨"RedoShelfModel", "recovered", "()V"⟩, 23) := ⟨⟨by decide +kernel, by decide +kernel⟩, List.mem_of_getElem? (i := 504) (by decide +kernel), List.mem_of_getElem? (i := 745) (by decide +kernel), List.mem_of_getElem? (i := 746) (by decide +kernel)⟩
def lw_privs_3 : List (MethodName × Nat) := [(⟨"RedoShelfModel", "isRevocation", "(II)Z"⟩, 23), (⟨"RedoShelfModel", "say", "(IIII)V"⟩, 23), (⟨"RedoShelfModel", "commitAction", "(I)V"⟩, 23), (⟨"RedoShelfModel", "body", "(I)V"⟩, 23), (⟨"RedoShelfModel", "revocationWord", "()I"⟩, 23), (⟨"RedoShelfModel", "groupWord", "(II)I"⟩, 23), (⟨"RedoShelfModel", "imageBlock", "(I)I"⟩, 23), (⟨"RedoShelfModel", "sum", "(I)I"⟩, 23), (⟨"RedoShelfModel", "flush", "()V"⟩, 23), (⟨"RedoShelfModel", "settle", "(II)V"⟩, 23), (⟨"RedoShelfModel", "checkpointAction", "(I)V"⟩, 23), (⟨"RedoShelfModel", "recoveryAction", "(I)V"⟩, 23), (⟨"RedoShelfModel", "finish", "()V"⟩, 23), (⟨"RedoShelfModel", "committed", "()V"⟩, 23), (⟨"RedoShelfModel", "checkpointed", "()V"⟩, 23), (⟨"RedoShelfModel", "recovered", "()V"⟩, 23)]
theorem lw_r3 : ∀ q ∈ lw_privs_3, lw_okq q := List.forall_mem_cons.mpr ⟨lw_p32, List.forall_mem_cons.mpr ⟨lw_p33, List.forall_mem_cons.mpr ⟨lw_p34, List.forall_mem_cons.mpr ⟨lw_p35, List.forall_mem_cons.mpr ⟨lw_p36, List.forall_mem_cons.mpr ⟨lw_p37, List.forall_mem_cons.mpr ⟨lw_p38, List.forall_mem_cons.mpr ⟨lw_p39, List.forall_mem_cons.mpr ⟨lw_p40, List.forall_mem_cons.mpr ⟨lw_p41, List.forall_mem_cons.mpr ⟨lw_p42, List.forall_mem_cons.mpr ⟨lw_p43, List.forall_mem_cons.mpr ⟨lw_p44, List.forall_mem_cons.mpr ⟨lw_p45, List.forall_mem_cons.mpr ⟨lw_p46, List.forall_mem_cons.mpr ⟨lw_p47, fun _ h => absurd h List.not_mem_nil⟩⟩⟩⟩⟩⟩⟩⟩⟩⟩⟩⟩⟩⟩⟩⟩
def lw_privs : List (MethodName × Nat) := lw_privs_1 ++ (lw_privs_2 ++ (lw_privs_3))
def lw_tbl : List Cond := k2_sels lw_privs ++ tables_1
theorem lw_privs_ok : ∀ q ∈ lw_privs, lw_okq q := by
  show ∀ q ∈ lw_privs_1 ++ (lw_privs_2 ++ (lw_privs_3)), lw_okq q
  exact List.forall_mem_append.mpr ⟨lw_r1, List.forall_mem_append.mpr ⟨lw_r2, lw_r3⟩⟩
end
section
/-! NAMES, by program (wip/whole/gen_names.py) out of the task's listing and tables -/
abbrev xk : Type := (Nat × List (Option Nat)) ⊕ (Bool × Nat)
def T_RS : u_T := fun k => match k with
  | 0 => ("RedoShelf", "device", "LRedoShelf$Device;", true)
  | 1 => ("RedoShelf", "running", "LRedoShelf$Images;", true)
  | 2 => ("RedoShelf", "pending", "LRedoShelf$Images;", true)
  | 3 => ("RedoShelf", "row", "LRedoShelf$Row;", true)
  | 4 => ("RedoShelf", "reader", "LRedoShelf$LogReader;", true)
  | 5 => ("RedoShelf", "job", "LRedoShelf$Job;", true)
  | 6 => ("RedoShelf", "up", "Z", false)
  | 7 => ("RedoShelf", "revoked", "I", false)
  | 8 => ("RedoShelf", "nextNumber", "I", false)
  | 9 => ("RedoShelf", "nextPlace", "I", false)
  | _ => ("RedoShelf", "usedSectors", "I", false)
def t_RS : Nat → FieldType := fun k => match k with
  | 0 => .object "RedoShelf$Device"
  | 1 => .object "RedoShelf$Images"
  | 2 => .object "RedoShelf$Images"
  | 3 => .object "RedoShelf$Row"
  | 4 => .object "RedoShelf$LogReader"
  | 5 => .object "RedoShelf$Job"
  | 6 => .boolean
  | 7 => .int
  | 8 => .int
  | 9 => .int
  | _ => .int
theorem n_RS : ∀ a, a < 11 → ∀ b, b < 11 → a ≠ b → (T_RS a).2.1 ≠ (T_RS b).2.1 := by decide +kernel
theorem t_RS_ok : ∀ k, k < 11 → parseFieldDescriptor (T_RS k).2.2.1 = some (t_RS k) := by decide +kernel
theorem i_RS : ∀ w ∈ u_ws "RedoShelf" T_RS 11, w ∈ lw_tbl := by decide +kernel
def T_DV : u_T := fun k => match k with
  | 0 => ("RedoShelf$Device", "sectorWords", "[I", true)
  | 1 => ("RedoShelf$Device", "entrySector", "[I", true)
  | 2 => ("RedoShelf$Device", "entryWords", "[I", true)
  | _ => ("RedoShelf$Device", "entries", "I", false)
def t_DV : Nat → FieldType := fun k => match k with
  | 0 => .array .int
  | 1 => .array .int
  | 2 => .array .int
  | _ => .int
theorem n_DV : ∀ a, a < 4 → ∀ b, b < 4 → a ≠ b → (T_DV a).2.1 ≠ (T_DV b).2.1 := by decide +kernel
theorem t_DV_ok : ∀ k, k < 4 → parseFieldDescriptor (T_DV k).2.2.1 = some (t_DV k) := by decide +kernel
theorem i_DV : ∀ w ∈ u_ws "RedoShelf$Device" T_DV 4, w ∈ lw_tbl := by decide +kernel
def T_IM : u_T := fun k => match k with
  | 0 => ("RedoShelf$Images", "held", "[Z", true)
  | 1 => ("RedoShelf$Images", "words", "[I", true)
  | _ => ("RedoShelf$Images", "count", "I", false)
def t_IM : Nat → FieldType := fun k => match k with
  | 0 => .array .boolean
  | 1 => .array .int
  | _ => .int
theorem n_IM : ∀ a, a < 3 → ∀ b, b < 3 → a ≠ b → (T_IM a).2.1 ≠ (T_IM b).2.1 := by decide +kernel
theorem t_IM_ok : ∀ k, k < 3 → parseFieldDescriptor (T_IM k).2.2.1 = some (t_IM k) := by decide +kernel
theorem i_IM : ∀ w ∈ u_ws "RedoShelf$Images" T_IM 3, w ∈ lw_tbl := by decide +kernel
def T_RW : u_T := fun k => match k with
  | 0 => ("RedoShelf$Row", "words", "[I", true)
  | 1 => ("RedoShelf$Row", "group", "[I", true)
  | 2 => ("RedoShelf$Row", "sectors", "I", false)
  | _ => ("RedoShelf$Row", "sum", "I", false)
def t_RW : Nat → FieldType := fun k => match k with
  | 0 => .array .int
  | 1 => .array .int
  | 2 => .int
  | _ => .int
theorem n_RW : ∀ a, a < 4 → ∀ b, b < 4 → a ≠ b → (T_RW a).2.1 ≠ (T_RW b).2.1 := by decide +kernel
theorem t_RW_ok : ∀ k, k < 4 → parseFieldDescriptor (T_RW k).2.2.1 = some (t_RW k) := by decide +kernel
theorem i_RW : ∀ w ∈ u_ws "RedoShelf$Row" T_RW 4, w ∈ lw_tbl := by decide +kernel
def T_LR : u_T := fun k => match k with
  | 0 => ("RedoShelf$LogReader", "log", "[I", true)
  | 1 => ("RedoShelf$LogReader", "imageOffset", "[I", true)
  | 2 => ("RedoShelf$LogReader", "imageBlock", "[I", true)
  | 3 => ("RedoShelf$LogReader", "imageHidden", "[Z", true)
  | 4 => ("RedoShelf$LogReader", "imageTurn", "[I", true)
  | 5 => ("RedoShelf$LogReader", "lastRevokingTurn", "[I", true)
  | 6 => ("RedoShelf$LogReader", "start", "I", false)
  | 7 => ("RedoShelf$LogReader", "number", "I", false)
  | 8 => ("RedoShelf$LogReader", "validSectors", "I", false)
  | 9 => ("RedoShelf$LogReader", "validImages", "I", false)
  | 10 => ("RedoShelf$LogReader", "at", "I", false)
  | 11 => ("RedoShelf$LogReader", "sum", "I", false)
  | _ => ("RedoShelf$LogReader", "found", "I", false)
def t_LR : Nat → FieldType := fun k => match k with
  | 0 => .array .int
  | 1 => .array .int
  | 2 => .array .int
  | 3 => .array .boolean
  | 4 => .array .int
  | 5 => .array .int
  | 6 => .int
  | 7 => .int
  | 8 => .int
  | 9 => .int
  | 10 => .int
  | 11 => .int
  | _ => .int
theorem n_LR : ∀ a, a < 13 → ∀ b, b < 13 → a ≠ b → (T_LR a).2.1 ≠ (T_LR b).2.1 := by decide +kernel
theorem t_LR_ok : ∀ k, k < 13 → parseFieldDescriptor (T_LR k).2.2.1 = some (t_LR k) := by decide +kernel
theorem i_LR : ∀ w ∈ u_ws "RedoShelf$LogReader" T_LR 13, w ∈ lw_tbl := by decide +kernel
def T_JB : u_T := fun k => match k with
  | 0 => ("RedoShelf$Job", "target", "[I", true)
  | 1 => ("RedoShelf$Job", "words", "[I", true)
  | 2 => ("RedoShelf$Job", "runningKind", "I", false)
  | 3 => ("RedoShelf$Job", "planned", "I", false)
  | _ => ("RedoShelf$Job", "done", "I", false)
def t_JB : Nat → FieldType := fun k => match k with
  | 0 => .array .int
  | 1 => .array .int
  | 2 => .int
  | 3 => .int
  | _ => .int
theorem n_JB : ∀ a, a < 5 → ∀ b, b < 5 → a ≠ b → (T_JB a).2.1 ≠ (T_JB b).2.1 := by decide +kernel
theorem t_JB_ok : ∀ k, k < 5 → parseFieldDescriptor (T_JB k).2.2.1 = some (t_JB k) := by decide +kernel
theorem i_JB : ∀ w ∈ u_ws "RedoShelf$Job" T_JB 5, w ∈ lw_tbl := by decide +kernel
def T_MD : u_T := fun k => match k with
  | 0 => ("RedoShelfModel", "disk", "[I", true)
  | 1 => ("RedoShelfModel", "entries", "I", false)
  | 2 => ("RedoShelfModel", "sectorOf", "[I", true)
  | 3 => ("RedoShelfModel", "words", "[I", true)
  | 4 => ("RedoShelfModel", "up", "Z", false)
  | 5 => ("RedoShelfModel", "number", "I", false)
  | 6 => ("RedoShelfModel", "next", "I", false)
  | 7 => ("RedoShelfModel", "used", "I", false)
  | 8 => ("RedoShelfModel", "kinds", "[I", true)
  | 9 => ("RedoShelfModel", "running", "[I", true)
  | 10 => ("RedoShelfModel", "isPending", "[Z", true)
  | 11 => ("RedoShelfModel", "pending", "[I", true)
  | 12 => ("RedoShelfModel", "job", "I", false)
  | 13 => ("RedoShelfModel", "done", "I", false)
  | 14 => ("RedoShelfModel", "total", "I", false)
  | 15 => ("RedoShelfModel", "out", "[I", true)
  | 16 => ("RedoShelfModel", "target", "I", false)
  | 17 => ("RedoShelfModel", "place", "I", false)
  | 18 => ("RedoShelfModel", "first", "I", false)
  | 19 => ("RedoShelfModel", "after", "I", false)
  | 20 => ("RedoShelfModel", "length", "I", false)
  | 21 => ("RedoShelfModel", "revoker", "[I", true)
  | _ => ("RedoShelfModel", "revoked", "[Z", true)
def t_MD : Nat → FieldType := fun k => match k with
  | 0 => .array .int
  | 1 => .int
  | 2 => .array .int
  | 3 => .array .int
  | 4 => .boolean
  | 5 => .int
  | 6 => .int
  | 7 => .int
  | 8 => .array .int
  | 9 => .array .int
  | 10 => .array .boolean
  | 11 => .array .int
  | 12 => .int
  | 13 => .int
  | 14 => .int
  | 15 => .array .int
  | 16 => .int
  | 17 => .int
  | 18 => .int
  | 19 => .int
  | 20 => .int
  | 21 => .array .int
  | _ => .array .boolean
theorem n_MD : ∀ a, a < 23 → ∀ b, b < 23 → a ≠ b → (T_MD a).2.1 ≠ (T_MD b).2.1 := by decide +kernel
theorem t_MD_ok : ∀ k, k < 23 → parseFieldDescriptor (T_MD k).2.2.1 = some (t_MD k) := by decide +kernel
theorem i_MD : ∀ w ∈ u_ws "RedoShelfModel" T_MD 23, w ∈ lw_tbl := by decide +kernel
abbrev vwCl : List vw_C := [("RedoShelf", T_RS, 11), ("RedoShelf$Device", T_DV, 4), ("RedoShelf$Images", T_IM, 3), ("RedoShelf$Row", T_RW, 4), ("RedoShelf$LogReader", T_LR, 13), ("RedoShelf$Job", T_JB, 5), ("RedoShelfModel", T_MD, 23)]
def lay : List xk := [.inl (0, [some 1, some 2, some 3, some 4, some 5, some 6, none, none, none, none, none]), .inl (1, [some 8, some 9, some 10, none]), .inl (2, [some 11, some 12, none]), .inl (2, [some 13, some 14, none]), .inl (3, [some 15, some 16, none, none]), .inl (4, [some 17, some 18, some 19, some 20, some 21, some 22, none, none, none, none, none, none, none]), .inl (5, [some 23, some 24, none, none, none]), .inl (6, [some 25, none, some 26, some 27, none, none, none, none, some 28, some 29, some 30, some 31, none, none, none, some 32, none, none, none, none, none, some 33, some 34]), .inr (false, 164), .inr (false, 28), .inr (false, 112), .inr (true, 16), .inr (false, 64), .inr (true, 16), .inr (false, 64), .inr (false, 48), .inr (false, 4), .inr (false, 96), .inr (false, 24), .inr (false, 24), .inr (true, 24), .inr (false, 24), .inr (false, 16), .inr (false, 27), .inr (false, 108), .inr (false, 164), .inr (false, 32), .inr (false, 128), .inr (false, 16), .inr (false, 64), .inr (true, 16), .inr (false, 64), .inr (false, 4), .inr (false, 16), .inr (true, 16)]
def M_RS_put : MethodName × ByteArray × Nat × Option FieldType × Nat × Nat := (⟨"RedoShelf", "put", "(III)Z"⟩, prog_1_method_2_code, 4, some .boolean, 4, 89)
def M_RS_revoke : MethodName × ByteArray × Nat × Option FieldType × Nat × Nat := (⟨"RedoShelf", "revoke", "(I)Z"⟩, prog_1_method_3_code, 2, some .boolean, 2, 40)
def M_RS_direct : MethodName × ByteArray × Nat × Option FieldType × Nat × Nat := (⟨"RedoShelf", "direct", "(III)Z"⟩, prog_1_method_4_code, 4, some .boolean, 3, 70)
def M_RS_commit : MethodName × ByteArray × Nat × Option FieldType × Nat × Nat := (⟨"RedoShelf", "commit", "()I"⟩, prog_1_method_5_code, 3, some .int, 4, 99)
def M_RS_checkpoint : MethodName × ByteArray × Nat × Option FieldType × Nat × Nat := (⟨"RedoShelf", "checkpoint", "()I"⟩, prog_1_method_6_code, 2, some .int, 2, 48)
def M_RS_recover : MethodName × ByteArray × Nat × Option FieldType × Nat × Nat := (⟨"RedoShelf", "recover", "()I"⟩, prog_1_method_7_code, 3, some .int, 5, 113)
def M_RS_step : MethodName × ByteArray × Nat × Option FieldType × Nat × Nat := (⟨"RedoShelf", "step", "(I)I"⟩, prog_1_method_8_code, 4, some .int, 4, 85)
def M_RS_crash : MethodName × ByteArray × Nat × Option FieldType × Nat × Nat := (⟨"RedoShelf", "crash", "(II)I"⟩, prog_1_method_9_code, 3, some .int, 2, 48)
def M_RS_get : MethodName × ByteArray × Nat × Option FieldType × Nat × Nat := (⟨"RedoShelf", "get", "(II)I"⟩, prog_1_method_10_code, 3, some .int, 3, 67)
def M_RS_read : MethodName × ByteArray × Nat × Option FieldType × Nat × Nat := (⟨"RedoShelf", "read", "(II)I"⟩, prog_1_method_11_code, 3, some .int, 2, 45)
def M_RS_stored : MethodName × ByteArray × Nat × Option FieldType × Nat × Nat := (⟨"RedoShelf", "stored", "(II)I"⟩, prog_1_method_12_code, 3, some .int, 1, 22)
def M_RS_cached : MethodName × ByteArray × Nat × Option FieldType × Nat × Nat := (⟨"RedoShelf", "cached", "()I"⟩, prog_1_method_13_code, 1, some .int, 1, 20)
def M_RS_state : MethodName × ByteArray × Nat × Option FieldType × Nat × Nat := (⟨"RedoShelf", "state", "()I"⟩, prog_1_method_14_code, 1, some .int, 1, 20)
def M_RS_number : MethodName × ByteArray × Nat × Option FieldType × Nat × Nat := (⟨"RedoShelf", "number", "()I"⟩, prog_1_method_15_code, 1, some .int, 0, 0)
def M_RS_used : MethodName × ByteArray × Nat × Option FieldType × Nat × Nat := (⟨"RedoShelf", "used", "()I"⟩, prog_1_method_16_code, 1, some .int, 0, 0)
def M_RS_changed : MethodName × ByteArray × Nat × Option FieldType × Nat × Nat := (⟨"RedoShelf", "changed", "(I)I"⟩, prog_1_method_17_code, 3, some .int, 1, 21)
def M_RS_left : MethodName × ByteArray × Nat × Option FieldType × Nat × Nat := (⟨"RedoShelf", "left", "()I"⟩, prog_1_method_18_code, 1, some .int, 1, 20)
def M_RS_isBlock : MethodName × ByteArray × Nat × Option FieldType × Nat × Nat := (⟨"RedoShelf", "isBlock", "(I)Z"⟩, prog_1_method_19_code, 1, some .boolean, 0, 0)
def M_RS_isBlockWord : MethodName × ByteArray × Nat × Option FieldType × Nat × Nat := (⟨"RedoShelf", "isBlockWord", "(II)Z"⟩, prog_1_method_20_code, 2, some .boolean, 1, 20)
def M_RS_isSectorWord : MethodName × ByteArray × Nat × Option FieldType × Nat × Nat := (⟨"RedoShelf", "isSectorWord", "(II)Z"⟩, prog_1_method_21_code, 2, some .boolean, 0, 0)
def M_RS_mix : MethodName × ByteArray × Nat × Option FieldType × Nat × Nat := (⟨"RedoShelf", "mix", "(II)I"⟩, prog_1_method_22_code, 3, some .int, 0, 0)
def M_RS_logSector : MethodName × ByteArray × Nat × Option FieldType × Nat × Nat := (⟨"RedoShelf", "logSector", "(I)I"⟩, prog_1_method_23_code, 1, some .int, 0, 0)
def M_RS_isIdle : MethodName × ByteArray × Nat × Option FieldType × Nat × Nat := (⟨"RedoShelf", "isIdle", "()Z"⟩, prog_1_method_24_code, 1, some .boolean, 1, 20)
def M_RS_isRevoked : MethodName × ByteArray × Nat × Option FieldType × Nat × Nat := (⟨"RedoShelf", "isRevoked", "(I)Z"⟩, prog_1_method_25_code, 2, some .boolean, 0, 0)
def M_RS_volumeWord : MethodName × ByteArray × Nat × Option FieldType × Nat × Nat := (⟨"RedoShelf", "volumeWord", "(II)I"⟩, prog_1_method_26_code, 3, some .int, 2, 45)
def M_RS_beginImage : MethodName × ByteArray × Nat × Option FieldType × Nat × Nat := (⟨"RedoShelf", "beginImage", "(I)V"⟩, prog_1_method_27_code, 3, none, 3, 67)
def M_RS_planRowSector : MethodName × ByteArray × Nat × Option FieldType × Nat × Nat := (⟨"RedoShelf", "planRowSector", "(I)V"⟩, prog_1_method_28_code, 2, none, 1, 26)
def M_RS_planHead : MethodName × ByteArray × Nat × Option FieldType × Nat × Nat := (⟨"RedoShelf", "planHead", "(II)V"⟩, prog_1_method_29_code, 3, none, 1, 26)
def M_RS_finishJob : MethodName × ByteArray × Nat × Option FieldType × Nat × Nat := (⟨"RedoShelf", "finishJob", "()V"⟩, prog_1_method_30_code, 2, none, 3, 64)
def M_RS_finishCommit : MethodName × ByteArray × Nat × Option FieldType × Nat × Nat := (⟨"RedoShelf", "finishCommit", "()V"⟩, prog_1_method_31_code, 2, none, 2, 43)
def M_RS_comeUp : MethodName × ByteArray × Nat × Option FieldType × Nat × Nat := (⟨"RedoShelf", "comeUp", "(II)V"⟩, prog_1_method_32_code, 3, none, 1, 21)
def M_DV_waiting : MethodName × ByteArray × Nat × Option FieldType × Nat × Nat := (⟨"RedoShelf$Device", "waiting", "()I"⟩, prog_2_method_2_code, 1, some .int, 0, 0)
def M_DV_ownWord : MethodName × ByteArray × Nat × Option FieldType × Nat × Nat := (⟨"RedoShelf$Device", "ownWord", "(II)I"⟩, prog_2_method_3_code, 3, some .int, 0, 0)
def M_DV_newestWord : MethodName × ByteArray × Nat × Option FieldType × Nat × Nat := (⟨"RedoShelf$Device", "newestWord", "(II)I"⟩, prog_2_method_4_code, 4, some .int, 1, 22)
def M_DV_write : MethodName × ByteArray × Nat × Option FieldType × Nat × Nat := (⟨"RedoShelf$Device", "write", "(I[II)V"⟩, prog_2_method_5_code, 4, none, 0, 0)
def M_DV_writeChanged : MethodName × ByteArray × Nat × Option FieldType × Nat × Nat := (⟨"RedoShelf$Device", "writeChanged", "(III)V"⟩, prog_2_method_6_code, 6, none, 2, 45)
def M_DV_flush : MethodName × ByteArray × Nat × Option FieldType × Nat × Nat := (⟨"RedoShelf$Device", "flush", "()V"⟩, prog_2_method_7_code, 2, none, 1, 22)
def M_DV_breakDown : MethodName × ByteArray × Nat × Option FieldType × Nat × Nat := (⟨"RedoShelf$Device", "breakDown", "(II)I"⟩, prog_2_method_8_code, 7, some .int, 1, 22)
def M_DV_isKept : MethodName × ByteArray × Nat × Option FieldType × Nat × Nat := (⟨"RedoShelf$Device", "isKept", "(II)Z"⟩, prog_2_method_9_code, 2, some .boolean, 0, 0)
def M_DV_settle : MethodName × ByteArray × Nat × Option FieldType × Nat × Nat := (⟨"RedoShelf$Device", "settle", "(II)V"⟩, prog_2_method_10_code, 3, none, 0, 0)
def M_IM_size : MethodName × ByteArray × Nat × Option FieldType × Nat × Nat := (⟨"RedoShelf$Images", "size", "()I"⟩, prog_3_method_2_code, 1, some .int, 0, 0)
def M_IM_holds : MethodName × ByteArray × Nat × Option FieldType × Nat × Nat := (⟨"RedoShelf$Images", "holds", "(I)Z"⟩, prog_3_method_3_code, 2, some .boolean, 0, 0)
def M_IM_word : MethodName × ByteArray × Nat × Option FieldType × Nat × Nat := (⟨"RedoShelf$Images", "word", "(II)I"⟩, prog_3_method_4_code, 3, some .int, 0, 0)
def M_IM_setWord : MethodName × ByteArray × Nat × Option FieldType × Nat × Nat := (⟨"RedoShelf$Images", "setWord", "(III)V"⟩, prog_3_method_5_code, 4, none, 0, 0)
def M_IM_hold : MethodName × ByteArray × Nat × Option FieldType × Nat × Nat := (⟨"RedoShelf$Images", "hold", "(I)V"⟩, prog_3_method_6_code, 2, none, 0, 0)
def M_IM_drop : MethodName × ByteArray × Nat × Option FieldType × Nat × Nat := (⟨"RedoShelf$Images", "drop", "(I)V"⟩, prog_3_method_7_code, 2, none, 0, 0)
def M_IM_copyFrom : MethodName × ByteArray × Nat × Option FieldType × Nat × Nat := (⟨"RedoShelf$Images", "copyFrom", "(LRedoShelf$Images;I)V"⟩, prog_3_method_8_code, 3, none, 1, 21)
def M_IM_clear : MethodName × ByteArray × Nat × Option FieldType × Nat × Nat := (⟨"RedoShelf$Images", "clear", "()V"⟩, prog_3_method_9_code, 2, none, 0, 0)
def M_RW_length : MethodName × ByteArray × Nat × Option FieldType × Nat × Nat := (⟨"RedoShelf$Row", "length", "()I"⟩, prog_6_method_2_code, 1, some .int, 0, 0)
def M_RW_word : MethodName × ByteArray × Nat × Option FieldType × Nat × Nat := (⟨"RedoShelf$Row", "word", "(II)I"⟩, prog_6_method_3_code, 3, some .int, 0, 0)
def M_RW_build : MethodName × ByteArray × Nat × Option FieldType × Nat × Nat := (⟨"RedoShelf$Row", "build", "(LRedoShelf$Images;II)V"⟩, prog_6_method_4_code, 6, none, 3, 74)
def M_RW_addGroup : MethodName × ByteArray × Nat × Option FieldType × Nat × Nat := (⟨"RedoShelf$Row", "addGroup", "(LRedoShelf$Images;II)V"⟩, prog_6_method_5_code, 8, none, 2, 47)
def M_RW_add : MethodName × ByteArray × Nat × Option FieldType × Nat × Nat := (⟨"RedoShelf$Row", "add", "(IIII)V"⟩, prog_6_method_6_code, 6, none, 1, 22)
def M_LR_size : MethodName × ByteArray × Nat × Option FieldType × Nat × Nat := (⟨"RedoShelf$LogReader", "size", "()I"⟩, prog_5_method_2_code, 1, some .int, 0, 0)
def M_LR_block : MethodName × ByteArray × Nat × Option FieldType × Nat × Nat := (⟨"RedoShelf$LogReader", "block", "(I)I"⟩, prog_5_method_3_code, 2, some .int, 0, 0)
def M_LR_word : MethodName × ByteArray × Nat × Option FieldType × Nat × Nat := (⟨"RedoShelf$LogReader", "word", "(II)I"⟩, prog_5_method_4_code, 3, some .int, 1, 22)
def M_LR_isToReplay : MethodName × ByteArray × Nat × Option FieldType × Nat × Nat := (⟨"RedoShelf$LogReader", "isToReplay", "(I)Z"⟩, prog_5_method_5_code, 2, some .boolean, 0, 0)
def M_LR_numberBehind : MethodName × ByteArray × Nat × Option FieldType × Nat × Nat := (⟨"RedoShelf$LogReader", "numberBehind", "()I"⟩, prog_5_method_6_code, 1, some .int, 0, 0)
def M_LR_placeBehind : MethodName × ByteArray × Nat × Option FieldType × Nat × Nat := (⟨"RedoShelf$LogReader", "placeBehind", "()I"⟩, prog_5_method_7_code, 1, some .int, 0, 0)
def M_LR_scan : MethodName × ByteArray × Nat × Option FieldType × Nat × Nat := (⟨"RedoShelf$LogReader", "scan", "(LRedoShelf$Device;)V"⟩, prog_5_method_8_code, 3, none, 4, 91)
def M_LR_takeHead : MethodName × ByteArray × Nat × Option FieldType × Nat × Nat := (⟨"RedoShelf$LogReader", "takeHead", "(LRedoShelf$Device;)V"⟩, prog_5_method_9_code, 2, none, 2, 45)
def M_LR_takeLog : MethodName × ByteArray × Nat × Option FieldType × Nat × Nat := (⟨"RedoShelf$LogReader", "takeLog", "(LRedoShelf$Device;)V"⟩, prog_5_method_10_code, 4, none, 2, 45)
def M_LR_takeTransaction : MethodName × ByteArray × Nat × Option FieldType × Nat × Nat := (⟨"RedoShelf$LogReader", "takeTransaction", "(I)Z"⟩, prog_5_method_11_code, 4, some .boolean, 3, 68)
def M_LR_passGroups : MethodName × ByteArray × Nat × Option FieldType × Nat × Nat := (⟨"RedoShelf$LogReader", "passGroups", "(I)V"⟩, prog_5_method_12_code, 6, none, 2, 43)
def M_LR_passRevocations : MethodName × ByteArray × Nat × Option FieldType × Nat × Nat := (⟨"RedoShelf$LogReader", "passRevocations", "()I"⟩, prog_5_method_13_code, 2, some .int, 2, 43)
def M_LR_noteImage : MethodName × ByteArray × Nat × Option FieldType × Nat × Nat := (⟨"RedoShelf$LogReader", "noteImage", "(II)V"⟩, prog_5_method_14_code, 3, none, 0, 0)
def M_LR_isOwn : MethodName × ByteArray × Nat × Option FieldType × Nat × Nat := (⟨"RedoShelf$LogReader", "isOwn", "(I)Z"⟩, prog_5_method_15_code, 2, some .boolean, 1, 22)
def M_LR_passSector : MethodName × ByteArray × Nat × Option FieldType × Nat × Nat := (⟨"RedoShelf$LogReader", "passSector", "()V"⟩, prog_5_method_16_code, 2, none, 1, 22)
def M_LR_wordAt : MethodName × ByteArray × Nat × Option FieldType × Nat × Nat := (⟨"RedoShelf$LogReader", "wordAt", "(II)I"⟩, prog_5_method_17_code, 3, some .int, 0, 0)
def M_JB_isRunning : MethodName × ByteArray × Nat × Option FieldType × Nat × Nat := (⟨"RedoShelf$Job", "isRunning", "()Z"⟩, prog_4_method_2_code, 1, some .boolean, 0, 0)
def M_JB_kind : MethodName × ByteArray × Nat × Option FieldType × Nat × Nat := (⟨"RedoShelf$Job", "kind", "()I"⟩, prog_4_method_3_code, 1, some .int, 0, 0)
def M_JB_remaining : MethodName × ByteArray × Nat × Option FieldType × Nat × Nat := (⟨"RedoShelf$Job", "remaining", "()I"⟩, prog_4_method_4_code, 1, some .int, 0, 0)
def M_JB_begin : MethodName × ByteArray × Nat × Option FieldType × Nat × Nat := (⟨"RedoShelf$Job", "begin", "(I)V"⟩, prog_4_method_5_code, 2, none, 0, 0)
def M_JB_end : MethodName × ByteArray × Nat × Option FieldType × Nat × Nat := (⟨"RedoShelf$Job", "end", "()V"⟩, prog_4_method_6_code, 1, none, 1, 21)
def M_JB_addFlush : MethodName × ByteArray × Nat × Option FieldType × Nat × Nat := (⟨"RedoShelf$Job", "addFlush", "()V"⟩, prog_4_method_7_code, 1, none, 0, 0)
def M_JB_addWrite : MethodName × ByteArray × Nat × Option FieldType × Nat × Nat := (⟨"RedoShelf$Job", "addWrite", "(IIIII)V"⟩, prog_4_method_8_code, 7, none, 0, 0)
def M_JB_doNext : MethodName × ByteArray × Nat × Option FieldType × Nat × Nat := (⟨"RedoShelf$Job", "doNext", "(LRedoShelf$Device;)V"⟩, prog_4_method_9_code, 2, none, 2, 43)
def M_MD_read : MethodName × ByteArray × Nat × Option FieldType × Nat × Nat := (⟨"RedoShelfModel", "read", "(II)I"⟩, prog_8_method_2_code, 5, some .int, 0, 0)
def M_MD_stored : MethodName × ByteArray × Nat × Option FieldType × Nat × Nat := (⟨"RedoShelfModel", "stored", "(II)I"⟩, prog_8_method_3_code, 3, some .int, 0, 0)
def M_MD_cached : MethodName × ByteArray × Nat × Option FieldType × Nat × Nat := (⟨"RedoShelfModel", "cached", "()I"⟩, prog_8_method_4_code, 1, some .int, 0, 0)
def M_MD_writeOut : MethodName × ByteArray × Nat × Option FieldType × Nat × Nat := (⟨"RedoShelfModel", "writeOut", "(I)V"⟩, prog_8_method_5_code, 3, none, 0, 0)
def M_MD_settle : MethodName × ByteArray × Nat × Option FieldType × Nat × Nat := (⟨"RedoShelfModel", "settle", "(II)V"⟩, prog_8_method_6_code, 4, none, 0, 0)
def M_MD_flush : MethodName × ByteArray × Nat × Option FieldType × Nat × Nat := (⟨"RedoShelfModel", "flush", "()V"⟩, prog_8_method_7_code, 2, none, 1, 23)
def M_MD_say : MethodName × ByteArray × Nat × Option FieldType × Nat × Nat := (⟨"RedoShelfModel", "say", "(IIII)V"⟩, prog_8_method_8_code, 5, none, 0, 0)
def M_MD_mix : MethodName × ByteArray × Nat × Option FieldType × Nat × Nat := (⟨"RedoShelfModel", "mix", "(II)I"⟩, prog_8_method_9_code, 3, some .int, 0, 0)
def M_MD_isBlock : MethodName × ByteArray × Nat × Option FieldType × Nat × Nat := (⟨"RedoShelfModel", "isBlock", "(I)Z"⟩, prog_8_method_10_code, 1, some .boolean, 0, 0)
def M_MD_isWord : MethodName × ByteArray × Nat × Option FieldType × Nat × Nat := (⟨"RedoShelfModel", "isWord", "(I)Z"⟩, prog_8_method_11_code, 1, some .boolean, 0, 0)
def M_MD_countOf : MethodName × ByteArray × Nat × Option FieldType × Nat × Nat := (⟨"RedoShelfModel", "countOf", "(I)I"⟩, prog_8_method_12_code, 4, some .int, 0, 0)
def M_MD_get : MethodName × ByteArray × Nat × Option FieldType × Nat × Nat := (⟨"RedoShelfModel", "get", "(II)I"⟩, prog_8_method_13_code, 3, some .int, 1, 24)
def M_MD_idle : MethodName × ByteArray × Nat × Option FieldType × Nat × Nat := (⟨"RedoShelfModel", "idle", "()Z"⟩, prog_8_method_14_code, 1, some .boolean, 0, 0)
def M_MD_put : MethodName × ByteArray × Nat × Option FieldType × Nat × Nat := (⟨"RedoShelfModel", "put", "(III)Z"⟩, prog_8_method_15_code, 5, some .boolean, 2, 46)
def M_MD_revoke : MethodName × ByteArray × Nat × Option FieldType × Nat × Nat := (⟨"RedoShelfModel", "revoke", "(I)Z"⟩, prog_8_method_16_code, 2, some .boolean, 1, 20)
def M_MD_direct : MethodName × ByteArray × Nat × Option FieldType × Nat × Nat := (⟨"RedoShelfModel", "direct", "(III)Z"⟩, prog_8_method_17_code, 5, some .boolean, 1, 24)
def M_MD_changed : MethodName × ByteArray × Nat × Option FieldType × Nat × Nat := (⟨"RedoShelfModel", "changed", "(I)I"⟩, prog_8_method_18_code, 2, some .int, 1, 20)
def M_MD_rowLength : MethodName × ByteArray × Nat × Option FieldType × Nat × Nat := (⟨"RedoShelfModel", "rowLength", "()I"⟩, prog_8_method_19_code, 2, some .int, 1, 23)
def M_MD_imageBlock : MethodName × ByteArray × Nat × Option FieldType × Nat × Nat := (⟨"RedoShelfModel", "imageBlock", "(I)I"⟩, prog_8_method_20_code, 5, some .int, 0, 0)
def M_MD_groupWord : MethodName × ByteArray × Nat × Option FieldType × Nat × Nat := (⟨"RedoShelfModel", "groupWord", "(II)I"⟩, prog_8_method_21_code, 8, some .int, 1, 24)
def M_MD_revocationWord : MethodName × ByteArray × Nat × Option FieldType × Nat × Nat := (⟨"RedoShelfModel", "revocationWord", "()I"⟩, prog_8_method_22_code, 3, some .int, 0, 0)
def M_MD_body : MethodName × ByteArray × Nat × Option FieldType × Nat × Nat := (⟨"RedoShelfModel", "body", "(I)V"⟩, prog_8_method_23_code, 4, none, 2, 51)
def M_MD_sum : MethodName × ByteArray × Nat × Option FieldType × Nat × Nat := (⟨"RedoShelfModel", "sum", "(I)I"⟩, prog_8_method_24_code, 5, some .int, 3, 74)
def M_MD_commit : MethodName × ByteArray × Nat × Option FieldType × Nat × Nat := (⟨"RedoShelfModel", "commit", "()I"⟩, prog_8_method_25_code, 2, some .int, 2, 44)
def M_MD_commitAction : MethodName × ByteArray × Nat × Option FieldType × Nat × Nat := (⟨"RedoShelfModel", "commitAction", "(I)V"⟩, prog_8_method_26_code, 4, none, 4, 98)
def M_MD_committed : MethodName × ByteArray × Nat × Option FieldType × Nat × Nat := (⟨"RedoShelfModel", "committed", "()V"⟩, prog_8_method_27_code, 4, none, 0, 0)
def M_MD_countPending : MethodName × ByteArray × Nat × Option FieldType × Nat × Nat := (⟨"RedoShelfModel", "countPending", "()I"⟩, prog_8_method_28_code, 3, some .int, 0, 0)
def M_MD_checkpoint : MethodName × ByteArray × Nat × Option FieldType × Nat × Nat := (⟨"RedoShelfModel", "checkpoint", "()I"⟩, prog_8_method_29_code, 1, some .int, 1, 22)
def M_MD_checkpointAction : MethodName × ByteArray × Nat × Option FieldType × Nat × Nat := (⟨"RedoShelfModel", "checkpointAction", "(I)V"⟩, prog_8_method_30_code, 5, none, 2, 44)
def M_MD_checkpointed : MethodName × ByteArray × Nat × Option FieldType × Nat × Nat := (⟨"RedoShelfModel", "checkpointed", "()V"⟩, prog_8_method_31_code, 2, none, 0, 0)
def M_MD_logWord : MethodName × ByteArray × Nat × Option FieldType × Nat × Nat := (⟨"RedoShelfModel", "logWord", "(II)I"⟩, prog_8_method_32_code, 3, some .int, 1, 24)
def M_MD_mixSector : MethodName × ByteArray × Nat × Option FieldType × Nat × Nat := (⟨"RedoShelfModel", "mixSector", "(II)I"⟩, prog_8_method_33_code, 5, some .int, 2, 46)
def M_MD_validAt : MethodName × ByteArray × Nat × Option FieldType × Nat × Nat := (⟨"RedoShelfModel", "validAt", "(II)I"⟩, prog_8_method_34_code, 11, some .int, 3, 70)
def M_MD_findHead : MethodName × ByteArray × Nat × Option FieldType × Nat × Nat := (⟨"RedoShelfModel", "findHead", "()V"⟩, prog_8_method_35_code, 2, none, 1, 24)
def M_MD_findRevocations : MethodName × ByteArray × Nat × Option FieldType × Nat × Nat := (⟨"RedoShelfModel", "findRevocations", "()V"⟩, prog_8_method_36_code, 5, none, 4, 100)
def M_MD_isRevocation : MethodName × ByteArray × Nat × Option FieldType × Nat × Nat := (⟨"RedoShelfModel", "isRevocation", "(II)Z"⟩, prog_8_method_37_code, 4, some .boolean, 2, 46)
def M_MD_replay : MethodName × ByteArray × Nat × Option FieldType × Nat × Nat := (⟨"RedoShelfModel", "replay", "(I)I"⟩, prog_8_method_38_code, 9, some .int, 5, 124)
def M_MD_recover : MethodName × ByteArray × Nat × Option FieldType × Nat × Nat := (⟨"RedoShelfModel", "recover", "()I"⟩, prog_8_method_39_code, 1, some .int, 6, 152)
def M_MD_recoveryAction : MethodName × ByteArray × Nat × Option FieldType × Nat × Nat := (⟨"RedoShelfModel", "recoveryAction", "(I)V"⟩, prog_8_method_40_code, 3, none, 6, 152)
def M_MD_recovered : MethodName × ByteArray × Nat × Option FieldType × Nat × Nat := (⟨"RedoShelfModel", "recovered", "()V"⟩, prog_8_method_41_code, 2, none, 1, 24)
def M_MD_finish : MethodName × ByteArray × Nat × Option FieldType × Nat × Nat := (⟨"RedoShelfModel", "finish", "()V"⟩, prog_8_method_42_code, 2, none, 2, 45)
def M_MD_step : MethodName × ByteArray × Nat × Option FieldType × Nat × Nat := (⟨"RedoShelfModel", "step", "(I)I"⟩, prog_8_method_43_code, 3, some .int, 7, 174)
def M_MD_crash : MethodName × ByteArray × Nat × Option FieldType × Nat × Nat := (⟨"RedoShelfModel", "crash", "(II)I"⟩, prog_8_method_44_code, 7, some .int, 1, 23)
def M_MD_state : MethodName × ByteArray × Nat × Option FieldType × Nat × Nat := (⟨"RedoShelfModel", "state", "()I"⟩, prog_8_method_45_code, 1, some .int, 0, 0)
def M_MD_number : MethodName × ByteArray × Nat × Option FieldType × Nat × Nat := (⟨"RedoShelfModel", "number", "()I"⟩, prog_8_method_46_code, 1, some .int, 0, 0)
def M_MD_used : MethodName × ByteArray × Nat × Option FieldType × Nat × Nat := (⟨"RedoShelfModel", "used", "()I"⟩, prog_8_method_47_code, 1, some .int, 0, 0)
def M_MD_left : MethodName × ByteArray × Nat × Option FieldType × Nat × Nat := (⟨"RedoShelfModel", "left", "()I"⟩, prog_8_method_48_code, 1, some .int, 0, 0)
def M_JA_fill : MethodName × ByteArray × Nat × Option FieldType × Nat × Nat := (⟨"java/util/Arrays", "fill", "([II)V"⟩, prog_11_method_103_code, 4, none, 0, 0)
end
section
/-! THE SMALL MACHINE: the world behind the constructors is a fixed list of cells (lay); a method's walk is WP, over a pure heap of ints. -/
abbrev xv : Type := Int32 ⊕ Nat
abbrev xh : Type := Nat → Nat → Int32
abbrev xE : Type := va_G × (Nat → Nat) × ClassId × ClassId
abbrev xM : Type := MethodName × ByteArray × Nat × Option FieldType × Nat × Nat
def hu (h : xh) (k : Nat) (f : Nat → Int32) : xh := fun j => if j = k then f else h j
theorem hu_s {h : xh} {k : Nat} {f : Nat → Int32} : hu h k f k = f := by simp [hu]
theorem hu_n {h : xh} {k j : Nat} {f : Nat → Int32} (e : j ≠ k) : hu h k f j = h j := by simp [hu, e]
def xV (E : xE) (v : xv) : Value := match v with
  | .inl x => .int x
  | .inr k => .ref (E.2.1 k)
theorem xV_cat (E : xE) (v : xv) : (xV E v).category = 1 := by cases v <;> rfl
def xF (E : xE) (f : Nat → Int32) : Nat → List (Option Nat) → List Value
  | _, [] => []
  | j, none :: r => .int (f j) :: xF E f (j + 1) r
  | j, some q :: r => .ref (E.2.1 q) :: xF E f (j + 1) r
theorem xF_cong {E : xE} {f g : Nat → Int32} : ∀ (fs : List (Option Nat)) (i : Nat), (∀ x, i ≤ x → f x = g x) → xF E f i fs = xF E g i fs
  | [], _, _ => rfl
  | none :: r, i, e => by
    simp only [xF]
    rw [e i (Nat.le_refl i), xF_cong r (i + 1) (fun x hx => e x (by omega))]
  | some q :: r, i, e => by
    simp only [xF]
    rw [xF_cong r (i + 1) (fun x hx => e x (by omega))]
theorem xF_len {E : xE} {f : Nat → Int32} : ∀ (fs : List (Option Nat)) (i : Nat), (xF E f i fs).length = fs.length
  | [], _ => rfl
  | none :: r, i => by simp [xF, xF_len r (i + 1)]
  | some q :: r, i => by simp [xF, xF_len r (i + 1)]
theorem xF_int {E : xE} {f : Nat → Int32} : ∀ (fs : List (Option Nat)) (i j : Nat), fs[j]? = some none → (xF E f i fs)[j]? = some (.int (f (i + j)))
  | [], _, _, h => by simp at h
  | none :: r, i, 0, _ => by simp [xF]
  | some q :: r, i, 0, h => by simp at h
  | none :: r, i, j + 1, h => by
    simp only [xF, List.getElem?_cons_succ] at h ⊢
    rw [xF_int r (i + 1) j h, show i + 1 + j = i + (j + 1) by omega]
  | some q :: r, i, j + 1, h => by
    simp only [xF, List.getElem?_cons_succ] at h ⊢
    rw [xF_int r (i + 1) j h, show i + 1 + j = i + (j + 1) by omega]
theorem xF_ref {E : xE} {f : Nat → Int32} {z : Nat} : ∀ (fs : List (Option Nat)) (i j : Nat), fs[j]? = some (some z) → (xF E f i fs)[j]? = some (.ref (E.2.1 z))
  | [], _, _, h => by simp at h
  | none :: r, i, 0, h => by simp at h
  | some q :: r, i, 0, h => by
    simp only [List.getElem?_cons_zero, Option.some.injEq] at h
    simp [xF, h]
  | none :: r, i, j + 1, h => by
    simp only [xF, List.getElem?_cons_succ] at h ⊢
    exact xF_ref r (i + 1) j h
  | some q :: r, i, j + 1, h => by
    simp only [xF, List.getElem?_cons_succ] at h ⊢
    exact xF_ref r (i + 1) j h
theorem xF_set {E : xE} {f : Nat → Int32} {v : Int32} : ∀ (fs : List (Option Nat)) (i j : Nat), fs[j]? = some none → (xF E f i fs).set j (.int v) = xF E (upd f (i + j) v) i fs
  | [], _, _, h => by simp at h
  | none :: r, i, 0, _ => by
    simp only [xF, List.set_cons_zero, Nat.add_zero]
    rw [xF_cong (g := upd f i v) r (i + 1) (fun x hx => by simp [upd, show ¬ x = i by omega])]
    simp [upd]
  | some q :: r, i, 0, h => by simp at h
  | none :: r, i, j + 1, h => by
    simp only [List.getElem?_cons_succ] at h
    simp only [xF, List.set_cons_succ]
    rw [xF_set r (i + 1) j h, show i + 1 + j = i + (j + 1) by omega]
    simp [upd]
  | some q :: r, i, j + 1, h => by
    simp only [List.getElem?_cons_succ] at h
    simp only [xF, List.set_cons_succ]
    rw [xF_set r (i + 1) j h, show i + 1 + j = i + (j + 1) by omega]
def xC (E : xE) (f : Nat → Int32) (q : xk) : va_E := match q with
  | .inl o => .inr (o.1, xF E f 0 o.2)
  | .inr a => .inl ((bif a.1 then E.2.2.2 else E.2.2.1), a.2, .inl f)
def xW (E : xE) (h : xh) : Nat → List xk → va_W
  | _, [] => []
  | k, q :: r => (E.2.1 k, xC E (h k) q) :: xW E h (k + 1) r
theorem xW_get {E : xE} {h : xh} : ∀ (L : List xk) (i k : Nat), (xW E h i L)[k]? = (L[k]?).map (fun q => (E.2.1 (i + k), xC E (h (i + k)) q))
  | [], _, _ => by simp [xW]
  | q :: r, i, 0 => by simp [xW]
  | q :: r, i, k + 1 => by
    simp only [xW, List.getElem?_cons_succ]
    rw [xW_get r (i + 1) k, show i + 1 + k = i + (k + 1) by omega]
theorem xW_cong {E : xE} {h h' : xh} : ∀ (L : List xk) (i : Nat), (∀ x, i ≤ x → h x = h' x) → xW E h i L = xW E h' i L
  | [], _, _ => rfl
  | q :: r, i, e => by
    simp only [xW]
    rw [e i (Nat.le_refl i), xW_cong r (i + 1) (fun x hx => e x (by omega))]
theorem xW_set {E : xE} {h : xh} {f : Nat → Int32} {q : xk} : ∀ (L : List xk) (i k : Nat), L[k]? = some q → (xW E h i L).set k (E.2.1 (i + k), xC E f q) = xW E (hu h (i + k) f) i L
  | [], _, _, e => by simp at e
  | z :: r, i, 0, e => by
    simp only [List.getElem?_cons_zero, Option.some.injEq] at e
    subst e
    simp only [xW, List.set_cons_zero, Nat.add_zero]
    rw [xW_cong (h' := hu h i f) r (i + 1) (fun x hx => by simp [hu, show ¬ x = i by omega])]
    simp [hu]
  | z :: r, i, k + 1, e => by
    simp only [List.getElem?_cons_succ] at e
    simp only [xW, List.set_cons_succ]
    have e2 := xW_set (E := E) (h := h) (f := f) r (i + 1) k e
    rw [show i + 1 + k = i + (k + 1) by omega] at e2
    rw [e2]
    have e3 : hu h (i + (k + 1)) f i = h i := hu_n (by omega)
    rw [e3]
def wld (E : xE) (h : xh) : va_W := xW E h 0 lay
theorem wld_get {E : xE} {h : xh} {k : Nat} {q : xk} (e : lay[k]? = some q) : (wld E h)[k]? = some (E.2.1 k, xC E (h k) q) := by
  unfold wld
  rw [xW_get, e]
  simp
theorem wld_set {E : xE} {h : xh} {k : Nat} {q : xk} {f : Nat → Int32} (e : lay[k]? = some q) : (wld E h).set k (E.2.1 k, xC E f q) = wld E (hu h k f) := by
  unfold wld
  have := xW_set (E := E) (h := h) (f := f) lay 0 k e
  rw [Nat.zero_add] at this
  exact this
theorem wld_addr {E : xE} {h h' : xh} {A : Nat → Prop} (hD : va_D A (wld E h)) : va_D A (wld E h') := by
  have key : ∀ (k : Nat) (x : Nat × va_E), (wld E h')[k]? = some x → ∃ y, (wld E h)[k]? = some y ∧ y.1 = x.1 := by
    intro k x hx
    unfold wld at hx ⊢
    rw [xW_get] at hx ⊢
    cases hq : lay[k]? with
    | none => rw [hq] at hx; cases hx
    | some q =>
      rw [hq] at hx
      cases hx
      exact ⟨_, rfl, rfl⟩
  refine ⟨fun i j x y hi hj hxy => ?_, fun k x hk => ?_⟩
  · obtain ⟨x', h1, h2⟩ := key i x hi
    obtain ⟨y', h3, h4⟩ := key j y hj
    exact hD.1 i j x' y' h1 h3 (h2.trans (hxy.trans h4.symm))
  · obtain ⟨x', h1, h2⟩ := key k x hk
    rw [← h2]
    exact hD.2 k x' h1
def isNest : Cond → Bool
  | .fieldLinkNest .. => true
  | .methodLinkNest .. => true
  | _ => false
def isGood (w : Cond) : Bool := k2_isCode w || goodWord w
def gW : List Cond := lw_tbl.filter isGood
def nW : List Cond := lw_tbl.filter isNest
theorem gW_in {w : Cond} (h : w ∈ lw_tbl) (g : isGood w = true) : w ∈ gW := List.mem_filter.mpr ⟨h, g⟩
theorem nW_in {w : Cond} (h : w ∈ lw_tbl) (g : isNest w = true) : w ∈ nW := List.mem_filter.mpr ⟨h, g⟩
theorem isGood_of {w : Cond} (h : isGood w = true) : (w.onTables && w.keeps) = true ∨ ∃ ty, w = .arrayClass ty := by
  unfold isGood at h
  rcases Bool.or_eq_true_iff.mp h with h | h
  · cases w <;> first | (simp [k2_isCode] at h; done) | exact Or.inl rfl
  · exact good_of_word h
def wM (μ : xM) : List Cond := .code μ.1 μ.2.1 μ.2.2.1 μ.2.2.2.1 :: gW
theorem wM_g {μ : xM} {w : Cond} (h : w ∈ gW) : w ∈ wM μ := List.mem_cons_of_mem _ h
def rmOf (d : Nat × Nat) : Room := { frames := d.1, cells := 0, slots := 0, locals := d.2 }
def xtys (E : xE) : List (ClassId × FieldType) := [(E.2.2.1, .int), (E.2.2.2, .boolean)]
def xK (E : xE) (U : State) : Prop := va_K E.1 vwCl (xtys E) U ∧ ∀ w ∈ nW, va_Nw w U
theorem xK.warm {E : xE} {s U : State} (hW : s.WarmedH U.vm) (h : xK E s) : xK E U := by
  refine ⟨va_K.moved hW.alike h.1, fun w hw => ?_⟩
  have h1 := h.2 w hw
  have h2 := (List.mem_filter.mp hw).2
  cases w <;> first | (simp [isNest] at h2; done) | exact va_Nw.warmF hW h1 | exact va_Nw.warmM hW h1
theorem xK.same {E : xE} {s U : State} (hW : s.vm = U.vm) (h : xK E s) : xK E U := by
  refine ⟨va_K.moved (by rw [hW]; exact Vm.Alike.refl U.vm) h.1, fun w hw => ?_⟩
  have h1 := h.2 w hw
  have h2 := (List.mem_filter.mp hw).2
  cases w <;> first | (simp [isNest] at h2; done) | exact va_Nw.same rfl hW h1
/-- what a method may change: the world's cells, and new ones -/
def xA (E : xE) (sz : Nat) : Nat → Prop := fun q => (∃ k, k < lay.length ∧ q = E.2.1 k) ∨ sz ≤ q
theorem xA_of {E : xE} {h : xh} {A : Nat → Prop} (hD : va_D A (wld E h)) {k : Nat} (hk : k < lay.length) : A (E.2.1 k) := by
  have h1 : lay[k]? = some lay[k] := List.getElem?_eq_getElem hk
  exact hD.2 k _ (wld_get h1)
theorem xA_D {E : xE} {h : xh} {A : Nat → Prop} {sz : Nat} (hD : va_D A (wld E h)) : va_D (xA E sz) (wld E h) := by
  refine ⟨hD.1, fun k x hk => ?_⟩
  unfold wld at hk
  rw [xW_get] at hk
  cases hq : lay[k]? with
  | none => rw [hq] at hk; cases hk
  | some q =>
    rw [hq] at hk
    cases hk
    exact Or.inl ⟨k, (List.getElem?_eq_some_iff.mp hq).1, by simp⟩
def xPc (E : xE) (sz : Nat) (h : xh) (as : List xv) : Array Value → State → Prop := va_Pc (as.map (xV E)) (fun U => U.heap.size = sz ∧ va_P E.1 vwCl (wld E h) U.heap ∧ xK E U ∧ va_D (fun _ => True) (wld E h))
def xQc (E : xE) (A : Nat → Prop) (Q : Option Int32 → xh → Prop) : Array Value → State → Outcome → State → Prop := fun _ st oc t => (∃ (r : Option Int32) (h' : xh), oc = .returned (r.map Value.int) ∧ Q r h' ∧ va_P E.1 vwCl (wld E h') t.heap ∧ va_D A (wld E h')) ∧ va_F A st t
def CX (E : xE) (μ : xM) (p : Program) (s : State) (m : MethodId) (args : Array Value) (meth : Method) (c : Code) (A : Nat → Prop) : Prop :=
  p.tables.exec = Jvm.exec ∧ c.code = μ.2.1 ∧ meth.sig.returnType = μ.2.2.2.1 ∧ c.maxLocals = μ.2.2.1 ∧ (∀ w ∈ wM μ, w.before args s = true) ∧ s.vm.findClass μ.1.cls = some m.cls ∧ meth.locks = false ∧ xK E s ∧ (∀ q, s.heap.size ≤ q → A q)
def xI (E : xE) (A : Nat → Prop) (s : State) (h : xh) (H : Heap) (locs : List Loc) : Prop := va_P E.1 vwCl (wld E h) H ∧ va_D A (wld E h) ∧ va_S A s.heap H locs
abbrev xls (E : xE) (ls : List (Nat × xv)) : List (Nat × Value) := ls.map (fun q => (q.1, xV E q.2))
/-- from this place of this method the machine comes to its end with Q -/
def WP (l : Launch) (E : xE) (μ : xM) (pc : Nat) (ls : List (Nat × xv)) (st : List xv) (h : xh) (Q : Option Int32 → xh → Prop) : Prop :=
  ∀ (p : Program) (e : Env) (s : State) (m : MethodId) (args : Array Value) (below : List Frame) (meth : Method) (c : Code) (A : Nat → Prop) (H : Heap) (locs : List Loc) (lsA : Array Slot),
    CX E μ p s m args meth c A → xI E A s h H locs → lv_has lsA μ.2.2.1 (xls E ls) →
    W p l e (rmOf μ.2.2.2.2) s m args below meth c H locs 0 0 (MQ below (xQc E A Q) args s 0 0 A) (F0 m pc lsA (st.map (xV E)))
def lget : List (Nat × xv) → Nat → Option xv
  | [], _ => none
  | (j, v) :: r, i => bif Nat.beq j i then some v else lget r i
def lrem (i : Nat) : List (Nat × xv) → List (Nat × xv)
  | [] => []
  | (j, v) :: r => bif Nat.beq j i then lrem i r else (j, v) :: lrem i r
def lins (i : Nat) (v : xv) : List (Nat × xv) → List (Nat × xv)
  | [] => [(i, v)]
  | (j, w) :: r => bif Nat.ble i j then (i, v) :: (j, w) :: r else (j, w) :: lins i v r
def lset (ls : List (Nat × xv)) (i : Nat) (v : xv) : List (Nat × xv) := lins i v (lrem i ls)
theorem lget_mem : ∀ {ls : List (Nat × xv)} {i : Nat} {v : xv}, lget ls i = some v → (i, v) ∈ ls
  | [], _, _, h => by cases h
  | (j, w) :: r, i, v, h => by
    unfold lget at h
    cases hb : Nat.beq j i with
    | true =>
      rw [hb] at h
      simp only [cond_true, Option.some.injEq] at h
      have := Nat.eq_of_beq_eq_true hb
      subst this; subst h
      exact List.mem_cons_self
    | false =>
      rw [hb] at h
      simp only [cond_false] at h
      exact List.mem_cons_of_mem _ (lget_mem h)
theorem lrem_mem {i : Nat} : ∀ {ls : List (Nat × xv)} {q : Nat × xv}, q ∈ lrem i ls → q ∈ ls ∧ ¬ q.1 = i
  | [], _, h => by cases h
  | (j, w) :: r, q, h => by
    unfold lrem at h
    cases hb : Nat.beq j i with
    | true =>
      rw [hb] at h
      simp only [cond_true] at h
      exact ⟨List.mem_cons_of_mem _ (lrem_mem h).1, (lrem_mem h).2⟩
    | false =>
      rw [hb] at h
      simp only [cond_false] at h
      rcases List.mem_cons.mp h with rfl | h
      · exact ⟨List.mem_cons_self, Nat.ne_of_beq_eq_false hb⟩
      · exact ⟨List.mem_cons_of_mem _ (lrem_mem h).1, (lrem_mem h).2⟩
theorem lins_mem {i : Nat} {v : xv} : ∀ {ls : List (Nat × xv)} {q : Nat × xv}, q ∈ lins i v ls → q = (i, v) ∨ q ∈ ls
  | [], _, h => by
    unfold lins at h
    exact Or.inl (List.mem_singleton.mp h)
  | (j, w) :: r, q, h => by
    unfold lins at h
    cases hb : Nat.ble i j with
    | true =>
      rw [hb] at h
      simp only [cond_true] at h
      rcases List.mem_cons.mp h with h | h
      · exact Or.inl h
      · exact Or.inr h
    | false =>
      rw [hb] at h
      simp only [cond_false] at h
      rcases List.mem_cons.mp h with h | h
      · exact Or.inr (by rw [h]; exact List.mem_cons_self)
      · rcases lins_mem h with h | h
        · exact Or.inl h
        · exact Or.inr (List.mem_cons_of_mem _ h)
theorem xls_get {E : xE} {ls : List (Nat × xv)} {lsA : Array Slot} {nL i : Nat} {v : xv} (hl : lv_has lsA nL (xls E ls)) (h : lget ls i = some v) : lsA[i]? = some (.val (xV E v)) :=
  hl.2.2 (i, xV E v) (List.mem_map.mpr ⟨(i, v), lget_mem h, rfl⟩)
theorem xls_set {E : xE} {ls ls' : List (Nat × xv)} {lsA : Array Slot} {nL i : Nat} {v : xv} {f : Nat × Value → Bool} (hf : f = (fun q => !(q.1 == i) && !(q.1 + 1 == i && q.2.category == 2))) (hl : lv_has lsA nL ((i, xV E v) :: (xls E ls).filter f)) (h : lset ls i v = ls') : lv_has lsA nL (xls E ls') := by
  refine ⟨hl.1, hl.2.1, fun q hq => hl.2.2 q ?_⟩
  subst h
  obtain ⟨z, hz, rfl⟩ := List.mem_map.mp hq
  rcases lins_mem hz with rfl | hz
  · exact List.mem_cons_self
  · obtain ⟨h1, h2⟩ := lrem_mem hz
    refine List.mem_cons_of_mem _ (List.mem_filter.mpr ⟨List.mem_map.mpr ⟨z, h1, rfl⟩, ?_⟩)
    rw [hf]
    simp [h2, xV_cat]
end
section
def ushr (x y : Int32) : Int32 := (x.toUInt32 >>> (y.toUInt32 &&& Int32.toUInt32 31)).toInt32
def irem (x y : Int32) : Int32 := x - x / y * y
def hw (h : xh) (k j : Nat) (v : Int32) : xh := fun a b => bif Nat.beq a k && Nat.beq b j then v else h a b
theorem hw_eq {h : xh} {k j : Nat} {v : Int32} : hu h k (upd (h k) j v) = hw h k j v := by
  funext a b
  unfold hu hw upd
  by_cases e1 : a = k
  · subst e1
    by_cases e2 : b = j
    · subst e2; simp
    · have : Nat.beq b j = false := by
        cases hb : Nat.beq b j with
        | true => exact absurd (Nat.eq_of_beq_eq_true hb) e2
        | false => rfl
      simp [e2, this]
  · have : Nat.beq a k = false := by
      cases hb : Nat.beq a k with
      | true => exact absurd (Nat.eq_of_beq_eq_true hb) e1
      | false => rfl
    simp [e1, this]
def hc (h : xh) (k0 k1 : Nat) (sp dp n : Int32) : xh := hu h k1 (va_cpy (h k0) (h k1) sp.toNatClampNeg dp.toNatClampNeg n.toNatClampNeg)
def lkeep (ks : List Nat) : List (Nat × xv) → List (Nat × xv)
  | [] => []
  | (j, v) :: r => bif ks.elem j then (j, v) :: lkeep ks r else lkeep ks r
theorem lkeep_mem {ks : List Nat} : ∀ {ls : List (Nat × xv)} {q : Nat × xv}, q ∈ lkeep ks ls → q ∈ ls
  | [], _, h => by cases h
  | (j, w) :: r, q, h => by
    unfold lkeep at h
    cases hb : ks.elem j with
    | true =>
      rw [hb] at h
      simp only [cond_true] at h
      rcases List.mem_cons.mp h with rfl | h
      · exact List.mem_cons_self
      · exact List.mem_cons_of_mem _ (lkeep_mem h)
    | false =>
      rw [hb] at h
      simp only [cond_false] at h
      exact List.mem_cons_of_mem _ (lkeep_mem h)
section RULES
variable {l : Launch} {E : xE} {μ : xM} {pc : Nat} {ls ls' : List (Nat × xv)} {st : List xv} {h : xh} {Q : Option Int32 → xh → Prop}
theorem wp_iconst {n : Int} {v : Int32} (hd : decode μ.2.1 pc = .ok (.iconst n, 1)) (hv : Int32.ofInt n = v) (k : WP l E μ (pc + 1) ls (.inl v :: st) h Q) : WP l E μ pc ls st h Q := by
  intro p e s m args below meth c A H locs lsA C I hl
  exact lv_iconst C.1 C.2.1 hd hv (k p e s m args below meth c A H locs lsA C I hl)
theorem wp_bipush {n : Int} {v : Int32} (hd : decode μ.2.1 pc = .ok (.bipush n, 2)) (hv : (Int8.ofInt n).toInt32 = v) (k : WP l E μ (pc + 2) ls (.inl v :: st) h Q) : WP l E μ pc ls st h Q := by
  intro p e s m args below meth c A H locs lsA C I hl
  exact lv_bipush C.1 C.2.1 hd hv (k p e s m args below meth c A H locs lsA C I hl)
theorem wp_sipush {n : Int} {v : Int32} (hd : decode μ.2.1 pc = .ok (.sipush n, 3)) (hv : (Int16.ofInt n).toInt32 = v) (k : WP l E μ (pc + 3) ls (.inl v :: st) h Q) : WP l E μ pc ls st h Q := by
  intro p e s m args below meth c A H locs lsA C I hl
  exact lv_sipush C.1 C.2.1 hd hv (k p e s m args below meth c A H locs lsA C I hl)
theorem wp_ldcN {idx : Nat} {v v2 : Int32} (hd : decode μ.2.1 pc = .ok (.ldc idx, 2)) (hw : Jvm.Cond.constant μ.1.cls idx v ∈ gW) (hv : v = v2) (k : WP l E μ (pc + 2) ls (.inl v2 :: st) h Q) : WP l E μ pc ls st h Q := by
  intro p e s m args below meth c A H locs lsA C I hl
  subst hv
  exact lv_ldc C.1 C.2.1 C.2.2.2.2.2.1 (C.2.2.2.2.1 _ (wM_g hw)) hd (k p e s m args below meth c A H locs lsA C I hl)
theorem wp_ldc {idx : Nat} {v : Int32} (hd : decode μ.2.1 pc = .ok (.ldc idx, 2)) (hw : Jvm.Cond.constant μ.1.cls idx v ∈ gW) (k : WP l E μ (pc + 2) ls (.inl v :: st) h Q) : WP l E μ pc ls st h Q := by
  intro p e s m args below meth c A H locs lsA C I hl
  exact lv_ldc C.1 C.2.1 C.2.2.2.2.2.1 (C.2.2.2.2.1 _ (wM_g hw)) hd (k p e s m args below meth c A H locs lsA C I hl)
theorem wp_iload_n {k : Fin 4} {x : Int32} (hd : decode μ.2.1 pc = .ok (.iload_n k, 1)) (hg : lget ls k.val = some (.inl x)) (kk : WP l E μ (pc + 1) ls (.inl x :: st) h Q) : WP l E μ pc ls st h Q := by
  intro p e s m args below meth c A H locs lsA C I hl
  exact lv_iload_n C.1 C.2.1 hd rfl (xls_get hl hg) (kk p e s m args below meth c A H locs lsA C I hl)
theorem wp_iload {i : Nat} {x : Int32} (hd : decode μ.2.1 pc = .ok (.iload i, 2)) (hg : lget ls i = some (.inl x)) (kk : WP l E μ (pc + 2) ls (.inl x :: st) h Q) : WP l E μ pc ls st h Q := by
  intro p e s m args below meth c A H locs lsA C I hl
  exact lv_iload C.1 C.2.1 hd (xls_get hl hg) (kk p e s m args below meth c A H locs lsA C I hl)
theorem wp_istore_n {k : Fin 4} {x : Int32} (hd : decode μ.2.1 pc = .ok (.istore_n k, 1)) (hn : k.val < μ.2.2.1) (hs : lset ls k.val (.inl x) = ls') (kk : WP l E μ (pc + 1) ls' st h Q) : WP l E μ pc ls (.inl x :: st) h Q := by
  intro p e s m args below meth c A H locs lsA C I hl
  exact lv_istore_n C.1 C.2.1 hd rfl hl hn rfl (fun lsB hB => kk p e s m args below meth c A H locs lsB C I (xls_set (v := .inl x) rfl hB hs))
theorem wp_istore {i : Nat} {x : Int32} (hd : decode μ.2.1 pc = .ok (.istore i, 2)) (hn : i < μ.2.2.1) (hs : lset ls i (.inl x) = ls') (kk : WP l E μ (pc + 2) ls' st h Q) : WP l E μ pc ls (.inl x :: st) h Q := by
  intro p e s m args below meth c A H locs lsA C I hl
  exact lv_istore C.1 C.2.1 hd hl hn rfl (fun lsB hB => kk p e s m args below meth c A H locs lsB C I (xls_set (v := .inl x) rfl hB hs))
theorem wp_aload_n {k : Fin 4} {x : Nat} (hd : decode μ.2.1 pc = .ok (.aload_n k, 1)) (hg : lget ls k.val = some (.inr x)) (kk : WP l E μ (pc + 1) ls (.inr x :: st) h Q) : WP l E μ pc ls st h Q := by
  intro p e s m args below meth c A H locs lsA C I hl
  exact lv_aload_n C.1 C.2.1 hd rfl (xls_get hl hg) (kk p e s m args below meth c A H locs lsA C I hl)
theorem wp_aload {i : Nat} {x : Nat} (hd : decode μ.2.1 pc = .ok (.aload i, 2)) (hg : lget ls i = some (.inr x)) (kk : WP l E μ (pc + 2) ls (.inr x :: st) h Q) : WP l E μ pc ls st h Q := by
  intro p e s m args below meth c A H locs lsA C I hl
  exact lv_aload C.1 C.2.1 hd (xls_get hl hg) (kk p e s m args below meth c A H locs lsA C I hl)
theorem wp_astore_n {k : Fin 4} {x : Nat} (hd : decode μ.2.1 pc = .ok (.astore_n k, 1)) (hn : k.val < μ.2.2.1) (hs : lset ls k.val (.inr x) = ls') (kk : WP l E μ (pc + 1) ls' st h Q) : WP l E μ pc ls (.inr x :: st) h Q := by
  intro p e s m args below meth c A H locs lsA C I hl
  exact lv_astore_n C.1 C.2.1 hd rfl hl hn rfl (fun lsB hB => kk p e s m args below meth c A H locs lsB C I (xls_set (v := .inr x) rfl hB hs))
theorem wp_astore {i : Nat} {x : Nat} (hd : decode μ.2.1 pc = .ok (.astore i, 2)) (hn : i < μ.2.2.1) (hs : lset ls i (.inr x) = ls') (kk : WP l E μ (pc + 2) ls' st h Q) : WP l E μ pc ls (.inr x :: st) h Q := by
  intro p e s m args below meth c A H locs lsA C I hl
  exact lv_astore C.1 C.2.1 hd hl hn rfl (fun lsB hB => kk p e s m args below meth c A H locs lsB C I (xls_set (v := .inr x) rfl hB hs))
theorem wp_iinc {i : Nat} {n : Int} {x v : Int32} (hd : decode μ.2.1 pc = .ok (.iinc i n, 3)) (hg : lget ls i = some (.inl x)) (hv : x + Int32.ofInt n = v) (hn : i < μ.2.2.1) (hs : lset ls i (.inl v) = ls') (kk : WP l E μ (pc + 3) ls' st h Q) : WP l E μ pc ls st h Q := by
  intro p e s m args below meth c A H locs lsA C I hl
  obtain ⟨k, hk⟩ := List.getElem?_of_mem (List.mem_map.mpr ⟨(i, .inl x), lget_mem hg, rfl⟩ : (i, xV E (.inl x)) ∈ xls E ls)
  exact lv_iinc C.1 C.2.1 hd hl hk hv hn rfl (fun lsB hB => kk p e s m args below meth c A H locs lsB C I (xls_set (v := .inl v) rfl hB hs))
theorem wp_iadd {x y : Int32} (hd : decode μ.2.1 pc = .ok (.iadd, 1)) (kk : WP l E μ (pc + 1) ls (.inl (x + y) :: st) h Q) : WP l E μ pc ls (.inl y :: .inl x :: st) h Q := by
  intro p e s m args below meth c A H locs lsA C I hl
  exact lv_iadd C.1 C.2.1 hd (kk p e s m args below meth c A H locs lsA C I hl)
theorem wp_isub {x y : Int32} (hd : decode μ.2.1 pc = .ok (.isub, 1)) (kk : WP l E μ (pc + 1) ls (.inl (x - y) :: st) h Q) : WP l E μ pc ls (.inl y :: .inl x :: st) h Q := by
  intro p e s m args below meth c A H locs lsA C I hl
  exact lv_isub C.1 C.2.1 hd (kk p e s m args below meth c A H locs lsA C I hl)
theorem wp_imul {x y : Int32} (hd : decode μ.2.1 pc = .ok (.imul, 1)) (kk : WP l E μ (pc + 1) ls (.inl (x * y) :: st) h Q) : WP l E μ pc ls (.inl y :: .inl x :: st) h Q := by
  intro p e s m args below meth c A H locs lsA C I hl
  exact lv_imul C.1 C.2.1 hd (kk p e s m args below meth c A H locs lsA C I hl)
theorem wp_iand {x y : Int32} (hd : decode μ.2.1 pc = .ok (.iand, 1)) (kk : WP l E μ (pc + 1) ls (.inl (x &&& y) :: st) h Q) : WP l E μ pc ls (.inl y :: .inl x :: st) h Q := by
  intro p e s m args below meth c A H locs lsA C I hl
  exact lv_iand C.1 C.2.1 hd (kk p e s m args below meth c A H locs lsA C I hl)
theorem wp_ior {x y : Int32} (hd : decode μ.2.1 pc = .ok (.ior, 1)) (kk : WP l E μ (pc + 1) ls (.inl (x ||| y) :: st) h Q) : WP l E μ pc ls (.inl y :: .inl x :: st) h Q := by
  intro p e s m args below meth c A H locs lsA C I hl
  exact lv_ior C.1 C.2.1 hd (kk p e s m args below meth c A H locs lsA C I hl)
theorem wp_ixor {x y : Int32} (hd : decode μ.2.1 pc = .ok (.ixor, 1)) (kk : WP l E μ (pc + 1) ls (.inl (x ^^^ y) :: st) h Q) : WP l E μ pc ls (.inl y :: .inl x :: st) h Q := by
  intro p e s m args below meth c A H locs lsA C I hl
  exact lv_ixor C.1 C.2.1 hd (kk p e s m args below meth c A H locs lsA C I hl)
theorem wp_ishl {x y : Int32} (hd : decode μ.2.1 pc = .ok (.ishl, 1)) (kk : WP l E μ (pc + 1) ls (.inl (x <<< (y &&& 31)) :: st) h Q) : WP l E μ pc ls (.inl y :: .inl x :: st) h Q := by
  intro p e s m args below meth c A H locs lsA C I hl
  exact lv_ishl C.1 C.2.1 hd (kk p e s m args below meth c A H locs lsA C I hl)
theorem wp_ishr {x y : Int32} (hd : decode μ.2.1 pc = .ok (.ishr, 1)) (kk : WP l E μ (pc + 1) ls (.inl (x >>> (y &&& 31)) :: st) h Q) : WP l E μ pc ls (.inl y :: .inl x :: st) h Q := by
  intro p e s m args below meth c A H locs lsA C I hl
  exact lv_ishr C.1 C.2.1 hd (kk p e s m args below meth c A H locs lsA C I hl)
theorem wp_iushr {x y : Int32} (hd : decode μ.2.1 pc = .ok (.iushr, 1)) (kk : WP l E μ (pc + 1) ls (.inl (ushr x y) :: st) h Q) : WP l E μ pc ls (.inl y :: .inl x :: st) h Q := by
  intro p e s m args below meth c A H locs lsA C I hl
  exact lv_iushr C.1 C.2.1 hd rfl (kk p e s m args below meth c A H locs lsA C I hl)
theorem wp_idiv {x y : Int32} (hd : decode μ.2.1 pc = .ok (.idiv, 1)) (hne : ¬ y = 0) (kk : WP l E μ (pc + 1) ls (.inl (x / y) :: st) h Q) : WP l E μ pc ls (.inl y :: .inl x :: st) h Q := by
  intro p e s m args below meth c A H locs lsA C I hl
  exact lv_idiv C.1 C.2.1 hd hne (kk p e s m args below meth c A H locs lsA C I hl)
theorem wp_irem {x y : Int32} (hd : decode μ.2.1 pc = .ok (.irem, 1)) (hne : ¬ y = 0) (kk : WP l E μ (pc + 1) ls (.inl (irem x y) :: st) h Q) : WP l E μ pc ls (.inl y :: .inl x :: st) h Q := by
  intro p e s m args below meth c A H locs lsA C I hl
  exact lv_irem C.1 C.2.1 hd hne (kk p e s m args below meth c A H locs lsA C I hl)
theorem wp_dup {v : xv} (hd : decode μ.2.1 pc = .ok (.dup, 1)) (kk : WP l E μ (pc + 1) ls (v :: v :: st) h Q) : WP l E μ pc ls (v :: st) h Q := by
  intro p e s m args below meth c A H locs lsA C I hl
  exact lv_dup C.1 C.2.1 hd (xV_cat E v) (kk p e s m args below meth c A H locs lsA C I hl)
theorem wp_pop {v : xv} (hd : decode μ.2.1 pc = .ok (.pop, 1)) (kk : WP l E μ (pc + 1) ls st h Q) : WP l E μ pc ls (v :: st) h Q := by
  intro p e s m args below meth c A H locs lsA C I hl
  exact lv_pop C.1 C.2.1 hd (xV_cat E v) (kk p e s m args below meth c A H locs lsA C I hl)
theorem wp_goto {off : Int} {tgt : Nat} (hd : decode μ.2.1 pc = .ok (.goto off, 3)) (ht : (pc : Int) + off = (tgt : Int)) (kk : WP l E μ tgt ls st h Q) : WP l E μ pc ls st h Q := by
  intro p e s m args below meth c A H locs lsA C I hl
  exact lv_goto C.1 C.2.1 hd ht (kk p e s m args below meth c A H locs lsA C I hl)
theorem wp_if_eq {x : Int32} {off : Int} {tgt : Nat} (hd : decode μ.2.1 pc = .ok (.ifCond .eq off, 3)) (ht : (pc : Int) + off = (tgt : Int)) (kt : x = 0 → WP l E μ tgt ls st h Q) (kf : ¬ x = 0 → WP l E μ (pc + 3) ls st h Q) : WP l E μ pc ls (.inl x :: st) h Q := by
  intro p e s m args below meth c A H locs lsA C I hl
  exact lv_if_eq C.1 C.2.1 hd ht (fun z => kt z p e s m args below meth c A H locs lsA C I hl) (fun z => kf z p e s m args below meth c A H locs lsA C I hl)
theorem wp_ic_eq {x y : Int32} {off : Int} {tgt : Nat} (hd : decode μ.2.1 pc = .ok (.if_icmp .eq off, 3)) (ht : (pc : Int) + off = (tgt : Int)) (kt : x = y → WP l E μ tgt ls st h Q) (kf : ¬ x = y → WP l E μ (pc + 3) ls st h Q) : WP l E μ pc ls (.inl y :: .inl x :: st) h Q := by
  intro p e s m args below meth c A H locs lsA C I hl
  exact lv_icmp_eq C.1 C.2.1 hd ht (fun z => kt z p e s m args below meth c A H locs lsA C I hl) (fun z => kf z p e s m args below meth c A H locs lsA C I hl)
theorem wp_if_ne {x : Int32} {off : Int} {tgt : Nat} (hd : decode μ.2.1 pc = .ok (.ifCond .ne off, 3)) (ht : (pc : Int) + off = (tgt : Int)) (kt : x ≠ 0 → WP l E μ tgt ls st h Q) (kf : x = 0 → WP l E μ (pc + 3) ls st h Q) : WP l E μ pc ls (.inl x :: st) h Q := by
  intro p e s m args below meth c A H locs lsA C I hl
  exact lv_if_ne C.1 C.2.1 hd ht (fun z => kt z p e s m args below meth c A H locs lsA C I hl) (fun z => kf z p e s m args below meth c A H locs lsA C I hl)
theorem wp_ic_ne {x y : Int32} {off : Int} {tgt : Nat} (hd : decode μ.2.1 pc = .ok (.if_icmp .ne off, 3)) (ht : (pc : Int) + off = (tgt : Int)) (kt : x ≠ y → WP l E μ tgt ls st h Q) (kf : x = y → WP l E μ (pc + 3) ls st h Q) : WP l E μ pc ls (.inl y :: .inl x :: st) h Q := by
  intro p e s m args below meth c A H locs lsA C I hl
  exact lv_icmp_ne C.1 C.2.1 hd ht (fun z => kt z p e s m args below meth c A H locs lsA C I hl) (fun z => kf z p e s m args below meth c A H locs lsA C I hl)
theorem wp_if_lt {x : Int32} {off : Int} {tgt : Nat} (hd : decode μ.2.1 pc = .ok (.ifCond .lt off, 3)) (ht : (pc : Int) + off = (tgt : Int)) (kt : x < 0 → WP l E μ tgt ls st h Q) (kf : ¬ x < 0 → WP l E μ (pc + 3) ls st h Q) : WP l E μ pc ls (.inl x :: st) h Q := by
  intro p e s m args below meth c A H locs lsA C I hl
  exact lv_if_lt C.1 C.2.1 hd ht (fun z => kt z p e s m args below meth c A H locs lsA C I hl) (fun z => kf z p e s m args below meth c A H locs lsA C I hl)
theorem wp_ic_lt {x y : Int32} {off : Int} {tgt : Nat} (hd : decode μ.2.1 pc = .ok (.if_icmp .lt off, 3)) (ht : (pc : Int) + off = (tgt : Int)) (kt : x < y → WP l E μ tgt ls st h Q) (kf : ¬ x < y → WP l E μ (pc + 3) ls st h Q) : WP l E μ pc ls (.inl y :: .inl x :: st) h Q := by
  intro p e s m args below meth c A H locs lsA C I hl
  exact lv_icmp_lt C.1 C.2.1 hd ht (fun z => kt z p e s m args below meth c A H locs lsA C I hl) (fun z => kf z p e s m args below meth c A H locs lsA C I hl)
theorem wp_if_ge {x : Int32} {off : Int} {tgt : Nat} (hd : decode μ.2.1 pc = .ok (.ifCond .ge off, 3)) (ht : (pc : Int) + off = (tgt : Int)) (kt : 0 ≤ x → WP l E μ tgt ls st h Q) (kf : ¬ 0 ≤ x → WP l E μ (pc + 3) ls st h Q) : WP l E μ pc ls (.inl x :: st) h Q := by
  intro p e s m args below meth c A H locs lsA C I hl
  exact lv_if_ge C.1 C.2.1 hd ht (fun z => kt z p e s m args below meth c A H locs lsA C I hl) (fun z => kf z p e s m args below meth c A H locs lsA C I hl)
theorem wp_ic_ge {x y : Int32} {off : Int} {tgt : Nat} (hd : decode μ.2.1 pc = .ok (.if_icmp .ge off, 3)) (ht : (pc : Int) + off = (tgt : Int)) (kt : y ≤ x → WP l E μ tgt ls st h Q) (kf : ¬ y ≤ x → WP l E μ (pc + 3) ls st h Q) : WP l E μ pc ls (.inl y :: .inl x :: st) h Q := by
  intro p e s m args below meth c A H locs lsA C I hl
  exact lv_icmp_ge C.1 C.2.1 hd ht (fun z => kt z p e s m args below meth c A H locs lsA C I hl) (fun z => kf z p e s m args below meth c A H locs lsA C I hl)
theorem wp_if_gt {x : Int32} {off : Int} {tgt : Nat} (hd : decode μ.2.1 pc = .ok (.ifCond .gt off, 3)) (ht : (pc : Int) + off = (tgt : Int)) (kt : 0 < x → WP l E μ tgt ls st h Q) (kf : ¬ 0 < x → WP l E μ (pc + 3) ls st h Q) : WP l E μ pc ls (.inl x :: st) h Q := by
  intro p e s m args below meth c A H locs lsA C I hl
  exact lv_if_gt C.1 C.2.1 hd ht (fun z => kt z p e s m args below meth c A H locs lsA C I hl) (fun z => kf z p e s m args below meth c A H locs lsA C I hl)
theorem wp_ic_gt {x y : Int32} {off : Int} {tgt : Nat} (hd : decode μ.2.1 pc = .ok (.if_icmp .gt off, 3)) (ht : (pc : Int) + off = (tgt : Int)) (kt : y < x → WP l E μ tgt ls st h Q) (kf : ¬ y < x → WP l E μ (pc + 3) ls st h Q) : WP l E μ pc ls (.inl y :: .inl x :: st) h Q := by
  intro p e s m args below meth c A H locs lsA C I hl
  exact lv_icmp_gt C.1 C.2.1 hd ht (fun z => kt z p e s m args below meth c A H locs lsA C I hl) (fun z => kf z p e s m args below meth c A H locs lsA C I hl)
theorem wp_if_le {x : Int32} {off : Int} {tgt : Nat} (hd : decode μ.2.1 pc = .ok (.ifCond .le off, 3)) (ht : (pc : Int) + off = (tgt : Int)) (kt : x ≤ 0 → WP l E μ tgt ls st h Q) (kf : ¬ x ≤ 0 → WP l E μ (pc + 3) ls st h Q) : WP l E μ pc ls (.inl x :: st) h Q := by
  intro p e s m args below meth c A H locs lsA C I hl
  exact lv_if_le C.1 C.2.1 hd ht (fun z => kt z p e s m args below meth c A H locs lsA C I hl) (fun z => kf z p e s m args below meth c A H locs lsA C I hl)
theorem wp_ic_le {x y : Int32} {off : Int} {tgt : Nat} (hd : decode μ.2.1 pc = .ok (.if_icmp .le off, 3)) (ht : (pc : Int) + off = (tgt : Int)) (kt : x ≤ y → WP l E μ tgt ls st h Q) (kf : ¬ x ≤ y → WP l E μ (pc + 3) ls st h Q) : WP l E μ pc ls (.inl y :: .inl x :: st) h Q := by
  intro p e s m args below meth c A H locs lsA C I hl
  exact lv_icmp_le C.1 C.2.1 hd ht (fun z => kt z p e s m args below meth c A H locs lsA C I hl) (fun z => kf z p e s m args below meth c A H locs lsA C I hl)
/-- answers -/
theorem wp_ireturn {v : Int32} (hd : decode μ.2.1 pc = .ok (.ireturn, 1)) (hr : μ.2.2.2.1 = some .int) (hq : Q (some v) h) : WP l E μ pc ls [.inl v] h Q := by
  intro p e s m args below meth c A H locs lsA C I hl
  have hlocks : meth.locks = false := C.2.2.2.2.2.2.1
  exact W.iret C.1 C.2.1 (C.2.2.1.trans hr) (fun t ht hW => ⟨⟨some v, h, rfl, hq, by rw [ht]; exact I.1, I.2.1⟩, I.2.2.F ht⟩) I.2.2.2.2 hd hlocks
theorem wp_zreturn {v : Int32} (hd : decode μ.2.1 pc = .ok (.ireturn, 1)) (hr : μ.2.2.2.1 = some .boolean) (hv : v = 0 ∨ v = 1) (hq : Q (some v) h) : WP l E μ pc ls [.inl v] h Q := by
  intro p e s m args below meth c A H locs lsA C I hl
  have hlocks : meth.locks = false := C.2.2.2.2.2.2.1
  exact W.zret C.1 C.2.1 (C.2.2.1.trans hr) (by rcases hv with rfl | rfl <;> decide) (fun t ht hW => ⟨⟨some v, h, rfl, hq, by rw [ht]; exact I.1, I.2.1⟩, I.2.2.F ht⟩) I.2.2.2.2 hd hlocks
theorem wp_return (hd : decode μ.2.1 pc = .ok (.return_, 1)) (hr : μ.2.2.2.1 = none) (hq : Q none h) : WP l E μ pc ls [] h Q := by
  intro p e s m args below meth c A H locs lsA C I hl
  have hlocks : meth.locks = false := C.2.2.2.2.2.2.1
  exact W.vret C.1 C.2.1 (C.2.2.1.trans hr) (fun t ht hW => ⟨⟨none, h, rfl, hq, by rw [ht]; exact I.1, I.2.1⟩, I.2.2.F ht⟩) I.2.2.2.2 hd hlocks
/-- a field: its class's number, its place, its type; the pool's number in the class own -/
def FL (own : String) (idx ci j : Nat) (ty : FieldType) : Prop := ∃ (C : String) (T : u_T) (N : Nat) (ty0 : Nat → FieldType), vwCl[ci]? = some (C, T, N) ∧ j < N ∧ (∀ w ∈ u_ws C T N, w ∈ gW) ∧ (T j).1 = C ∧ parseFieldDescriptor (T j).2.2.1 = some ty ∧ (∀ k, k < N → parseFieldDescriptor (T k).2.2.1 = some (ty0 k)) ∧ (∀ a, a < N → ∀ b, b < N → a ≠ b → (T a).2.1 ≠ (T b).2.1) ∧ (Cond.fieldLink own idx C (T j).2.1 (T j).2.2.1 ∈ gW ∨ ∃ host, Cond.fieldLinkNest own idx C (T j).2.1 (T j).2.2.1 host ∈ nW)
/-- the same, of a field that is not final -/
def FM (own : String) (idx ci j : Nat) (ty : FieldType) : Prop := FL own idx ci j ty ∧ ∀ q, vwCl[ci]? = some q → (q.2.1 j).2.2.2 = false
theorem wp_get {idx k ci j : Nat} {ty : FieldType} {fs : List (Option Nat)} {v : xv} (hd : decode μ.2.1 pc = .ok (.getfield idx, 3)) (F : FL μ.1.cls idx ci j ty) (hq : lay[k]? = some (.inl (ci, fs))) (hf : (xF E (h k) 0 fs)[j]? = some (xV E v)) (kk : WP l E μ (pc + 3) ls (v :: st) h Q) : WP l E μ pc ls (.inr k :: st) h Q := by
  intro p e s m args below meth c A H locs lsA C I hl
  obtain ⟨Cn, T, N, ty0, hc, hj, hin, hTC, hpa, hty, hnm, hlink⟩ := F
  have hts := C.2.2.2.2.1
  rcases hlink with hlink | ⟨host, hlink⟩
  · exact va_get (D := E.1) C.1 C.2.1 hts (fun w hw => wM_g (hin w hw)) C.2.2.2.2.2.1 C.2.2.2.2.2.2.2.1.1 I.1 k (wld_get hq) hc j hj (hts _ (wM_g hlink)) (fun x hx => by rw [hTC] at hx; exact hx) hf hd (kk p e s m args below meth c A H locs lsA C I hl)
  · exact va_getN (D := E.1) C.1 C.2.1 hts (fun w hw => wM_g (hin w hw)) C.2.2.2.2.2.1 C.2.2.2.2.2.2.2.1.1 I.1 k (wld_get hq) hc j hj (va_Nw.use rfl (C.2.2.2.2.2.2.2.1.2 _ hlink)) (fun x hx => by rw [hTC] at hx; exact hx) hf hd (kk p e s m args below meth c A H locs lsA C I hl)
theorem wp_getI {idx k ci j : Nat} {ty : FieldType} {fs : List (Option Nat)} (hd : decode μ.2.1 pc = .ok (.getfield idx, 3)) (F : FL μ.1.cls idx ci j ty) (hq : lay[k]? = some (.inl (ci, fs))) (hf : fs[j]? = some none) (kk : WP l E μ (pc + 3) ls (.inl (h k j) :: st) h Q) : WP l E μ pc ls (.inr k :: st) h Q :=
  wp_get (v := .inl (h k j)) hd F hq (by have := xF_int (E := E) (f := h k) fs 0 j hf; rw [Nat.zero_add] at this; exact this) kk
theorem wp_getR {idx k ci j r : Nat} {ty : FieldType} {fs : List (Option Nat)} (hd : decode μ.2.1 pc = .ok (.getfield idx, 3)) (F : FL μ.1.cls idx ci j ty) (hq : lay[k]? = some (.inl (ci, fs))) (hf : fs[j]? = some (some r)) (kk : WP l E μ (pc + 3) ls (.inr r :: st) h Q) : WP l E μ pc ls (.inr k :: st) h Q :=
  wp_get (v := .inr r) hd F hq (xF_ref fs 0 j hf) kk
theorem wp_put {idx k ci j : Nat} {ty : FieldType} {fs : List (Option Nat)} {v : Int32} (hd : decode μ.2.1 pc = .ok (.putfield idx, 3)) (F : FM μ.1.cls idx ci j ty) (hq : lay[k]? = some (.inl (ci, fs))) (hf : fs[j]? = some none) (hn : narrow ty (.int v) = .int v) (hfit : fits ty (.int v) = true) (kk : WP l E μ (pc + 3) ls st (hw h k j v) Q) : WP l E μ pc ls (.inl v :: .inr k :: st) h Q := by
  intro p e s m args below meth c A H locs lsA C I hl
  obtain ⟨⟨Cn, T, N, ty0, hc, hj, hin, hTC, hpa, hty, hnm, hlink⟩, hfin⟩ := F
  have hts := C.2.2.2.2.1
  have hfi : (T j).2.2.2 = false := hfin _ hc
  have hle : j < (xF E (h k) 0 fs).length := by rw [xF_len]; exact (List.getElem?_eq_some_iff.mp hf).1
  have he : (wld E h).set k (E.2.1 k, .inr (ci, (xF E (h k) 0 fs).set j (.int v))) = wld E (hw h k j v) := by
    rw [xF_set fs 0 j hf, Nat.zero_add, ← hw_eq]
    exact wld_set (E := E) (h := h) (f := upd (h k) j v) hq
  rcases hlink with hlink | ⟨host, hlink⟩
  · exact va_put (D := E.1) C.1 C.2.1 hts (fun w hw => wM_g (hin w hw)) ty0 hty hnm C.2.2.2.2.2.1 C.2.2.2.2.2.2.2.1.1 I.1 I.2.1 I.2.2 k (wld_get hq) hc j hj (hts _ (wM_g hlink)) (fun x hx => by rw [hTC] at hx; exact hx) hfi hpa hn hfit hle hd (fun H1 locs1 hP1 hD1 hS1 => kk p e s m args below meth c A H1 locs1 lsA C ⟨he ▸ hP1, he ▸ hD1, hS1⟩ hl)
  · exact va_putN (D := E.1) C.1 C.2.1 hts (fun w hw => wM_g (hin w hw)) ty0 hty hnm C.2.2.2.2.2.1 C.2.2.2.2.2.2.2.1.1 I.1 I.2.1 I.2.2 k (wld_get hq) hc j hj (va_Nw.use rfl (C.2.2.2.2.2.2.2.1.2 _ hlink)) (fun x hx => by rw [hTC] at hx; exact hx) hfi hpa hn hfit hle hd (fun H1 locs1 hP1 hD1 hS1 => kk p e s m args below meth c A H1 locs1 lsA C ⟨he ▸ hP1, he ▸ hD1, hS1⟩ hl)
theorem wp_putI {idx k ci j : Nat} {fs : List (Option Nat)} {v : Int32} (hd : decode μ.2.1 pc = .ok (.putfield idx, 3)) (F : FM μ.1.cls idx ci j .int) (hq : lay[k]? = some (.inl (ci, fs))) (hf : fs[j]? = some none) (kk : WP l E μ (pc + 3) ls st (hw h k j v) Q) : WP l E μ pc ls (.inl v :: .inr k :: st) h Q := wp_put hd F hq hf rfl rfl kk
theorem wp_putZ {idx k ci j : Nat} {fs : List (Option Nat)} {v : Int32} (hd : decode μ.2.1 pc = .ok (.putfield idx, 3)) (F : FM μ.1.cls idx ci j .boolean) (hq : lay[k]? = some (.inl (ci, fs))) (hf : fs[j]? = some none) (hv : v = 0 ∨ v = 1) (kk : WP l E μ (pc + 3) ls st (hw h k j v) Q) : WP l E μ pc ls (.inl v :: .inr k :: st) h Q := wp_put hd F hq hf (by rcases hv with rfl | rfl <;> decide) (by rcases hv with rfl | rfl <;> decide) kk
/-- arrays -/
theorem wp_iaload {k n : Nat} {i : Int32} (hd : decode μ.2.1 pc = .ok (.iaload, 1)) (hq : lay[k]? = some (.inr (false, n))) (hin : vp_in i n) (kk : WP l E μ (pc + 1) ls (.inl (h k i.toNatClampNeg) :: st) h Q) : WP l E μ pc ls (.inl i :: .inr k :: st) h Q := by
  intro p e s m args below meth c A H locs lsA C I hl
  exact va_iald C.1 C.2.1 C.2.2.2.2.2.2.2.1.1 I.1 k 0 (wld_get hq) rfl hin hd (kk p e s m args below meth c A H locs lsA C I hl)
theorem wp_baload {k n : Nat} {i : Int32} (hd : decode μ.2.1 pc = .ok (.baload, 1)) (hq : lay[k]? = some (.inr (true, n))) (hin : vp_in i n) (kk : WP l E μ (pc + 1) ls (.inl (h k i.toNatClampNeg) :: st) h Q) : WP l E μ pc ls (.inl i :: .inr k :: st) h Q := by
  intro p e s m args below meth c A H locs lsA C I hl
  exact va_zald C.1 C.2.1 C.2.2.2.2.2.2.2.1.1 I.1 k 1 (wld_get hq) rfl hin hd (kk p e s m args below meth c A H locs lsA C I hl)
theorem wp_iastore {k n : Nat} {i x : Int32} (hd : decode μ.2.1 pc = .ok (.iastore, 1)) (hq : lay[k]? = some (.inr (false, n))) (hin : vp_in i n) (kk : WP l E μ (pc + 1) ls st (hw h k i.toNatClampNeg x) Q) : WP l E μ pc ls (.inl x :: .inl i :: .inr k :: st) h Q := by
  intro p e s m args below meth c A H locs lsA C I hl
  have he := wld_set (E := E) (h := h) (f := upd (h k) i.toNatClampNeg x) hq
  rw [hw_eq] at he
  exact va_iast C.1 C.2.1 C.2.2.2.2.2.2.2.1.1 I.1 I.2.1 I.2.2 k 0 (wld_get hq) rfl hin hd (fun H1 locs1 hP1 hD1 hS1 => kk p e s m args below meth c A H1 locs1 lsA C ⟨he ▸ hP1, he ▸ hD1, hS1⟩ hl)
theorem wp_bastore {k n : Nat} {i x : Int32} (hd : decode μ.2.1 pc = .ok (.bastore, 1)) (hq : lay[k]? = some (.inr (true, n))) (hin : vp_in i n) (hx : vp_nar .boolean x = x) (kk : WP l E μ (pc + 1) ls st (hw h k i.toNatClampNeg x) Q) : WP l E μ pc ls (.inl x :: .inl i :: .inr k :: st) h Q := by
  intro p e s m args below meth c A H locs lsA C I hl
  have he := wld_set (E := E) (h := h) (f := upd (h k) i.toNatClampNeg x) hq
  rw [hw_eq] at he
  refine va_zast C.1 C.2.1 C.2.2.2.2.2.2.2.1.1 I.1 I.2.1 I.2.2 k 1 (wld_get hq) rfl hin hd (fun H1 locs1 hP1 hD1 hS1 => ?_)
  rw [hx] at hP1 hD1
  exact kk p e s m args below meth c A H1 locs1 lsA C ⟨he ▸ hP1, he ▸ hD1, hS1⟩ hl
theorem nar01 {x : Int32} (h : x = 0 ∨ x = 1) : vp_nar .boolean x = x := by rcases h with rfl | rfl <;> decide
theorem wp_alen {k n : Nat} {b : Bool} (hd : decode μ.2.1 pc = .ok (.arraylength, 1)) (hq : lay[k]? = some (.inr (b, n))) (kk : WP l E μ (pc + 1) ls (.inl (nI n) :: st) h Q) : WP l E μ pc ls (.inr k :: st) h Q := by
  intro p e s m args below meth c A H locs lsA C I hl
  cases b with
  | false => exact va_alen (ty := .int) C.1 C.2.1 C.2.2.2.2.2.2.2.1.1 I.1 k 0 (wld_get hq) rfl rfl hd (kk p e s m args below meth c A H locs lsA C I hl)
  | true => exact va_alen (ty := .boolean) C.1 C.2.1 C.2.2.2.2.2.2.2.1.1 I.1 k 1 (wld_get hq) rfl rfl hd (kk p e s m args below meth c A H locs lsA C I hl)
theorem cats {E : xE} : ∀ (st : List xv), ((st.map (xV E)).map fun v => v.category).sum = st.length
  | [] => rfl
  | v :: r => by
    simp only [List.map_cons, List.sum_cons, List.length_cons]
    rw [cats r, xV_cat]
    omega
theorem wp_min {idx : Nat} {x y : Int32} (hd : decode μ.2.1 pc = .ok (.invokestatic idx, 3)) (h1 : Cond.methodLink μ.1.cls idx Lib.Math.min.name ∈ gW) (h2 : Cond.static Lib.Math.min.name ∈ gW) (h3 : Cond.initialized "java/lang/Math" ∈ gW) (h4 : Cond.code Lib.Math.min.name Lib.Math.min.code 2 (some .int) ∈ gW) (hdp : 1 ≤ μ.2.2.2.2.1) (hst : st.length + 13 ≤ μ.2.2.2.2.2) (kk : WP l E μ (pc + 3) ls (.inl (if y < x then y else x) :: st) h Q) : WP l E μ pc ls (.inl y :: .inl x :: st) h Q := by
  intro p e s m args below meth c A H locs lsA C I hl
  have hts := C.2.2.2.2.1
  exact va_mmin C.1 C.2.1 (by rw [hl.1]; exact C.2.2.2.1) C.2.2.2.2.2.1 (hts _ (wM_g h1)) (hts _ (wM_g h2)) (hts _ (wM_g h3)) (hts _ (wM_g h4)) hdp (by rw [cats]; exact hst) (Nat.le_refl 0) (Nat.le_refl 0) hd (kk p e s m args below meth c A H locs lsA C I hl)
theorem wp_copy {idx k0 k1 n0 n1 : Nat} {sp dp n : Int32} (hd : decode μ.2.1 pc = .ok (.invokestatic idx, 3)) (w1 : Cond.methodLink μ.1.cls idx arraycopyName ∈ gW) (w2 : Cond.native arraycopyName ∈ gW) (w3 : Cond.static arraycopyName ∈ gW) (w4 : Cond.initialized "java/lang/System" ∈ gW)
    (hq0 : lay[k0]? = some (.inr (false, n0))) (hq1 : lay[k1]? = some (.inr (false, n1))) (hdp : 1 ≤ μ.2.2.2.2.1) (hst : st.length + (nativeFrameWords "java/lang/System" "arraycopy" 5 + 11) ≤ μ.2.2.2.2.2) (h1 : ¬ sp < 0) (h2 : ¬ dp < 0) (h3 : ¬ n < 0) (h4 : sp.toNatClampNeg + n.toNatClampNeg ≤ n0) (h5 : dp.toNatClampNeg + n.toNatClampNeg ≤ n1)
    (kk : WP l E μ (pc + 3) ls st (hc h k0 k1 sp dp n) Q) : WP l E μ pc ls (.inl n :: .inl dp :: .inr k1 :: .inl sp :: .inr k0 :: st) h Q := by
  intro p e s m args below meth c A H locs lsA C I hl
  have hts := C.2.2.2.2.1
  have he := wld_set (E := E) (h := h) (f := va_cpy (h k0) (h k1) sp.toNatClampNeg dp.toNatClampNeg n.toNatClampNeg) hq1
  exact va_copyi (ty := .int) C.1 C.2.1 (by rw [hl.1]; exact C.2.2.2.1) C.2.2.2.2.2.1 (hts _ (wM_g w1)) (hts _ (wM_g w2)) (hts _ (wM_g w3)) (hts _ (wM_g w4)) C.2.2.2.2.2.2.2.1.1 I.1 I.2.1 I.2.2 k0 k1 0 0 (wld_get hq0) (wld_get hq1) rfl rfl rfl h1 h2 h3 h4 h5 (fun _ _ => rfl) hdp (by rw [cats]; exact hst) hd (fun H1 locs1 hP1 hD1 hS1 => kk p e s m args below meth c A H1 locs1 lsA C ⟨he ▸ hP1, he ▸ hD1, hS1⟩ hl)
/-- a method's entry -/
def ent : Nat → List xv → List (Nat × xv)
  | _, [] => []
  | i, v :: r => (i, v) :: ent (i + 1) r
theorem ent_args {E : xE} : ∀ (as : List xv) (i : Nat), lv_args i (as.map (xV E)) = xls E (ent i as)
  | [], _ => rfl
  | v :: r, i => by
    simp only [List.map_cons, lv_args, ent, xls]
    rw [xV_cat, if_neg (by decide), ent_args r (i + 1)]
theorem lg_sl_len {E : xE} : ∀ (as : List xv), (lg_sl (as.map (xV E))).length = as.length
  | [] => rfl
  | v :: r => by
    simp only [List.map_cons, lg_sl, List.flatMap_cons, List.length_append]
    rw [xV_cat, if_neg (by decide)]
    have := lg_sl_len (E := E) r
    simp only [lg_sl] at this
    rw [this]
    simp; omega
def MC (l : Launch) (E : xE) (μ : xM) (as : List xv) (h : xh) (Q : Option Int32 → xh → Prop) : Prop := WP l E μ 0 (ent 0 as) [] h Q
theorem met_of {μ : xM} {as : List xv} {h : xh} {Q : Option Int32 → xh → Prop} (sz : Nat) (hy : plainName μ.1.cls = true) (hlen : as.length ≤ μ.2.2.1) (k : MC l E μ as h Q) : Met l μ.1 (wM μ) (rmOf μ.2.2.2.2) (xPc E sz h as) (xQc E (xA E sz) Q) 0 0 (xA E sz) := by
  refine Met.ofW (cc := μ.2.1) (maxL := μ.2.2.1) (ret := μ.2.2.2.1) hy rfl ?_
  intro p e s m args below meth c s₁ B hml hv
  obtain ⟨rfl, hsz, hP, hK, hD0⟩ := hv
  have hts := atoms_spec (ws := wM μ) B.pre
  have hl := lv_entry (as.map (xV E)) (n := μ.2.2.1) (by rw [lg_sl_len]; exact hlen)
  rw [ent_args] at hl
  rw [lg_entry_eq]
  subst hsz
  exact k p e s m _ below meth c (xA E s.heap.size) s.heap [] _ ⟨B.exec, B.bytes, B.returns, hml, hts, findClass_of_methodNamed B.named, B.notSynchronized, hK, fun q h => Or.inr h⟩ ⟨hP, xA_D hD0, va_S.rf⟩ hl
abbrev rpush (r : Option Int32) (st : List xv) : List xv := match r with
  | none => st
  | some v => .inl v :: st
/-- a call's words -/
def VB (μ μ' : xM) (idx n : Nat) : Prop := plainName μ'.1.cls = true ∧ Cond.code μ'.1 μ'.2.1 μ'.2.2.1 μ'.2.2.2.1 ∈ gW ∧ Cond.initialized μ'.1.cls ∈ gW ∧ (μ'.1.cls ≠ "java/lang/invoke/MethodHandle" ∧ μ'.1.cls ≠ "java/lang/invoke/VarHandle" ∧ (parseMethodDescriptor μ'.1.desc).map (fun d => d.parameters.length) = some n) ∧ (μ'.2.2.2.2.1 + 1 ≤ μ.2.2.2.2.1 ∧ 8 + (μ'.2.2.1 + 11) + μ'.2.2.2.2.2 ≤ μ.2.2.2.2.2) ∧ (Cond.methodLink μ.1.cls idx μ'.1 ∈ gW ∨ ∃ host, Cond.methodLinkNest μ.1.cls idx μ'.1 host ∈ nW)
theorem xGood {μ μ' : xM} (h : Cond.code μ'.1 μ'.2.1 μ'.2.2.1 μ'.2.2.2.1 ∈ gW) : GoodIn (wM μ) (wM μ') := by
  intro w hw
  have key : ∀ w ∈ gW, w ∈ wM μ ∧ ((w.onTables && w.keeps) = true ∨ ∃ ty, w = .arrayClass ty) := fun w hw => ⟨wM_g hw, isGood_of (List.mem_filter.mp hw).2⟩
  rcases List.mem_cons.mp hw with rfl | hw
  · exact key _ h
  · exact key _ hw
theorem xBlind {E : xE} {sz : Nat} {h : xh} {as : List xv} : FrameBlind (xPc E sz h as) := by
  intro a U g mk q
  obtain ⟨q0, q1, qP, qK, qD⟩ := q
  exact ⟨q0, q1, qP, xK.same (s := U) (U := U.calling g mk a) rfl qK, qD⟩
theorem wp_after {E : xE} {A : Nat → Prop} {p : Program} {e : Env} {s : State} {m : MethodId} {args : Array Value} {below : List Frame} {meth : Method} {c : Code} {H : Heap} {locs : List Loc} {lsA : Array Slot} {h : xh} {st0 rest : List xv} {Q' : Option Int32 → xh → Prop} {a : Array Value}
    (C : CX E μ p s m args meth c A) (I : xI E A s h H locs) (hl : lv_has lsA μ.2.2.1 (xls E ls))
    (hr : va_Run p l e (rmOf μ.2.2.2.2) s m args below meth c H locs 0 0 0 0 (F0 m pc lsA (st0.map (xV E))) (rest.map (xV E)) (xQc E (xA E H.size) Q' a) (xA E H.size))
    (kk : ∀ r h', Q' r h' → WP l E μ (pc + 3) ls (rpush r rest) h' Q) : W p l e (rmOf μ.2.2.2.2) s m args below meth c H locs 0 0 (MQ below (xQc E A Q) args s 0 0 A) (F0 m pc lsA (st0.map (xV E))) := by
  intro T hT X
  obtain ⟨v, st₀, t, T', L, h0, X', hL, e1, e2, ⟨⟨r, h', hv, hp, hP', hD'⟩, hz, hk⟩, stp⟩ := hr T hT X
  have hv : v = r.map Value.int := Outcome.returned.inj hv
  subst hv
  rw [h0] at hz hk
  have hA : ∀ q, xA E H.size q → A q := fun q z => by
    rcases z with ⟨k, hk, rfl⟩ | z
    · exact xA_of I.2.1 hk
    · exact C.2.2.2.2.2.2.2.2 q (Nat.le_trans I.2.2.1 z)
  have hS := I.2.2
  have I' : xI E A s h' T'.heap (locs ++ L) := by
    refine ⟨by rw [e1]; exact hP', wld_addr I.2.1, Nat.le_trans hS.1 (by rw [e1]; exact hz), fun q h1 h2 => ?_, fun q hq => ?_⟩
    · rw [e1, hk q (Nat.lt_of_lt_of_le h1 hS.1) (fun z => h2 (hA q z))]
      exact hS.2.1 q h1 h2
    · rcases List.mem_append.mp hq with h | h
      · exact hS.2.2 q h
      · exact hA _ (hL q h)
  obtain ⟨t2, a1, b1⟩ := kk r h' hp p e s m args below meth c A T'.heap (locs ++ L) lsA C I' hl T' rfl X'
  refine ⟨t2, stp t2 ?_, b1⟩
  have : (r.map Value.int).toList ++ rest.map (xV E) = (rpush r rest).map (xV E) := by cases r <;> rfl
  rw [this]
  exact a1
theorem wp_callS {μ' : xM} {idx n : Nat} {as rest st0 : List xv} {Q' : Option Int32 → xh → Prop} (hd : decode μ.2.1 pc = .ok (.invokestatic idx, 3)) (V : VB μ μ' idx n) (hs : Cond.static μ'.1 ∈ gW) (hn : as.length = n) (hlen : as.length ≤ μ'.2.2.1) (hst : st0 = as.reverse ++ rest) (hre : rest.length ≤ 8) (k : MC l E μ' as h Q') (kk : ∀ r h', Q' r h' → WP l E μ (pc + 3) ls (rpush r rest) h' Q) : WP l E μ pc ls st0 h Q := by
  intro p e s m args below meth c A H locs lsA C I hl
  obtain ⟨hpl, hco, hin, hde, hdp, hli⟩ := V
  have hts := C.2.2.2.2.1
  have M := met_of (l := l) (E := E) H.size hpl hlen k
  have hp : PreS s H (xPc E H.size h as) (as.map (xV E)) := ⟨xBlind, fun U hU hW => ⟨rfl, by rw [hU], by rw [hU]; exact I.1, C.2.2.2.2.2.2.2.1.warm hW, I.2.1.weaken (fun _ _ _ _ => trivial)⟩⟩
  have hR : (rmOf μ'.2.2.2.2).frames + 1 ≤ (rmOf μ.2.2.2.2).frames ∧ 8 + (μ'.2.2.1 + 11) + (rmOf μ'.2.2.2.2).locals ≤ (rmOf μ.2.2.2.2).locals := ⟨hdp.1, hdp.2⟩
  have hstk : st0.map (xV E) = (as.map (xV E)).reverse ++ rest.map (xV E) := by rw [hst, List.map_append, List.map_reverse]
  refine wp_after (a := (as.map (xV E)).toArray) (st0 := st0) (rest := rest) (Q' := Q') C I hl ?_ kk
  rcases hli with hli | ⟨host, hli⟩
  · exact va_runS (Ts := wM μ) (own := μ.1.cls) (As := as.map (xV E)) ⟨C.1, C.2.1, C.2.2.2.1, C.2.2.2.2.2.1, hts⟩ M ⟨callB_of n hts (xGood hco) rfl rfl rfl (hts _ (wM_g hin)) (hts _ (wM_g hli)) hde hR, hts _ (wM_g hs)⟩ hp rfl (by rw [List.length_map]; exact hn) hl.1 hstk (lv_room (by rw [cats]; exact hre)) hd ⟨Nat.le_refl 0, Nat.le_refl 0⟩
  · exact va_runSN (Ts := wM μ) (own := μ.1.cls) (As := as.map (xV E)) ⟨C.1, C.2.1, C.2.2.2.1, C.2.2.2.2.2.1, hts⟩ M ⟨va_cnB n hts (xGood hco) rfl rfl rfl (C.2.2.2.2.2.2.2.1.2 _ hli) (hts _ (wM_g hin)) hde hR, hts _ (wM_g hs), trivial⟩ hp rfl (by rw [List.length_map]; exact hn) hl.1 hstk (lv_room (by rw [cats]; exact hre)) hd ⟨Nat.le_refl 0, Nat.le_refl 0⟩
theorem wp_callV {μ' : xM} {idx n b ci : Nat} {fs : List (Option Nat)} {cq : vw_C} {as rest st0 : List xv} {Q' : Option Int32 → xh → Prop} (hd : decode μ.2.1 pc = .ok (.invokevirtual idx, 3)) (V : VB μ μ' idx n) (hs : Cond.instanceMethod μ'.1 ∈ gW ∧ Cond.selects μ'.1.cls μ'.1 μ'.1 ∈ gW) (hq : lay[b]? = some (.inl (ci, fs))) (hc : vwCl[ci]? = some cq) (hcn : cq.1 = μ'.1.cls) (hn : as.length = n) (hlen : as.length + 1 ≤ μ'.2.2.1) (hst : st0 = as.reverse ++ .inr b :: rest) (hre : rest.length ≤ 8) (k : MC l E μ' (.inr b :: as) h Q') (kk : ∀ r h', Q' r h' → WP l E μ (pc + 3) ls (rpush r rest) h' Q) : WP l E μ pc ls st0 h Q := by
  intro p e s m args below meth c A H locs lsA C I hl
  obtain ⟨hpl, hco, hin, hde, hdp, hli⟩ := V
  have hts := C.2.2.2.2.1
  have M := met_of (l := l) (E := E) (as := .inr b :: as) H.size hpl hlen k
  have hrec : ∃ cell : Cell, H[E.2.1 b]? = some cell ∧ cell.vm.isStatics = false ∧ s.vm.findClass μ'.1.cls = some cell.cls := by
    rw [← hcn]
    exact va_recv C.2.2.2.2.2.2.2.1.1 I.1 hc (wld_get hq)
  have hp : PreV s H μ'.1.cls (E.2.1 b) (xPc E H.size h (.inr b :: as)) (as.map (xV E)) := ⟨xBlind, hrec, fun U hU hW => ⟨rfl, by rw [hU], by rw [hU]; exact I.1, C.2.2.2.2.2.2.2.1.warm hW, I.2.1.weaken (fun _ _ _ _ => trivial)⟩⟩
  have hR : (rmOf μ'.2.2.2.2).frames + 1 ≤ (rmOf μ.2.2.2.2).frames ∧ 8 + (μ'.2.2.1 + 11) + (rmOf μ'.2.2.2.2).locals ≤ (rmOf μ.2.2.2.2).locals := ⟨hdp.1, hdp.2⟩
  have hstk : st0.map (xV E) = (as.map (xV E)).reverse ++ .ref (E.2.1 b) :: rest.map (xV E) := by rw [hst, List.map_append, List.map_reverse]; rfl
  refine wp_after (a := (Value.ref (E.2.1 b) :: as.map (xV E)).toArray) (st0 := st0) (rest := rest) (Q' := Q') C I hl ?_ kk
  rcases hli with hli | ⟨host, hli⟩
  · exact va_runV (Ts := wM μ) (own := μ.1.cls) (C := μ'.1.cls) (b := E.2.1 b) (As := as.map (xV E)) ⟨C.1, C.2.1, C.2.2.2.1, C.2.2.2.2.2.1, hts⟩ M ⟨callB_of n hts (xGood hco) rfl rfl rfl (hts _ (wM_g hin)) (hts _ (wM_g hli)) hde hR, hts _ (wM_g hs.1), hts _ (wM_g hs.2)⟩ hp rfl (by rw [List.length_map]; exact hn) hl.1 hstk (lv_room (by rw [cats]; exact hre)) hd ⟨Nat.le_refl 0, Nat.le_refl 0⟩
  · exact va_runVN (Ts := wM μ) (own := μ.1.cls) (C := μ'.1.cls) (b := E.2.1 b) (As := as.map (xV E)) ⟨C.1, C.2.1, C.2.2.2.1, C.2.2.2.2.2.1, hts⟩ M ⟨va_cnB n hts (xGood hco) rfl rfl rfl (C.2.2.2.2.2.2.2.1.2 _ hli) (hts _ (wM_g hin)) hde hR, hts _ (wM_g hs.1), hts _ (wM_g hs.2)⟩ hp rfl (by rw [List.length_map]; exact hn) hl.1 hstk (lv_room (by rw [cats]; exact hre)) hd ⟨Nat.le_refl 0, Nat.le_refl 0⟩
/-- fewer locals -/
theorem wp_sub {ls' : List (Nat × xv)} (ks : List Nat) (hs : lkeep ks ls = ls') (k : WP l E μ pc ls' st h Q) : WP l E μ pc ls st h Q := by
  intro p e s m args below meth c A H locs lsA C I hl
  refine k p e s m args below meth c A H locs lsA C I ⟨hl.1, hl.2.1, fun q hq => hl.2.2 q ?_⟩
  subst hs
  obtain ⟨z, hz, rfl⟩ := List.mem_map.mp hq
  exact List.mem_map.mpr ⟨z, lkeep_mem hz, rfl⟩
/-- more is known of the end -/
theorem WP.mono {Q' : Option Int32 → xh → Prop} (k : WP l E μ pc ls st h Q') (hq : ∀ r h', Q' r h' → Q r h') : WP l E μ pc ls st h Q := by
  intro p e s m args below meth c A H locs lsA C I hl T hT X
  obtain ⟨t, a1, o, b1, b2, ⟨⟨r, h', c1, c2, c3⟩, c4⟩, b4⟩ := k p e s m args below meth c A H locs lsA C I hl T hT X
  exact ⟨t, a1, o, b1, b2, ⟨⟨r, h', c1, hq r h' c2, c3⟩, c4⟩, b4⟩
end RULES
end
