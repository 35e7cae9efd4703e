section
-- ===== PART A: goes FIRST, ahead of the names: the tables' words, and 'selects' of the private methods out of them =====
/-- a private method of a class that the tables say can be made, by its rows of tables_1 -/
def lw_okq (q : MethodName × Nat) : Prop := (q.1.cls ≠ "java/lang/invoke/MethodHandle" ∧ q.1.cls ≠ "java/lang/invoke/VarHandle") ∧ Cond.instantiable q.1.cls q.2 ∈ tables_1 ∧ Cond.privateMethod q.1 ∈ tables_1 ∧ Cond.instanceMethod q.1 ∈ tables_1
theorem lw_p0 : lw_okq (⟨"RedoShelf", "comeUp", "(II)V"⟩, 11) := ⟨⟨by decide +kernel, by decide +kernel⟩, List.mem_of_getElem? (i := 12) (by decide +kernel), List.mem_of_getElem? (i := 145) (by decide +kernel), List.mem_of_getElem? (i := 146) (by decide +kernel)⟩
theorem lw_p1 : lw_okq (⟨"RedoShelf", "isIdle", "()Z"⟩, 11) := ⟨⟨by decide +kernel, by decide +kernel⟩, List.mem_of_getElem? (i := 12) (by decide +kernel), List.mem_of_getElem? (i := 191) (by decide +kernel), List.mem_of_getElem? (i := 192) (by decide +kernel)⟩
theorem lw_p2 : lw_okq (⟨"RedoShelf", "beginImage", "(I)V"⟩, 11) := ⟨⟨by decide +kernel, by decide +kernel⟩, List.mem_of_getElem? (i := 12) (by decide +kernel), List.mem_of_getElem? (i := 213) (by decide +kernel), List.mem_of_getElem? (i := 214) (by decide +kernel)⟩
theorem lw_p3 : lw_okq (⟨"RedoShelf", "volumeWord", "(II)I"⟩, 11) := ⟨⟨by decide +kernel, by decide +kernel⟩, List.mem_of_getElem? (i := 12) (by decide +kernel), List.mem_of_getElem? (i := 217) (by decide +kernel), List.mem_of_getElem? (i := 218) (by decide +kernel)⟩
theorem lw_p4 : lw_okq (⟨"RedoShelf$Row", "addGroup", "(LRedoShelf$Images;II)V"⟩, 4) := ⟨⟨by decide +kernel, by decide +kernel⟩, List.mem_of_getElem? (i := 58) (by decide +kernel), List.mem_of_getElem? (i := 271) (by decide +kernel), List.mem_of_getElem? (i := 272) (by decide +kernel)⟩
theorem lw_p5 : lw_okq (⟨"RedoShelf$Row", "add", "(IIII)V"⟩, 4) := ⟨⟨by decide +kernel, by decide +kernel⟩, List.mem_of_getElem? (i := 58) (by decide +kernel), List.mem_of_getElem? (i := 277) (by decide +kernel), List.mem_of_getElem? (i := 278) (by decide +kernel)⟩
theorem lw_p6 : lw_okq (⟨"RedoShelf", "planRowSector", "(I)V"⟩, 11) := ⟨⟨by decide +kernel, by decide +kernel⟩, List.mem_of_getElem? (i := 12) (by decide +kernel), List.mem_of_getElem? (i := 293) (by decide +kernel), List.mem_of_getElem? (i := 294) (by decide +kernel)⟩
theorem lw_p7 : lw_okq (⟨"RedoShelf", "planHead", "(II)V"⟩, 11) := ⟨⟨by decide +kernel, by decide +kernel⟩, List.mem_of_getElem? (i := 12) (by decide +kernel), List.mem_of_getElem? (i := 316) (by decide +kernel), List.mem_of_getElem? (i := 317) (by decide +kernel)⟩
theorem lw_p8 : lw_okq (⟨"RedoShelf$LogReader", "takeHead", "(LRedoShelf$Device;)V"⟩, 13) := ⟨⟨by decide +kernel, by decide +kernel⟩, List.mem_of_getElem? (i := 77) (by decide +kernel), List.mem_of_getElem? (i := 329) (by decide +kernel), List.mem_of_getElem? (i := 330) (by decide +kernel)⟩
theorem lw_p9 : lw_okq (⟨"RedoShelf$LogReader", "takeLog", "(LRedoShelf$Device;)V"⟩, 13) := ⟨⟨by decide +kernel, by decide +kernel⟩, List.mem_of_getElem? (i := 77) (by decide +kernel), List.mem_of_getElem? (i := 335) (by decide +kernel), List.mem_of_getElem? (i := 336) (by decide +kernel)⟩
theorem lw_p10 : lw_okq (⟨"RedoShelf$LogReader", "takeTransaction", "(I)Z"⟩, 13) := ⟨⟨by decide +kernel, by decide +kernel⟩, List.mem_of_getElem? (i := 77) (by decide +kernel), List.mem_of_getElem? (i := 343) (by decide +kernel), List.mem_of_getElem? (i := 344) (by decide +kernel)⟩
theorem lw_p11 : lw_okq (⟨"RedoShelf$LogReader", "passGroups", "(I)V"⟩, 13) := ⟨⟨by decide +kernel, by decide +kernel⟩, List.mem_of_getElem? (i := 77) (by decide +kernel), List.mem_of_getElem? (i := 347) (by decide +kernel), List.mem_of_getElem? (i := 348) (by decide +kernel)⟩
theorem lw_p12 : lw_okq (⟨"RedoShelf$LogReader", "isOwn", "(I)Z"⟩, 13) := ⟨⟨by decide +kernel, by decide +kernel⟩, List.mem_of_getElem? (i := 77) (by decide +kernel), List.mem_of_getElem? (i := 351) (by decide +kernel), List.mem_of_getElem? (i := 352) (by decide +kernel)⟩
theorem lw_p13 : lw_okq (⟨"RedoShelf$LogReader", "wordAt", "(II)I"⟩, 13) := ⟨⟨by decide +kernel, by decide +kernel⟩, List.mem_of_getElem? (i := 77) (by decide +kernel), List.mem_of_getElem? (i := 355) (by decide +kernel), List.mem_of_getElem? (i := 356) (by decide +kernel)⟩
theorem lw_p14 : lw_okq (⟨"RedoShelf$LogReader", "passSector", "()V"⟩, 13) := ⟨⟨by decide +kernel, by decide +kernel⟩, List.mem_of_getElem? (i := 77) (by decide +kernel), List.mem_of_getElem? (i := 359) (by decide +kernel), List.mem_of_getElem? (i := 360) (by decide +kernel)⟩
theorem lw_p15 : lw_okq (⟨"RedoShelf$LogReader", "noteImage", "(II)V"⟩, 13) := ⟨⟨by decide +kernel, by decide +kernel⟩, List.mem_of_getElem? (i := 77) (by decide +kernel), List.mem_of_getElem? (i := 364) (by decide +kernel), List.mem_of_getElem? (i := 365) (by decide +kernel)⟩
def lw_privs_1 : List (MethodName × Nat) := [(⟨"RedoShelf", "comeUp", "(II)V"⟩, 11), (⟨"RedoShelf", "isIdle", "()Z"⟩, 11), (⟨"RedoShelf", "beginImage", "(I)V"⟩, 11), (⟨"RedoShelf", "volumeWord", "(II)I"⟩, 11), (⟨"RedoShelf$Row", "addGroup", "(LRedoShelf$Images;II)V"⟩, 4), (⟨"RedoShelf$Row", "add", "(IIII)V"⟩, 4), (⟨"RedoShelf", "planRowSector", "(I)V"⟩, 11), (⟨"RedoShelf", "planHead", "(II)V"⟩, 11), (⟨"RedoShelf$LogReader", "takeHead", "(LRedoShelf$Device;)V"⟩, 13), (⟨"RedoShelf$LogReader", "takeLog", "(LRedoShelf$Device;)V"⟩, 13), (⟨"RedoShelf$LogReader", "takeTransaction", "(I)Z"⟩, 13), (⟨"RedoShelf$LogReader", "passGroups", "(I)V"⟩, 13), (⟨"RedoShelf$LogReader", "isOwn", "(I)Z"⟩, 13), (⟨"RedoShelf$LogReader", "wordAt", "(II)I"⟩, 13), (⟨"RedoShelf$LogReader", "passSector", "()V"⟩, 13), (⟨"RedoShelf$LogReader", "noteImage", "(II)V"⟩, 13)]
theorem lw_r1 : ∀ q ∈ lw_privs_1, lw_okq q := List.forall_mem_cons.mpr ⟨lw_p0, List.forall_mem_cons.mpr ⟨lw_p1, List.forall_mem_cons.mpr ⟨lw_p2, List.forall_mem_cons.mpr ⟨lw_p3, List.forall_mem_cons.mpr ⟨lw_p4, List.forall_mem_cons.mpr ⟨lw_p5, List.forall_mem_cons.mpr ⟨lw_p6, List.forall_mem_cons.mpr ⟨lw_p7, List.forall_mem_cons.mpr ⟨lw_p8, List.forall_mem_cons.mpr ⟨lw_p9, List.forall_mem_cons.mpr ⟨lw_p10, List.forall_mem_cons.mpr ⟨lw_p11, List.forall_mem_cons.mpr ⟨lw_p12, List.forall_mem_cons.mpr ⟨lw_p13, List.forall_mem_cons.mpr ⟨lw_p14, List.forall_mem_cons.mpr ⟨lw_p15, fun _ h => absurd h List.not_mem_nil⟩⟩⟩⟩⟩⟩⟩⟩⟩⟩⟩⟩⟩⟩⟩⟩
theorem lw_p16 : lw_okq (⟨"RedoShelf$LogReader", "passRevocations", "()I"⟩, 13) := ⟨⟨by decide +kernel, by decide +kernel⟩, List.mem_of_getElem? (i := 77) (by decide +kernel), List.mem_of_getElem? (i := 368) (by decide +kernel), List.mem_of_getElem? (i := 369) (by decide +kernel)⟩
theorem lw_p17 : lw_okq (⟨"RedoShelf$Device", "settle", "(II)V"⟩, 4) := ⟨⟨by decide +kernel, by decide +kernel⟩, List.mem_of_getElem? (i := 20) (by decide +kernel), List.mem_of_getElem? (i := 415) (by decide +kernel), List.mem_of_getElem? (i := 416) (by decide +kernel)⟩
theorem lw_p18 : lw_okq (⟨"RedoShelf", "finishJob", "()V"⟩, 11) := ⟨⟨by decide +kernel, by decide +kernel⟩, List.mem_of_getElem? (i := 12) (by decide +kernel), List.mem_of_getElem? (i := 426) (by decide +kernel), List.mem_of_getElem? (i := 427) (by decide +kernel)⟩
theorem lw_p19 : lw_okq (⟨"RedoShelf", "finishCommit", "()V"⟩, 11) := ⟨⟨by decide +kernel, by decide +kernel⟩, List.mem_of_getElem? (i := 12) (by decide +kernel), List.mem_of_getElem? (i := 439) (by decide +kernel), List.mem_of_getElem? (i := 440) (by decide +kernel)⟩
theorem lw_p20 : lw_okq (⟨"RedoShelf", "isRevoked", "(I)Z"⟩, 11) := ⟨⟨by decide +kernel, by decide +kernel⟩, List.mem_of_getElem? (i := 12) (by decide +kernel), List.mem_of_getElem? (i := 449) (by decide +kernel), List.mem_of_getElem? (i := 450) (by decide +kernel)⟩
theorem lw_p21 : lw_okq (⟨"RedoShelfModel", "idle", "()Z"⟩, 23) := ⟨⟨by decide +kernel, by decide +kernel⟩, List.mem_of_getElem? (i := 504) (by decide +kernel), List.mem_of_getElem? (i := 608) (by decide +kernel), List.mem_of_getElem? (i := 609) (by decide +kernel)⟩
theorem lw_p22 : lw_okq (⟨"RedoShelfModel", "countOf", "(I)I"⟩, 23) := ⟨⟨by decide +kernel, by decide +kernel⟩, List.mem_of_getElem? (i := 504) (by decide +kernel), List.mem_of_getElem? (i := 612) (by decide +kernel), List.mem_of_getElem? (i := 613) (by decide +kernel)⟩
theorem lw_p23 : lw_okq (⟨"RedoShelfModel", "writeOut", "(I)V"⟩, 23) := ⟨⟨by decide +kernel, by decide +kernel⟩, List.mem_of_getElem? (i := 504) (by decide +kernel), List.mem_of_getElem? (i := 625) (by decide +kernel), List.mem_of_getElem? (i := 626) (by decide +kernel)⟩
theorem lw_p24 : lw_okq (⟨"RedoShelfModel", "rowLength", "()I"⟩, 23) := ⟨⟨by decide +kernel, by decide +kernel⟩, List.mem_of_getElem? (i := 504) (by decide +kernel), List.mem_of_getElem? (i := 637) (by decide +kernel), List.mem_of_getElem? (i := 638) (by decide +kernel)⟩
theorem lw_p25 : lw_okq (⟨"RedoShelfModel", "countPending", "()I"⟩, 23) := ⟨⟨by decide +kernel, by decide +kernel⟩, List.mem_of_getElem? (i := 504) (by decide +kernel), List.mem_of_getElem? (i := 645) (by decide +kernel), List.mem_of_getElem? (i := 646) (by decide +kernel)⟩
theorem lw_p26 : lw_okq (⟨"RedoShelfModel", "replay", "(I)I"⟩, 23) := ⟨⟨by decide +kernel, by decide +kernel⟩, List.mem_of_getElem? (i := 504) (by decide +kernel), List.mem_of_getElem? (i := 653) (by decide +kernel), List.mem_of_getElem? (i := 654) (by decide +kernel)⟩
theorem lw_p27 : lw_okq (⟨"RedoShelfModel", "findRevocations", "()V"⟩, 23) := ⟨⟨by decide +kernel, by decide +kernel⟩, List.mem_of_getElem? (i := 504) (by decide +kernel), List.mem_of_getElem? (i := 657) (by decide +kernel), List.mem_of_getElem? (i := 658) (by decide +kernel)⟩
theorem lw_p28 : lw_okq (⟨"RedoShelfModel", "findHead", "()V"⟩, 23) := ⟨⟨by decide +kernel, by decide +kernel⟩, List.mem_of_getElem? (i := 504) (by decide +kernel), List.mem_of_getElem? (i := 661) (by decide +kernel), List.mem_of_getElem? (i := 662) (by decide +kernel)⟩
theorem lw_p29 : lw_okq (⟨"RedoShelfModel", "validAt", "(II)I"⟩, 23) := ⟨⟨by decide +kernel, by decide +kernel⟩, List.mem_of_getElem? (i := 504) (by decide +kernel), List.mem_of_getElem? (i := 665) (by decide +kernel), List.mem_of_getElem? (i := 666) (by decide +kernel)⟩
theorem lw_p30 : lw_okq (⟨"RedoShelfModel", "logWord", "(II)I"⟩, 23) := ⟨⟨by decide +kernel, by decide +kernel⟩, List.mem_of_getElem? (i := 504) (by decide +kernel), List.mem_of_getElem? (i := 669) (by decide +kernel), List.mem_of_getElem? (i := 670) (by decide +kernel)⟩
theorem lw_p31 : lw_okq (⟨"RedoShelfModel", "mixSector", "(II)I"⟩, 23) := ⟨⟨by decide +kernel, by decide +kernel⟩, List.mem_of_getElem? (i := 504) (by decide +kernel), List.mem_of_getElem? (i := 673) (by decide +kernel), List.mem_of_getElem? (i := 674) (by decide +kernel)⟩
def lw_privs_2 : List (MethodName × Nat) := [(⟨"RedoShelf$LogReader", "passRevocations", "()I"⟩, 13), (⟨"RedoShelf$Device", "settle", "(II)V"⟩, 4), (⟨"RedoShelf", "finishJob", "()V"⟩, 11), (⟨"RedoShelf", "finishCommit", "()V"⟩, 11), (⟨"RedoShelf", "isRevoked", "(I)Z"⟩, 11), (⟨"RedoShelfModel", "idle", "()Z"⟩, 23), (⟨"RedoShelfModel", "countOf", "(I)I"⟩, 23), (⟨"RedoShelfModel", "writeOut", "(I)V"⟩, 23), (⟨"RedoShelfModel", "rowLength", "()I"⟩, 23), (⟨"RedoShelfModel", "countPending", "()I"⟩, 23), (⟨"RedoShelfModel", "replay", "(I)I"⟩, 23), (⟨"RedoShelfModel", "findRevocations", "()V"⟩, 23), (⟨"RedoShelfModel", "findHead", "()V"⟩, 23), (⟨"RedoShelfModel", "validAt", "(II)I"⟩, 23), (⟨"RedoShelfModel", "logWord", "(II)I"⟩, 23), (⟨"RedoShelfModel", "mixSector", "(II)I"⟩, 23)]
theorem lw_r2 : ∀ q ∈ lw_privs_2, lw_okq q := List.forall_mem_cons.mpr ⟨lw_p16, List.forall_mem_cons.mpr ⟨lw_p17, List.forall_mem_cons.mpr ⟨lw_p18, List.forall_mem_cons.mpr ⟨lw_p19, List.forall_mem_cons.mpr ⟨lw_p20, List.forall_mem_cons.mpr ⟨lw_p21, List.forall_mem_cons.mpr ⟨lw_p22, List.forall_mem_cons.mpr ⟨lw_p23, List.forall_mem_cons.mpr ⟨lw_p24, List.forall_mem_cons.mpr ⟨lw_p25, List.forall_mem_cons.mpr ⟨lw_p26, List.forall_mem_cons.mpr ⟨lw_p27, List.forall_mem_cons.mpr ⟨lw_p28, List.forall_mem_cons.mpr ⟨lw_p29, List.forall_mem_cons.mpr ⟨lw_p30, List.forall_mem_cons.mpr ⟨lw_p31, fun _ h => absurd h List.not_mem_nil⟩⟩⟩⟩⟩⟩⟩⟩⟩⟩⟩⟩⟩⟩⟩⟩
theorem lw_p32 : lw_okq (⟨"RedoShelfModel", "isRevocation", "(II)Z"⟩, 23) := ⟨⟨by decide +kernel, by decide +kernel⟩, List.mem_of_getElem? (i := 504) (by decide +kernel), List.mem_of_getElem? (i := 681) (by decide +kernel), List.mem_of_getElem? (i := 682) (by decide +kernel)⟩
theorem lw_p33 : lw_okq (⟨"RedoShelfModel", "say", "(IIII)V"⟩, 23) := ⟨⟨by decide +kernel, by decide +kernel⟩, List.mem_of_getElem? (i := 504) (by decide +kernel), List.mem_of_getElem? (i := 685) (by decide +kernel), List.mem_of_getElem? (i := 686) (by decide +kernel)⟩
theorem lw_p34 : lw_okq (⟨"RedoShelfModel", "commitAction", "(I)V"⟩, 23) := ⟨⟨by decide +kernel, by decide +kernel⟩, List.mem_of_getElem? (i := 504) (by decide +kernel), List.mem_of_getElem? (i := 693) (by decide +kernel), List.mem_of_getElem? (i := 694) (by decide +kernel)⟩
theorem lw_p35 : lw_okq (⟨"RedoShelfModel", "body", "(I)V"⟩, 23) := ⟨⟨by decide +kernel, by decide +kernel⟩, List.mem_of_getElem? (i := 504) (by decide +kernel), List.mem_of_getElem? (i := 697) (by decide +kernel), List.mem_of_getElem? (i := 698) (by decide +kernel)⟩
theorem lw_p36 : lw_okq (⟨"RedoShelfModel", "revocationWord", "()I"⟩, 23) := ⟨⟨by decide +kernel, by decide +kernel⟩, List.mem_of_getElem? (i := 504) (by decide +kernel), List.mem_of_getElem? (i := 701) (by decide +kernel), List.mem_of_getElem? (i := 702) (by decide +kernel)⟩
theorem lw_p37 : lw_okq (⟨"RedoShelfModel", "groupWord", "(II)I"⟩, 23) := ⟨⟨by decide +kernel, by decide +kernel⟩, List.mem_of_getElem? (i := 504) (by decide +kernel), List.mem_of_getElem? (i := 705) (by decide +kernel), List.mem_of_getElem? (i := 706) (by decide +kernel)⟩
theorem lw_p38 : lw_okq (⟨"RedoShelfModel", "imageBlock", "(I)I"⟩, 23) := ⟨⟨by decide +kernel, by decide +kernel⟩, List.mem_of_getElem? (i := 504) (by decide +kernel), List.mem_of_getElem? (i := 709) (by decide +kernel), List.mem_of_getElem? (i := 710) (by decide +kernel)⟩
theorem lw_p39 : lw_okq (⟨"RedoShelfModel", "sum", "(I)I"⟩, 23) := ⟨⟨by decide +kernel, by decide +kernel⟩, List.mem_of_getElem? (i := 504) (by decide +kernel), List.mem_of_getElem? (i := 713) (by decide +kernel), List.mem_of_getElem? (i := 714) (by decide +kernel)⟩
theorem lw_p40 : lw_okq (⟨"RedoShelfModel", "flush", "()V"⟩, 23) := ⟨⟨by decide +kernel, by decide +kernel⟩, List.mem_of_getElem? (i := 504) (by decide +kernel), List.mem_of_getElem? (i := 717) (by decide +kernel), List.mem_of_getElem? (i := 718) (by decide +kernel)⟩
theorem lw_p41 : lw_okq (⟨"RedoShelfModel", "settle", "(II)V"⟩, 23) := ⟨⟨by decide +kernel, by decide +kernel⟩, List.mem_of_getElem? (i := 504) (by decide +kernel), List.mem_of_getElem? (i := 721) (by decide +kernel), List.mem_of_getElem? (i := 722) (by decide +kernel)⟩
theorem lw_p42 : lw_okq (⟨"RedoShelfModel", "checkpointAction", "(I)V"⟩, 23) := ⟨⟨by decide +kernel, by decide +kernel⟩, List.mem_of_getElem? (i := 504) (by decide +kernel), List.mem_of_getElem? (i := 725) (by decide +kernel), List.mem_of_getElem? (i := 726) (by decide +kernel)⟩
theorem lw_p43 : lw_okq (⟨"RedoShelfModel", "recoveryAction", "(I)V"⟩, 23) := ⟨⟨by decide +kernel, by decide +kernel⟩, List.mem_of_getElem? (i := 504) (by decide +kernel), List.mem_of_getElem? (i := 729) (by decide +kernel), List.mem_of_getElem? (i := 730) (by decide +kernel)⟩
theorem lw_p44 : lw_okq (⟨"RedoShelfModel", "finish", "()V"⟩, 23) := ⟨⟨by decide +kernel, by decide +kernel⟩, List.mem_of_getElem? (i := 504) (by decide +kernel), List.mem_of_getElem? (i := 733) (by decide +kernel), List.mem_of_getElem? (i := 734) (by decide +kernel)⟩
theorem lw_p45 : lw_okq (⟨"RedoShelfModel", "committed", "()V"⟩, 23) := ⟨⟨by decide +kernel, by decide +kernel⟩, List.mem_of_getElem? (i := 504) (by decide +kernel), List.mem_of_getElem? (i := 737) (by decide +kernel), List.mem_of_getElem? (i := 738) (by decide +kernel)⟩
theorem lw_p46 : lw_okq (⟨"RedoShelfModel", "checkpointed", "()V"⟩, 23) := ⟨⟨by decide +kernel, by decide +kernel⟩, List.mem_of_getElem? (i := 504) (by decide +kernel), List.mem_of_getElem? (i := 741) (by decide +kernel), List.mem_of_getElem? (i := 742) (by decide +kernel)⟩
theorem lw_p47 : lw_okq (⟨"RedoShelfModel", "recovered", "()V"⟩, 23) := ⟨⟨by decide +kernel, by decide +kernel⟩, List.mem_of_getElem? (i := 504) (by decide +kernel), List.mem_of_getElem? (i := 745) (by decide +kernel), List.mem_of_getElem? (i := 746) (by decide +kernel)⟩
def lw_privs_3 : List (MethodName × Nat) := [(⟨"RedoShelfModel", "isRevocation", "(II)Z"⟩, 23), (⟨"RedoShelfModel", "say", "(IIII)V"⟩, 23), (⟨"RedoShelfModel", "commitAction", "(I)V"⟩, 23), (⟨"RedoShelfModel", "body", "(I)V"⟩, 23), (⟨"RedoShelfModel", "revocationWord", "()I"⟩, 23), (⟨"RedoShelfModel", "groupWord", "(II)I"⟩, 23), (⟨"RedoShelfModel", "imageBlock", "(I)I"⟩, 23), (⟨"RedoShelfModel", "sum", "(I)I"⟩, 23), (⟨"RedoShelfModel", "flush", "()V"⟩, 23), (⟨"RedoShelfModel", "settle", "(II)V"⟩, 23), (⟨"RedoShelfModel", "checkpointAction", "(I)V"⟩, 23), (⟨"RedoShelfModel", "recoveryAction", "(I)V"⟩, 23), (⟨"RedoShelfModel", "finish", "()V"⟩, 23), (⟨"RedoShelfModel", "committed", "()V"⟩, 23), (⟨"RedoShelfModel", "checkpointed", "()V"⟩, 23), (⟨"RedoShelfModel", "recovered", "()V"⟩, 23)]
theorem lw_r3 : ∀ q ∈ lw_privs_3, lw_okq q := List.forall_mem_cons.mpr ⟨lw_p32, List.forall_mem_cons.mpr ⟨lw_p33, List.forall_mem_cons.mpr ⟨lw_p34, List.forall_mem_cons.mpr ⟨lw_p35, List.forall_mem_cons.mpr ⟨lw_p36, List.forall_mem_cons.mpr ⟨lw_p37, List.forall_mem_cons.mpr ⟨lw_p38, List.forall_mem_cons.mpr ⟨lw_p39, List.forall_mem_cons.mpr ⟨lw_p40, List.forall_mem_cons.mpr ⟨lw_p41, List.forall_mem_cons.mpr ⟨lw_p42, List.forall_mem_cons.mpr ⟨lw_p43, List.forall_mem_cons.mpr ⟨lw_p44, List.forall_mem_cons.mpr ⟨lw_p45, List.forall_mem_cons.mpr ⟨lw_p46, List.forall_mem_cons.mpr ⟨lw_p47, fun _ h => absurd h List.not_mem_nil⟩⟩⟩⟩⟩⟩⟩⟩⟩⟩⟩⟩⟩⟩⟩⟩
def lw_privs : List (MethodName × Nat) := lw_privs_1 ++ (lw_privs_2 ++ (lw_privs_3))
def lw_tbl : List Cond := k2_sels lw_privs ++ tables_1
theorem lw_privs_ok : ∀ q ∈ lw_privs, lw_okq q := by
  show ∀ q ∈ lw_privs_1 ++ (lw_privs_2 ++ (lw_privs_3)), lw_okq q
  exact List.forall_mem_append.mpr ⟨lw_r1, List.forall_mem_append.mpr ⟨lw_r2, lw_r3⟩⟩
end
section
/-! NAMES, by program (wip/whole/gen_names.py) out of the task's listing and tables -/
abbrev xk : Type := (Nat × List (Option Nat)) ⊕ (Bool × Nat)
def T_RS : u_T := fun k => match k with
  | 0 => ("RedoShelf", "device", "LRedoShelf$Device;", true)
  | 1 => ("RedoShelf", "running", "LRedoShelf$Images;", true)
  | 2 => ("RedoShelf", "pending", "LRedoShelf$Images;", true)
  | 3 => ("RedoShelf", "row", "LRedoShelf$Row;", true)
  | 4 => ("RedoShelf", "reader", "LRedoShelf$LogReader;", true)
  | 5 => ("RedoShelf", "job", "LRedoShelf$Job;", true)
  | 6 => ("RedoShelf", "up", "Z", false)
  | 7 => ("RedoShelf", "revoked", "I", false)
  | 8 => ("RedoShelf", "nextNumber", "I", false)
  | 9 => ("RedoShelf", "nextPlace", "I", false)
  | _ => ("RedoShelf", "usedSectors", "I", false)
def t_RS : Nat → FieldType := fun k => match k with
  | 0 => .object "RedoShelf$Device"
  | 1 => .object "RedoShelf$Images"
  | 2 => .object "RedoShelf$Images"
  | 3 => .object "RedoShelf$Row"
  | 4 => .object "RedoShelf$LogReader"
  | 5 => .object "RedoShelf$Job"
  | 6 => .boolean
  | 7 => .int
  | 8 => .int
  | 9 => .int
  | _ => .int
theorem n_RS : ∀ a, a < 11 → ∀ b, b < 11 → a ≠ b → (T_RS a).2.1 ≠ (T_RS b).2.1 := by decide +kernel
theorem t_RS_ok : ∀ k, k < 11 → parseFieldDescriptor (T_RS k).2.2.1 = some (t_RS k) := by decide +kernel
theorem i_RS : ∀ w ∈ u_ws "RedoShelf" T_RS 11, w ∈ lw_tbl := by decide +kernel
def T_DV : u_T := fun k => match k with
  | 0 => ("RedoShelf$Device", "sectorWords", "[I", true)
  | 1 => ("RedoShelf$Device", "entrySector", "[I", true)
  | 2 => ("RedoShelf$Device", "entryWords", "[I", true)
  | _ => ("RedoShelf$Device", "entries", "I", false)
def t_DV : Nat → FieldType := fun k => match k with
  | 0 => .array .int
  | 1 => .array .int
  | 2 => .array .int
  | _ => .int
theorem n_DV : ∀ a, a < 4 → ∀ b, b < 4 → a ≠ b → (T_DV a).2.1 ≠ (T_DV b).2.1 := by decide +kernel
theorem t_DV_ok : ∀ k, k < 4 → parseFieldDescriptor (T_DV k).2.2.1 = some (t_DV k) := by decide +kernel
theorem i_DV : ∀ w ∈ u_ws "RedoShelf$Device" T_DV 4, w ∈ lw_tbl := by decide +kernel
def T_IM : u_T := fun k => match k with
  | 0 => ("RedoShelf$Images", "held", "[Z", true)
  | 1 => ("RedoShelf$Images", "words", "[I", true)
  | _ => ("RedoShelf$Images", "count", "I", false)
def t_IM : Nat → FieldType := fun k => match k with
  | 0 => .array .boolean
  | 1 => .array .int
  | _ => .int
theorem n_IM : ∀ a, a < 3 → ∀ b, b < 3 → a ≠ b → (T_IM a).2.1 ≠ (T_IM b).2.1 := by decide +kernel
theorem t_IM_ok : ∀ k, k < 3 → parseFieldDescriptor (T_IM k).2.2.1 = some (t_IM k) := by decide +kernel
theorem i_IM : ∀ w ∈ u_ws "RedoShelf$Images" T_IM 3, w ∈ lw_tbl := by decide +kernel
def T_RW : u_T := fun k => match k with
  | 0 => ("RedoShelf$Row", "words", "[I", true)
  | 1 => ("RedoShelf$Row", "group", "[I", true)
  | 2 => ("RedoShelf$Row", "sectors", "I", false)
  | _ => ("RedoShelf$Row", "sum", "I", false)
def t_RW : Nat → FieldType := fun k => match k with
  | 0 => .array .int
  | 1 => .array .int
  | 2 => .int
  | _ => .int
theorem n_RW : ∀ a, a < 4 → ∀ b, b < 4 → a ≠ b → (T_RW a).2.1 ≠ (T_RW b).2.1 := by decide +kernel
theorem t_RW_ok : ∀ k, k < 4 → parseFieldDescriptor (T_RW k).2.2.1 = some (t_RW k) := by decide +kernel
theorem i_RW : ∀ w ∈ u_ws "RedoShelf$Row" T_RW 4, w ∈ lw_tbl := by decide +kernel
def T_LR : u_T := fun k => match k with
  | 0 => ("RedoShelf$LogReader", "log", "[I", true)
  | 1 => ("RedoShelf$LogReader", "imageOffset", "[I", true)
  | 2 => ("RedoShelf$LogReader", "imageBlock", "[I", true)
  | 3 => ("RedoShelf$LogReader", "imageHidden", "[Z", true)
  | 4 => ("RedoShelf$LogReader", "imageTurn", "[I", true)
  | 5 => ("RedoShelf$LogReader", "lastRevokingTurn", "[I", true)
  | 6 => ("RedoShelf$LogReader", "start", "I", false)
  | 7 => ("RedoShelf$LogReader", "number", "I", false)
  | 8 => ("RedoShelf$LogReader", "validSectors", "I", false)
  | 9 => ("RedoShelf$LogReader", "validImages", "I", false)
  | 10 => ("RedoShelf$LogReader", "at", "I", false)
  | 11 => ("RedoShelf$LogReader", "sum", "I", false)
  | _ => ("RedoShelf$LogReader", "found", "I", false)
def t_LR : Nat → FieldType := fun k => match k with
  | 0 => .array .int
  | 1 => .array .int
  | 2 => .array .int
  | 3 => .array .boolean
  | 4 => .array .int
  | 5 => .array .int
  | 6 => .int
  | 7 => .int
  | 8 => .int
  | 9 => .int
  | 10 => .int
  | 11 => .int
  | _ => .int
theorem n_LR : ∀ a, a < 13 → ∀ b, b < 13 → a ≠ b → (T_LR a).2.1 ≠ (T_LR b).2.1 := by decide +kernel
theorem t_LR_ok : ∀ k, k < 13 → parseFieldDescriptor (T_LR k).2.2.1 = some (t_LR k) := by decide +kernel
theorem i_LR : ∀ w ∈ u_ws "RedoShelf$LogReader" T_LR 13, w ∈ lw_tbl := by decide +kernel
def T_JB : u_T := fun k => match k with
  | 0 => ("RedoShelf$Job", "target", "[I", true)
  | 1 => ("RedoShelf$Job", "words", "[I", true)
  | 2 => ("RedoShelf$Job", "runningKind", "I", false)
  | 3 => ("RedoShelf$Job", "planned", "I", false)
  | _ => ("RedoShelf$Job", "done", "I", false)
def t_JB : Nat → FieldType := fun k => match k with
  | 0 => .array .int
  | 1 => .array .int
  | 2 => .int
  | 3 => .int
  | _ => .int
theorem n_JB : ∀ a, a < 5 → ∀ b, b < 5 → a ≠ b → (T_JB a).2.1 ≠ (T_JB b).2.1 := by decide +kernel
theorem t_JB_ok : ∀ k, k < 5 → parseFieldDescriptor (T_JB k).2.2.1 = some (t_JB k) := by decide +kernel
theorem i_JB : ∀ w ∈ u_ws "RedoShelf$Job" T_JB 5, w ∈ lw_tbl := by decide +kernel
def T_MD : u_T := fun k => match k with
  | 0 => ("RedoShelfModel", "disk", "[I", true)
  | 1 => ("RedoShelfModel", "entries", "I", false)
  | 2 => ("RedoShelfModel", "sectorOf", "[I", true)
  | 3 => ("RedoShelfModel", "words", "[I", true)
  | 4 => ("RedoShelfModel", "up", "Z", false)
  | 5 => ("RedoShelfModel", "number", "I", false)
  | 6 => ("RedoShelfModel", "next", "I", false)
  | 7 => ("RedoShelfModel", "used", "I", false)
  | 8 => ("RedoShelfModel", "kinds", "[I", true)
  | 9 => ("RedoShelfModel", "running", "[I", true)
  | 10 => ("RedoShelfModel", "isPending", "[Z", true)
  | 11 => ("RedoShelfModel", "pending", "[I", true)
  | 12 => ("RedoShelfModel", "job", "I", false)
  | 13 => ("RedoShelfModel", "done", "I", false)
  | 14 => ("RedoShelfModel", "total", "I", false)
  | 15 => ("RedoShelfModel", "out", "[I", true)
  | 16 => ("RedoShelfModel", "target", "I", false)
  | 17 => ("RedoShelfModel", "place", "I", false)
  | 18 => ("RedoShelfModel", "first", "I", false)
  | 19 => ("RedoShelfModel", "after", "I", false)
  | 20 => ("RedoShelfModel", "length", "I", false)
  | 21 => ("RedoShelfModel", "revoker", "[I", true)
  | _ => ("RedoShelfModel", "revoked", "[Z", true)
def t_MD : Nat → FieldType := fun k => match k with
  | 0 => .array .int
  | 1 => .int
  | 2 => .array .int
  | 3 => .array .int
  | 4 => .boolean
  | 5 => .int
  | 6 => .int
  | 7 => .int
  | 8 => .array .int
  | 9 => .array .int
  | 10 => .array .boolean
  | 11 => .array .int
  | 12 => .int
  | 13 => .int
  | 14 => .int
  | 15 => .array .int
  | 16 => .int
  | 17 => .int
  | 18 => .int
  | 19 => .int
  | 20 => .int
  | 21 => .array .int
  | _ => .array .boolean
theorem n_MD : ∀ a, a < 23 → ∀ b, b < 23 → a ≠ b → (T_MD a).2.1 ≠ (T_MD b).2.1 := by decide +kernel
theorem t_MD_ok : ∀ k, k < 23 → parseFieldDescriptor (T_MD k).2.2.1 = some (t_MD k) := by decide +kernel
theorem i_MD : ∀ w ∈ u_ws "RedoShelfModel" T_MD 23, w ∈ lw_tbl := by decide +kernel
abbrev vwCl : List vw_C := [("RedoShelf", T_RS, 11), ("RedoShelf$Device", T_DV, 4), ("RedoShelf$Images", T_IM, 3), ("RedoShelf$Row", T_RW, 4), ("RedoShelf$LogReader", T_LR, 13), ("RedoShelf$Job", T_JB, 5), ("RedoShelfModel", T_MD, 23)]
def lay : List xk := [.inl (0, [some 1, some 2, some 3, some 4, some 5, some 6, none, none, none, none, none]), .inl (1, [some 8, some 9, some 10, none]), .inl (2, [some 11, some 12, none]), .inl (2, [some 13, some 14, none]), .inl (3, [some 15, some 16, none, none]), .inl (4, [some 17, some 18, some 19, some 20, some 21, some 22, none, none, none, none, none, none, none]), .inl (5, [some 23, some 24, none, none, none]), .inl (6, [some 25, none, some 26, some 27, none, none, none, none, some 28, some 29, some 30, some 31, none, none, none, some 32, none, none, none, none, none, some 33, some 34]), .inr (false, 164), .inr (false, 28), .inr (false, 112), .inr (true, 16), .inr (false, 64), .inr (true, 16), .inr (false, 64), .inr (false, 48), .inr (false, 4), .inr (false, 96), .inr (false, 24), .inr (false, 24), .inr (true, 24), .inr (false, 24), .inr (false, 16), .inr (false, 27), .inr (false, 108), .inr (false, 164), .inr (false, 32), .inr (false, 128), .inr (false, 16), .inr (false, 64), .inr (true, 16), .inr (false, 64), .inr (false, 4), .inr (false, 16), .inr (true, 16)]
def M_RS_put : MethodName × ByteArray × Nat × Option FieldType × Nat × Nat := (⟨"RedoShelf", "put", "(III)Z"⟩, prog_1_method_2_code, 4, some .boolean, 4, 89)
def M_RS_revoke : MethodName × ByteArray × Nat × Option FieldType × Nat × Nat := (⟨"RedoShelf", "revoke", "(I)Z"⟩, prog_1_method_3_code, 2, some .boolean, 2, 40)
def M_RS_direct : MethodName × ByteArray × Nat × Option FieldType × Nat × Nat := (⟨"RedoShelf", "direct", "(III)Z"⟩, prog_1_method_4_code, 4, some .boolean, 3, 70)
def M_RS_commit : MethodName × ByteArray × Nat × Option FieldType × Nat × Nat := (⟨"RedoShelf", "commit", "()I"⟩, prog_1_method_5_code, 3, some .int, 4, 99)
def M_RS_checkpoint : MethodName × ByteArray × Nat × Option FieldType × Nat × Nat := (⟨"RedoShelf", "checkpoint", "()I"⟩, prog_1_method_6_code, 2, some .int, 2, 48)
def M_RS_recover : MethodName × ByteArray × Nat × Option FieldType × Nat × Nat := (⟨"RedoShelf", "recover", "()I"⟩, prog_1_method_7_code, 3, some .int, 5, 113)
def M_RS_step : MethodName × ByteArray × Nat × Option FieldType × Nat × Nat := (⟨"RedoShelf", "step", "(I)I"⟩, prog_1_method_8_code, 4, some .int, 4, 90)
def M_RS_crash : MethodName × ByteArray × Nat × Option FieldType × Nat × Nat := (⟨"RedoShelf", "crash", "(II)I"⟩, prog_1_method_9_code, 3, some .int, 3, 74)
def M_RS_get : MethodName × ByteArray × Nat × Option FieldType × Nat × Nat := (⟨"RedoShelf", "get", "(II)I"⟩, prog_1_method_10_code, 3, some .int, 3, 67)
def M_RS_read : MethodName × ByteArray × Nat × Option FieldType × Nat × Nat := (⟨"RedoShelf", "read", "(II)I"⟩, prog_1_method_11_code, 3, some .int, 2, 45)
def M_RS_stored : MethodName × ByteArray × Nat × Option FieldType × Nat × Nat := (⟨"RedoShelf", "stored", "(II)I"⟩, prog_1_method_12_code, 3, some .int, 1, 22)
def M_RS_cached : MethodName × ByteArray × Nat × Option FieldType × Nat × Nat := (⟨"RedoShelf", "cached", "()I"⟩, prog_1_method_13_code, 1, some .int, 1, 20)
def M_RS_state : MethodName × ByteArray × Nat × Option FieldType × Nat × Nat := (⟨"RedoShelf", "state", "()I"⟩, prog_1_method_14_code, 1, some .int, 1, 20)
def M_RS_number : MethodName × ByteArray × Nat × Option FieldType × Nat × Nat := (⟨"RedoShelf", "number", "()I"⟩, prog_1_method_15_code, 1, some .int, 0, 0)
def M_RS_used : MethodName × ByteArray × Nat × Option FieldType × Nat × Nat := (⟨"RedoShelf", "used", "()I"⟩, prog_1_method_16_code, 1, some .int, 0, 0)
def M_RS_changed : MethodName × ByteArray × Nat × Option FieldType × Nat × Nat := (⟨"RedoShelf", "changed", "(I)I"⟩, prog_1_method_17_code, 3, some .int, 1, 21)
def M_RS_left : MethodName × ByteArray × Nat × Option FieldType × Nat × Nat := (⟨"RedoShelf", "left", "()I"⟩, prog_1_method_18_code, 1, some .int, 1, 20)
def M_RS_isBlock : MethodName × ByteArray × Nat × Option FieldType × Nat × Nat := (⟨"RedoShelf", "isBlock", "(I)Z"⟩, prog_1_method_19_code, 1, some .boolean, 0, 0)
def M_RS_isBlockWord : MethodName × ByteArray × Nat × Option FieldType × Nat × Nat := (⟨"RedoShelf", "isBlockWord", "(II)Z"⟩, prog_1_method_20_code, 2, some .boolean, 1, 20)
def M_RS_isSectorWord : MethodName × ByteArray × Nat × Option FieldType × Nat × Nat := (⟨"RedoShelf", "isSectorWord", "(II)Z"⟩, prog_1_method_21_code, 2, some .boolean, 0, 0)
def M_RS_mix : MethodName × ByteArray × Nat × Option FieldType × Nat × Nat := (⟨"RedoShelf", "mix", "(II)I"⟩, prog_1_method_22_code, 3, some .int, 0, 0)
def M_RS_logSector : MethodName × ByteArray × Nat × Option FieldType × Nat × Nat := (⟨"RedoShelf", "logSector", "(I)I"⟩, prog_1_method_23_code, 1, some .int, 0, 0)
def M_RS_isIdle : MethodName × ByteArray × Nat × Option FieldType × Nat × Nat := (⟨"RedoShelf", "isIdle", "()Z"⟩, prog_1_method_24_code, 1, some .boolean, 1, 20)
def M_RS_isRevoked : MethodName × ByteArray × Nat × Option FieldType × Nat × Nat := (⟨"RedoShelf", "isRevoked", "(I)Z"⟩, prog_1_method_25_code, 2, some .boolean, 0, 0)
def M_RS_volumeWord : MethodName × ByteArray × Nat × Option FieldType × Nat × Nat := (⟨"RedoShelf", "volumeWord", "(II)I"⟩, prog_1_method_26_code, 3, some .int, 2, 45)
def M_RS_beginImage : MethodName × ByteArray × Nat × Option FieldType × Nat × Nat := (⟨"RedoShelf", "beginImage", "(I)V"⟩, prog_1_method_27_code, 3, none, 3, 67)
def M_RS_planRowSector : MethodName × ByteArray × Nat × Option FieldType × Nat × Nat := (⟨"RedoShelf", "planRowSector", "(I)V"⟩, prog_1_method_28_code, 2, none, 1, 26)
def M_RS_planHead : MethodName × ByteArray × Nat × Option FieldType × Nat × Nat := (⟨"RedoShelf", "planHead", "(II)V"⟩, prog_1_method_29_code, 3, none, 1, 26)
def M_RS_finishJob : MethodName × ByteArray × Nat × Option FieldType × Nat × Nat := (⟨"RedoShelf", "finishJob", "()V"⟩, prog_1_method_30_code, 2, none, 3, 69)
def M_RS_finishCommit : MethodName × ByteArray × Nat × Option FieldType × Nat × Nat := (⟨"RedoShelf", "finishCommit", "()V"⟩, prog_1_method_31_code, 2, none, 2, 48)
def M_RS_comeUp : MethodName × ByteArray × Nat × Option FieldType × Nat × Nat := (⟨"RedoShelf", "comeUp", "(II)V"⟩, prog_1_method_32_code, 3, none, 1, 21)
def M_DV_waiting : MethodName × ByteArray × Nat × Option FieldType × Nat × Nat := (⟨"RedoShelf$Device", "waiting", "()I"⟩, prog_2_method_2_code, 1, some .int, 0, 0)
def M_DV_ownWord : MethodName × ByteArray × Nat × Option FieldType × Nat × Nat := (⟨"RedoShelf$Device", "ownWord", "(II)I"⟩, prog_2_method_3_code, 3, some .int, 0, 0)
def M_DV_newestWord : MethodName × ByteArray × Nat × Option FieldType × Nat × Nat := (⟨"RedoShelf$Device", "newestWord", "(II)I"⟩, prog_2_method_4_code, 4, some .int, 1, 22)
def M_DV_write : MethodName × ByteArray × Nat × Option FieldType × Nat × Nat := (⟨"RedoShelf$Device", "write", "(I[II)V"⟩, prog_2_method_5_code, 4, none, 1, 26)
def M_DV_writeChanged : MethodName × ByteArray × Nat × Option FieldType × Nat × Nat := (⟨"RedoShelf$Device", "writeChanged", "(III)V"⟩, prog_2_method_6_code, 6, none, 2, 45)
def M_DV_flush : MethodName × ByteArray × Nat × Option FieldType × Nat × Nat := (⟨"RedoShelf$Device", "flush", "()V"⟩, prog_2_method_7_code, 2, none, 2, 48)
def M_DV_breakDown : MethodName × ByteArray × Nat × Option FieldType × Nat × Nat := (⟨"RedoShelf$Device", "breakDown", "(II)I"⟩, prog_2_method_8_code, 7, some .int, 2, 48)
def M_DV_isKept : MethodName × ByteArray × Nat × Option FieldType × Nat × Nat := (⟨"RedoShelf$Device", "isKept", "(II)Z"⟩, prog_2_method_9_code, 2, some .boolean, 0, 0)
def M_DV_settle : MethodName × ByteArray × Nat × Option FieldType × Nat × Nat := (⟨"RedoShelf$Device", "settle", "(II)V"⟩, prog_2_method_10_code, 3, none, 1, 26)
def M_IM_size : MethodName × ByteArray × Nat × Option FieldType × Nat × Nat := (⟨"RedoShelf$Images", "size", "()I"⟩, prog_3_method_2_code, 1, some .int, 0, 0)
def M_IM_holds : MethodName × ByteArray × Nat × Option FieldType × Nat × Nat := (⟨"RedoShelf$Images", "holds", "(I)Z"⟩, prog_3_method_3_code, 2, some .boolean, 0, 0)
def M_IM_word : MethodName × ByteArray × Nat × Option FieldType × Nat × Nat := (⟨"RedoShelf$Images", "word", "(II)I"⟩, prog_3_method_4_code, 3, some .int, 0, 0)
def M_IM_setWord : MethodName × ByteArray × Nat × Option FieldType × Nat × Nat := (⟨"RedoShelf$Images", "setWord", "(III)V"⟩, prog_3_method_5_code, 4, none, 0, 0)
def M_IM_hold : MethodName × ByteArray × Nat × Option FieldType × Nat × Nat := (⟨"RedoShelf$Images", "hold", "(I)V"⟩, prog_3_method_6_code, 2, none, 0, 0)
def M_IM_drop : MethodName × ByteArray × Nat × Option FieldType × Nat × Nat := (⟨"RedoShelf$Images", "drop", "(I)V"⟩, prog_3_method_7_code, 2, none, 0, 0)
def M_IM_copyFrom : MethodName × ByteArray × Nat × Option FieldType × Nat × Nat := (⟨"RedoShelf$Images", "copyFrom", "(LRedoShelf$Images;I)V"⟩, prog_3_method_8_code, 3, none, 1, 26)
def M_IM_clear : MethodName × ByteArray × Nat × Option FieldType × Nat × Nat := (⟨"RedoShelf$Images", "clear", "()V"⟩, prog_3_method_9_code, 2, none, 0, 0)
def M_RW_length : MethodName × ByteArray × Nat × Option FieldType × Nat × Nat := (⟨"RedoShelf$Row", "length", "()I"⟩, prog_6_method_2_code, 1, some .int, 0, 0)
def M_RW_word : MethodName × ByteArray × Nat × Option FieldType × Nat × Nat := (⟨"RedoShelf$Row", "word", "(II)I"⟩, prog_6_method_3_code, 3, some .int, 0, 0)
def M_RW_build : MethodName × ByteArray × Nat × Option FieldType × Nat × Nat := (⟨"RedoShelf$Row", "build", "(LRedoShelf$Images;II)V"⟩, prog_6_method_4_code, 6, none, 3, 74)
def M_RW_addGroup : MethodName × ByteArray × Nat × Option FieldType × Nat × Nat := (⟨"RedoShelf$Row", "addGroup", "(LRedoShelf$Images;II)V"⟩, prog_6_method_5_code, 8, none, 2, 47)
def M_RW_add : MethodName × ByteArray × Nat × Option FieldType × Nat × Nat := (⟨"RedoShelf$Row", "add", "(IIII)V"⟩, prog_6_method_6_code, 6, none, 1, 22)
def M_LR_size : MethodName × ByteArray × Nat × Option FieldType × Nat × Nat := (⟨"RedoShelf$LogReader", "size", "()I"⟩, prog_5_method_2_code, 1, some .int, 0, 0)
def M_LR_block : MethodName × ByteArray × Nat × Option FieldType × Nat × Nat := (⟨"RedoShelf$LogReader", "block", "(I)I"⟩, prog_5_method_3_code, 2, some .int, 0, 0)
def M_LR_word : MethodName × ByteArray × Nat × Option FieldType × Nat × Nat := (⟨"RedoShelf$LogReader", "word", "(II)I"⟩, prog_5_method_4_code, 3, some .int, 1, 22)
def M_LR_isToReplay : MethodName × ByteArray × Nat × Option FieldType × Nat × Nat := (⟨"RedoShelf$LogReader", "isToReplay", "(I)Z"⟩, prog_5_method_5_code, 2, some .boolean, 0, 0)
def M_LR_numberBehind : MethodName × ByteArray × Nat × Option FieldType × Nat × Nat := (⟨"RedoShelf$LogReader", "numberBehind", "()I"⟩, prog_5_method_6_code, 1, some .int, 0, 0)
def M_LR_placeBehind : MethodName × ByteArray × Nat × Option FieldType × Nat × Nat := (⟨"RedoShelf$LogReader", "placeBehind", "()I"⟩, prog_5_method_7_code, 1, some .int, 0, 0)
def M_LR_scan : MethodName × ByteArray × Nat × Option FieldType × Nat × Nat := (⟨"RedoShelf$LogReader", "scan", "(LRedoShelf$Device;)V"⟩, prog_5_method_8_code, 3, none, 4, 91)
def M_LR_takeHead : MethodName × ByteArray × Nat × Option FieldType × Nat × Nat := (⟨"RedoShelf$LogReader", "takeHead", "(LRedoShelf$Device;)V"⟩, prog_5_method_9_code, 2, none, 2, 45)
def M_LR_takeLog : MethodName × ByteArray × Nat × Option FieldType × Nat × Nat := (⟨"RedoShelf$LogReader", "takeLog", "(LRedoShelf$Device;)V"⟩, prog_5_method_10_code, 4, none, 2, 45)
def M_LR_takeTransaction : MethodName × ByteArray × Nat × Option FieldType × Nat × Nat := (⟨"RedoShelf$LogReader", "takeTransaction", "(I)Z"⟩, prog_5_method_11_code, 4, some .boolean, 3, 68)
def M_LR_passGroups : MethodName × ByteArray × Nat × Option FieldType × Nat × Nat := (⟨"RedoShelf$LogReader", "passGroups", "(I)V"⟩, prog_5_method_12_code, 6, none, 2, 43)
def M_LR_passRevocations : MethodName × ByteArray × Nat × Option FieldType × Nat × Nat := (⟨"RedoShelf$LogReader", "passRevocations", "()I"⟩, prog_5_method_13_code, 2, some .int, 2, 43)
def M_LR_noteImage : MethodName × ByteArray × Nat × Option FieldType × Nat × Nat := (⟨"RedoShelf$LogReader", "noteImage", "(II)V"⟩, prog_5_method_14_code, 3, none, 0, 0)
def M_LR_isOwn : MethodName × ByteArray × Nat × Option FieldType × Nat × Nat := (⟨"RedoShelf$LogReader", "isOwn", "(I)Z"⟩, prog_5_method_15_code, 2, some .boolean, 1, 22)
def M_LR_passSector : MethodName × ByteArray × Nat × Option FieldType × Nat × Nat := (⟨"RedoShelf$LogReader", "passSector", "()V"⟩, prog_5_method_16_code, 2, none, 1, 22)
def M_LR_wordAt : MethodName × ByteArray × Nat × Option FieldType × Nat × Nat := (⟨"RedoShelf$LogReader", "wordAt", "(II)I"⟩, prog_5_method_17_code, 3, some .int, 0, 0)
def M_JB_isRunning : MethodName × ByteArray × Nat × Option FieldType × Nat × Nat := (⟨"RedoShelf$Job", "isRunning", "()Z"⟩, prog_4_method_2_code, 1, some .boolean, 0, 0)
def M_JB_kind : MethodName × ByteArray × Nat × Option FieldType × Nat × Nat := (⟨"RedoShelf$Job", "kind", "()I"⟩, prog_4_method_3_code, 1, some .int, 0, 0)
def M_JB_remaining : MethodName × ByteArray × Nat × Option FieldType × Nat × Nat := (⟨"RedoShelf$Job", "remaining", "()I"⟩, prog_4_method_4_code, 1, some .int, 0, 0)
def M_JB_begin : MethodName × ByteArray × Nat × Option FieldType × Nat × Nat := (⟨"RedoShelf$Job", "begin", "(I)V"⟩, prog_4_method_5_code, 2, none, 0, 0)
def M_JB_end : MethodName × ByteArray × Nat × Option FieldType × Nat × Nat := (⟨"RedoShelf$Job", "end", "()V"⟩, prog_4_method_6_code, 1, none, 1, 21)
def M_JB_addFlush : MethodName × ByteArray × Nat × Option FieldType × Nat × Nat := (⟨"RedoShelf$Job", "addFlush", "()V"⟩, prog_4_method_7_code, 1, none, 0, 0)
def M_JB_addWrite : MethodName × ByteArray × Nat × Option FieldType × Nat × Nat := (⟨"RedoShelf$Job", "addWrite", "(IIIII)V"⟩, prog_4_method_8_code, 7, none, 0, 0)
def M_JB_doNext : MethodName × ByteArray × Nat × Option FieldType × Nat × Nat := (⟨"RedoShelf$Job", "doNext", "(LRedoShelf$Device;)V"⟩, prog_4_method_9_code, 2, none, 3, 69)
def M_MD_read : MethodName × ByteArray × Nat × Option FieldType × Nat × Nat := (⟨"RedoShelfModel", "read", "(II)I"⟩, prog_8_method_2_code, 5, some .int, 0, 0)
def M_MD_stored : MethodName × ByteArray × Nat × Option FieldType × Nat × Nat := (⟨"RedoShelfModel", "stored", "(II)I"⟩, prog_8_method_3_code, 3, some .int, 0, 0)
def M_MD_cached : MethodName × ByteArray × Nat × Option FieldType × Nat × Nat := (⟨"RedoShelfModel", "cached", "()I"⟩, prog_8_method_4_code, 1, some .int, 0, 0)
def M_MD_writeOut : MethodName × ByteArray × Nat × Option FieldType × Nat × Nat := (⟨"RedoShelfModel", "writeOut", "(I)V"⟩, prog_8_method_5_code, 3, none, 0, 0)
def M_MD_settle : MethodName × ByteArray × Nat × Option FieldType × Nat × Nat := (⟨"RedoShelfModel", "settle", "(II)V"⟩, prog_8_method_6_code, 4, none, 0, 0)
def M_MD_flush : MethodName × ByteArray × Nat × Option FieldType × Nat × Nat := (⟨"RedoShelfModel", "flush", "()V"⟩, prog_8_method_7_code, 2, none, 1, 23)
def M_MD_say : MethodName × ByteArray × Nat × Option FieldType × Nat × Nat := (⟨"RedoShelfModel", "say", "(IIII)V"⟩, prog_8_method_8_code, 5, none, 0, 0)
def M_MD_mix : MethodName × ByteArray × Nat × Option FieldType × Nat × Nat := (⟨"RedoShelfModel", "mix", "(II)I"⟩, prog_8_method_9_code, 3, some .int, 0, 0)
def M_MD_isBlock : MethodName × ByteArray × Nat × Option FieldType × Nat × Nat := (⟨"RedoShelfModel", "isBlock", "(I)Z"⟩, prog_8_method_10_code, 1, some .boolean, 0, 0)
def M_MD_isWord : MethodName × ByteArray × Nat × Option FieldType × Nat × Nat := (⟨"RedoShelfModel", "isWord", "(I)Z"⟩, prog_8_method_11_code, 1, some .boolean, 0, 0)
def M_MD_countOf : MethodName × ByteArray × Nat × Option FieldType × Nat × Nat := (⟨"RedoShelfModel", "countOf", "(I)I"⟩, prog_8_method_12_code, 4, some .int, 0, 0)
def M_MD_get : MethodName × ByteArray × Nat × Option FieldType × Nat × Nat := (⟨"RedoShelfModel", "get", "(II)I"⟩, prog_8_method_13_code, 3, some .int, 1, 24)
def M_MD_idle : MethodName × ByteArray × Nat × Option FieldType × Nat × Nat := (⟨"RedoShelfModel", "idle", "()Z"⟩, prog_8_method_14_code, 1, some .boolean, 0, 0)
def M_MD_put : MethodName × ByteArray × Nat × Option FieldType × Nat × Nat := (⟨"RedoShelfModel", "put", "(III)Z"⟩, prog_8_method_15_code, 5, some .boolean, 2, 46)
def M_MD_revoke : MethodName × ByteArray × Nat × Option FieldType × Nat × Nat := (⟨"RedoShelfModel", "revoke", "(I)Z"⟩, prog_8_method_16_code, 2, some .boolean, 1, 20)
def M_MD_direct : MethodName × ByteArray × Nat × Option FieldType × Nat × Nat := (⟨"RedoShelfModel", "direct", "(III)Z"⟩, prog_8_method_17_code, 5, some .boolean, 1, 24)
def M_MD_changed : MethodName × ByteArray × Nat × Option FieldType × Nat × Nat := (⟨"RedoShelfModel", "changed", "(I)I"⟩, prog_8_method_18_code, 2, some .int, 1, 20)
def M_MD_rowLength : MethodName × ByteArray × Nat × Option FieldType × Nat × Nat := (⟨"RedoShelfModel", "rowLength", "()I"⟩, prog_8_method_19_code, 2, some .int, 1, 23)
def M_MD_imageBlock : MethodName × ByteArray × Nat × Option FieldType × Nat × Nat := (⟨"RedoShelfModel", "imageBlock", "(I)I"⟩, prog_8_method_20_code, 5, some .int, 0, 0)
def M_MD_groupWord : MethodName × ByteArray × Nat × Option FieldType × Nat × Nat := (⟨"RedoShelfModel", "groupWord", "(II)I"⟩, prog_8_method_21_code, 8, some .int, 1, 24)
def M_MD_revocationWord : MethodName × ByteArray × Nat × Option FieldType × Nat × Nat := (⟨"RedoShelfModel", "revocationWord", "()I"⟩, prog_8_method_22_code, 3, some .int, 0, 0)
def M_MD_body : MethodName × ByteArray × Nat × Option FieldType × Nat × Nat := (⟨"RedoShelfModel", "body", "(I)V"⟩, prog_8_method_23_code, 4, none, 2, 51)
def M_MD_sum : MethodName × ByteArray × Nat × Option FieldType × Nat × Nat := (⟨"RedoShelfModel", "sum", "(I)I"⟩, prog_8_method_24_code, 5, some .int, 3, 74)
def M_MD_commit : MethodName × ByteArray × Nat × Option FieldType × Nat × Nat := (⟨"RedoShelfModel", "commit", "()I"⟩, prog_8_method_25_code, 2, some .int, 2, 44)
def M_MD_commitAction : MethodName × ByteArray × Nat × Option FieldType × Nat × Nat := (⟨"RedoShelfModel", "commitAction", "(I)V"⟩, prog_8_method_26_code, 4, none, 4, 98)
def M_MD_committed : MethodName × ByteArray × Nat × Option FieldType × Nat × Nat := (⟨"RedoShelfModel", "committed", "()V"⟩, prog_8_method_27_code, 4, none, 0, 0)
def M_MD_countPending : MethodName × ByteArray × Nat × Option FieldType × Nat × Nat := (⟨"RedoShelfModel", "countPending", "()I"⟩, prog_8_method_28_code, 3, some .int, 0, 0)
def M_MD_checkpoint : MethodName × ByteArray × Nat × Option FieldType × Nat × Nat := (⟨"RedoShelfModel", "checkpoint", "()I"⟩, prog_8_method_29_code, 1, some .int, 1, 22)
def M_MD_checkpointAction : MethodName × ByteArray × Nat × Option FieldType × Nat × Nat := (⟨"RedoShelfModel", "checkpointAction", "(I)V"⟩, prog_8_method_30_code, 5, none, 2, 44)
def M_MD_checkpointed : MethodName × ByteArray × Nat × Option FieldType × Nat × Nat := (⟨"RedoShelfModel", "checkpointed", "()V"⟩, prog_8_method_31_code, 2, none, 0, 0)
def M_MD_logWord : MethodName × ByteArray × Nat × Option FieldType × Nat × Nat := (⟨"RedoShelfModel", "logWord", "(II)I"⟩, prog_8_method_32_code, 3, some .int, 1, 24)
def M_MD_mixSector : MethodName × ByteArray × Nat × Option FieldType × Nat × Nat := (⟨"RedoShelfModel", "mixSector", "(II)I"⟩, prog_8_method_33_code, 5, some .int, 2, 46)
def M_MD_validAt : MethodName × ByteArray × Nat × Option FieldType × Nat × Nat := (⟨"RedoShelfModel", "validAt", "(II)I"⟩, prog_8_method_34_code, 11, some .int, 3, 70)
def M_MD_findHead : MethodName × ByteArray × Nat × Option FieldType × Nat × Nat := (⟨"RedoShelfModel", "findHead", "()V"⟩, prog_8_method_35_code, 2, none, 1, 24)
def M_MD_findRevocations : MethodName × ByteArray × Nat × Option FieldType × Nat × Nat := (⟨"RedoShelfModel", "findRevocations", "()V"⟩, prog_8_method_36_code, 5, none, 4, 100)
def M_MD_isRevocation : MethodName × ByteArray × Nat × Option FieldType × Nat × Nat := (⟨"RedoShelfModel", "isRevocation", "(II)Z"⟩, prog_8_method_37_code, 4, some .boolean, 2, 46)
def M_MD_replay : MethodName × ByteArray × Nat × Option FieldType × Nat × Nat := (⟨"RedoShelfModel", "replay", "(I)I"⟩, prog_8_method_38_code, 9, some .int, 5, 124)
def M_MD_recover : MethodName × ByteArray × Nat × Option FieldType × Nat × Nat := (⟨"RedoShelfModel", "recover", "()I"⟩, prog_8_method_39_code, 1, some .int, 6, 152)
def M_MD_recoveryAction : MethodName × ByteArray × Nat × Option FieldType × Nat × Nat := (⟨"RedoShelfModel", "recoveryAction", "(I)V"⟩, prog_8_method_40_code, 3, none, 6, 152)
def M_MD_recovered : MethodName × ByteArray × Nat × Option FieldType × Nat × Nat := (⟨"RedoShelfModel", "recovered", "()V"⟩, prog_8_method_41_code, 2, none, 1, 24)
def M_MD_finish : MethodName × ByteArray × Nat × Option FieldType × Nat × Nat := (⟨"RedoShelfModel", "finish", "()V"⟩, prog_8_method_42_code, 2, none, 2, 45)
def M_MD_step : MethodName × ByteArray × Nat × Option FieldType × Nat × Nat := (⟨"RedoShelfModel", "step", "(I)I"⟩, prog_8_method_43_code, 3, some .int, 7, 174)
def M_MD_crash : MethodName × ByteArray × Nat × Option FieldType × Nat × Nat := (⟨"RedoShelfModel", "crash", "(II)I"⟩, prog_8_method_44_code, 7, some .int, 1, 23)
def M_MD_state : MethodName × ByteArray × Nat × Option FieldType × Nat × Nat := (⟨"RedoShelfModel", "state", "()I"⟩, prog_8_method_45_code, 1, some .int, 0, 0)
def M_MD_number : MethodName × ByteArray × Nat × Option FieldType × Nat × Nat := (⟨"RedoShelfModel", "number", "()I"⟩, prog_8_method_46_code, 1, some .int, 0, 0)
def M_MD_used : MethodName × ByteArray × Nat × Option FieldType × Nat × Nat := (⟨"RedoShelfModel", "used", "()I"⟩, prog_8_method_47_code, 1, some .int, 0, 0)
def M_MD_left : MethodName × ByteArray × Nat × Option FieldType × Nat × Nat := (⟨"RedoShelfModel", "left", "()I"⟩, prog_8_method_48_code, 1, some .int, 0, 0)
def M_JA_fill : MethodName × ByteArray × Nat × Option FieldType × Nat × Nat := (⟨"java/util/Arrays", "fill", "([II)V"⟩, prog_11_method_103_code, 4, none, 0, 0)
end
section
/-! THE SMALL MACHINE: the world behind the constructors is a fixed list of cells (lay); a method's walk is WP, over a pure heap of ints. -/
abbrev xv : Type := Int32 ⊕ Nat
abbrev xh : Type := Nat → Nat → Int32
abbrev xE : Type := va_G × (Nat → Nat) × ClassId × ClassId
abbrev xM : Type := MethodName × ByteArray × Nat × Option FieldType × Nat × Nat
def hu (h : xh) (k : Nat) (f : Nat → Int32) : xh := fun j => if j = k then f else h j
theorem hu_s {h : xh} {k : Nat} {f : Nat → Int32} : hu h k f k = f := by simp [hu]
theorem hu_n {h : xh} {k j : Nat} {f : Nat → Int32} (e : j ≠ k) : hu h k f j = h j := by simp [hu, e]
def xV (E : xE) (v : xv) : Value := match v with
  | .inl x => .int x
  | .inr k => .ref (E.2.1 k)
theorem xV_cat (E : xE) (v : xv) : (xV E v).category = 1 := by cases v <;> rfl
def xF (E : xE) (f : Nat → Int32) : Nat → List (Option Nat) → List Value
  | _, [] => []
  | j, none :: r => .int (f j) :: xF E f (j + 1) r
  | j, some q :: r => .ref (E.2.1 q) :: xF E f (j + 1) r
theorem xF_cong {E : xE} {f g : Nat → Int32} : ∀ (fs : List (Option Nat)) (i : Nat), (∀ x, i ≤ x → f x = g x) → xF E f i fs = xF E g i fs
  | [], _, _ => rfl
  | none :: r, i, e => by
    simp only [xF]
    rw [e i (Nat.le_refl i), xF_cong r (i + 1) (fun x hx => e x (by omega))]
  | some q :: r, i, e => by
    simp only [xF]
    rw [xF_cong r (i + 1) (fun x hx => e x (by omega))]
theorem xF_len {E : xE} {f : Nat → Int32} : ∀ (fs : List (Option Nat)) (i : Nat), (xF E f i fs).length = fs.length
  | [], _ => rfl
  | none :: r, i => by simp [xF, xF_len r (i + 1)]
  | some q :: r, i => by simp [xF, xF_len r (i + 1)]
theorem xF_int {E : xE} {f : Nat → Int32} : ∀ (fs : List (Option Nat)) (i j : Nat), fs[j]? = some none → (xF E f i fs)[j]? = some (.int (f (i + j)))
  | [], _, _, h => by simp at h
  | none :: r, i, 0, _ => by simp [xF]
  | some q :: r, i, 0, h => by simp at h
  | none :: r, i, j + 1, h => by
    simp only [xF, List.getElem?_cons_succ] at h ⊢
    rw [xF_int r (i + 1) j h, show i + 1 + j = i + (j + 1) by omega]
  | some q :: r, i, j + 1, h => by
    simp only [xF, List.getElem?_cons_succ] at h ⊢
    rw [xF_int r (i + 1) j h, show i + 1 + j = i + (j + 1) by omega]
theorem xF_ref {E : xE} {f : Nat → Int32} {z : Nat} : ∀ (fs : List (Option Nat)) (i j : Nat), fs[j]? = some (some z) → (xF E f i fs)[j]? = some (.ref (E.2.1 z))
  | [], _, _, h => by simp at h
  | none :: r, i, 0, h => by simp at h
  | some q :: r, i, 0, h => by
    simp only [List.getElem?_cons_zero, Option.some.injEq] at h
    simp [xF, h]
  | none :: r, i, j + 1, h => by
    simp only [xF, List.getElem?_cons_succ] at h ⊢
    exact xF_ref r (i + 1) j h
  | some q :: r, i, j + 1, h => by
    simp only [xF, List.getElem?_cons_succ] at h ⊢
    exact xF_ref r (i + 1) j h
theorem xF_set {E : xE} {f : Nat → Int32} {v : Int32} : ∀ (fs : List (Option Nat)) (i j : Nat), fs[j]? = some none → (xF E f i fs).set j (.int v) = xF E (upd f (i + j) v) i fs
  | [], _, _, h => by simp at h
  | none :: r, i, 0, _ => by
    simp only [xF, List.set_cons_zero, Nat.add_zero]
    rw [xF_cong (g := upd f i v) r (i + 1) (fun x hx => by simp [upd, show ¬ x = i by omega])]
    simp [upd]
  | some q :: r, i, 0, h => by simp at h
  | none :: r, i, j + 1, h => by
    simp only [List.getElem?_cons_succ] at h
    simp only [xF, List.set_cons_succ]
    rw [xF_set r (i + 1) j h, show i + 1 + j = i + (j + 1) by omega]
    simp [upd]
  | some q :: r, i, j + 1, h => by
    simp only [List.getElem?_cons_succ] at h
    simp only [xF, List.set_cons_succ]
    rw [xF_set r (i + 1) j h, show i + 1 + j = i + (j + 1) by omega]
def xC (E : xE) (f : Nat → Int32) (q : xk) : va_E := match q with
  | .inl o => .inr (o.1, xF E f 0 o.2)
  | .inr a => .inl ((bif a.1 then E.2.2.2 else E.2.2.1), a.2, .inl f)
def xW (E : xE) (h : xh) : Nat → List xk → va_W
  | _, [] => []
  | k, q :: r => (E.2.1 k, xC E (h k) q) :: xW E h (k + 1) r
theorem xW_get {E : xE} {h : xh} : ∀ (L : List xk) (i k : Nat), (xW E h i L)[k]? = (L[k]?).map (fun q => (E.2.1 (i + k), xC E (h (i + k)) q))
  | [], _, _ => by simp [xW]
  | q :: r, i, 0 => by simp [xW]
  | q :: r, i, k + 1 => by
    simp only [xW, List.getElem?_cons_succ]
    rw [xW_get r (i + 1) k, show i + 1 + k = i + (k + 1) by omega]
theorem xW_cong {E : xE} {h h' : xh} : ∀ (L : List xk) (i : Nat), (∀ x, i ≤ x → h x = h' x) → xW E h i L = xW E h' i L
  | [], _, _ => rfl
  | q :: r, i, e => by
    simp only [xW]
    rw [e i (Nat.le_refl i), xW_cong r (i + 1) (fun x hx => e x (by omega))]
theorem xW_set {E : xE} {h : xh} {f : Nat → Int32} {q : xk} : ∀ (L : List xk) (i k : Nat), L[k]? = some q → (xW E h i L).set k (E.2.1 (i + k), xC E f q) = xW E (hu h (i + k) f) i L
  | [], _, _, e => by simp at e
  | z :: r, i, 0, e => by
    simp only [List.getElem?_cons_zero, Option.some.injEq] at e
    subst e
    simp only [xW, List.set_cons_zero, Nat.add_zero]
    rw [xW_cong (h' := hu h i f) r (i + 1) (fun x hx => by simp [hu, show ¬ x = i by omega])]
    simp [hu]
  | z :: r, i, k + 1, e => by
    simp only [List.getElem?_cons_succ] at e
    simp only [xW, List.set_cons_succ]
    have e2 := xW_set (E := E) (h := h) (f := f) r (i + 1) k e
    rw [show i + 1 + k = i + (k + 1) by omega] at e2
    rw [e2]
    have e3 : hu h (i + (k + 1)) f i = h i := hu_n (by omega)
    rw [e3]
def wld (E : xE) (h : xh) : va_W := xW E h 0 lay
theorem wld_get {E : xE} {h : xh} {k : Nat} {q : xk} (e : lay[k]? = some q) : (wld E h)[k]? = some (E.2.1 k, xC E (h k) q) := by
  unfold wld
  rw [xW_get, e]
  simp
theorem wld_set {E : xE} {h : xh} {k : Nat} {q : xk} {f : Nat → Int32} (e : lay[k]? = some q) : (wld E h).set k (E.2.1 k, xC E f q) = wld E (hu h k f) := by
  unfold wld
  have := xW_set (E := E) (h := h) (f := f) lay 0 k e
  rw [Nat.zero_add] at this
  exact this
theorem wld_addr {E : xE} {h h' : xh} {A : Nat → Prop} (hD : va_D A (wld E h)) : va_D A (wld E h') := by
  have key : ∀ (k : Nat) (x : Nat × va_E), (wld E h')[k]? = some x → ∃ y, (wld E h)[k]? = some y ∧ y.1 = x.1 := by
    intro k x hx
    unfold wld at hx ⊢
    rw [xW_get] at hx ⊢
    cases hq : lay[k]? with
    | none => rw [hq] at hx; cases hx
    | some q =>
      rw [hq] at hx
      cases hx
      exact ⟨_, rfl, rfl⟩
  refine ⟨fun i j x y hi hj hxy => ?_, fun k x hk => ?_⟩
  · obtain ⟨x', h1, h2⟩ := key i x hi
    obtain ⟨y', h3, h4⟩ := key j y hj
    exact hD.1 i j x' y' h1 h3 (h2.trans (hxy.trans h4.symm))
  · obtain ⟨x', h1, h2⟩ := key k x hk
    rw [← h2]
    exact hD.2 k x' h1
def isNest : Cond → Bool
  | .fieldLinkNest .. => true
  | .methodLinkNest .. => true
  | _ => false
def isGood (w : Cond) : Bool := k2_isCode w || goodWord w
def gW : List Cond := lw_tbl.filter isGood
def nW : List Cond := lw_tbl.filter isNest
theorem gW_in {w : Cond} (h : w ∈ lw_tbl) (g : isGood w = true) : w ∈ gW := List.mem_filter.mpr ⟨h, g⟩
theorem nW_in {w : Cond} (h : w ∈ lw_tbl) (g : isNest w = true) : w ∈ nW := List.mem_filter.mpr ⟨h, g⟩
theorem isGood_of {w : Cond} (h : isGood w = true) : (w.onTables && w.keeps) = true ∨ ∃ ty, w = .arrayClass ty := by
  unfold isGood at h
  rcases Bool.or_eq_true_iff.mp h with h | h
  · cases w <;> first | (simp [k2_isCode] at h; done) | exact Or.inl rfl
  · exact good_of_word h
def wM (μ : xM) : List Cond := .code μ.1 μ.2.1 μ.2.2.1 μ.2.2.2.1 :: gW
theorem wM_g {μ : xM} {w : Cond} (h : w ∈ gW) : w ∈ wM μ := List.mem_cons_of_mem _ h
def rmOf (d : Nat × Nat) : Room := { frames := d.1, cells := 0, slots := 0, locals := d.2 }
def xtys (E : xE) : List (ClassId × FieldType) := [(E.2.2.1, .int), (E.2.2.2, .boolean)]
def xK (E : xE) (U : State) : Prop := va_K E.1 vwCl (xtys E) U ∧ ∀ w ∈ nW, va_Nw w U
theorem xK.warm {E : xE} {s U : State} (hW : s.WarmedH U.vm) (h : xK E s) : xK E U := by
  refine ⟨va_K.moved hW.alike h.1, fun w hw => ?_⟩
  have h1 := h.2 w hw
  have h2 := (List.mem_filter.mp hw).2
  cases w <;> first | (simp [isNest] at h2; done) | exact va_Nw.warmF hW h1 | exact va_Nw.warmM hW h1
theorem xK.same {E : xE} {s U : State} (hW : s.vm = U.vm) (h : xK E s) : xK E U := by
  refine ⟨va_K.moved (by rw [hW]; exact Vm.Alike.refl U.vm) h.1, fun w hw => ?_⟩
  have h1 := h.2 w hw
  have h2 := (List.mem_filter.mp hw).2
  cases w <;> first | (simp [isNest] at h2; done) | exact va_Nw.same rfl hW h1
/-- what a method may change: the world's cells, and new ones -/
def xA (E : xE) (sz : Nat) : Nat → Prop := fun q => (∃ k, k < lay.length ∧ q = E.2.1 k) ∨ sz ≤ q
theorem xA_of {E : xE} {h : xh} {A : Nat → Prop} (hD : va_D A (wld E h)) {k : Nat} (hk : k < lay.length) : A (E.2.1 k) := by
  have h1 : lay[k]? = some lay[k] := List.getElem?_eq_getElem hk
  exact hD.2 k _ (wld_get h1)
theorem xA_D {E : xE} {h : xh} {A : Nat → Prop} {sz : Nat} (hD : va_D A (wld E h)) : va_D (xA E sz) (wld E h) := by
  refine ⟨hD.1, fun k x hk => ?_⟩
  unfold wld at hk
  rw [xW_get] at hk
  cases hq : lay[k]? with
  | none => rw [hq] at hk; cases hk
  | some q =>
    rw [hq] at hk
    cases hk
    exact Or.inl ⟨k, (List.getElem?_eq_some_iff.mp hq).1, by simp⟩
def xPc (E : xE) (sz : Nat) (h : xh) (as : List xv) : Array Value → State → Prop := va_Pc (as.map (xV E)) (fun U => U.heap.size = sz ∧ va_P E.1 vwCl (wld E h) U.heap ∧ xK E U ∧ va_D (fun _ => True) (wld E h))
def xQc (E : xE) (A : Nat → Prop) (Q : Option Int32 → xh → Prop) : Array Value → State → Outcome → State → Prop := fun _ st oc t => (∃ (r : Option Int32) (h' : xh), oc = .returned (r.map Value.int) ∧ Q r h' ∧ va_P E.1 vwCl (wld E h') t.heap ∧ va_D A (wld E h')) ∧ va_F A st t
def CX (E : xE) (μ : xM) (p : Program) (s : State) (m : MethodId) (args : Array Value) (meth : Method) (c : Code) (A : Nat → Prop) : Prop :=
  p.tables.exec = Jvm.exec ∧ c.code = μ.2.1 ∧ meth.sig.returnType = μ.2.2.2.1 ∧ c.maxLocals = μ.2.2.1 ∧ (∀ w ∈ wM μ, w.before args s = true) ∧ s.vm.findClass μ.1.cls = some m.cls ∧ meth.locks = false ∧ xK E s ∧ (∀ q, s.heap.size ≤ q → A q)
def xI (E : xE) (A : Nat → Prop) (s : State) (h : xh) (H : Heap) (locs : List Loc) : Prop := va_P E.1 vwCl (wld E h) H ∧ va_D A (wld E h) ∧ va_S A s.heap H locs
abbrev xls (E : xE) (ls : List (Nat × xv)) : List (Nat × Value) := ls.map (fun q => (q.1, xV E q.2))
/-- from this place of this method the machine comes to its end with Q -/
def WP (l : Launch) (E : xE) (μ : xM) (pc : Nat) (ls : List (Nat × xv)) (st : List xv) (h : xh) (Q : Option Int32 → xh → Prop) : Prop :=
  ∀ (p : Program) (e : Env) (s : State) (m : MethodId) (args : Array Value) (below : List Frame) (meth : Method) (c : Code) (A : Nat → Prop) (H : Heap) (locs : List Loc) (lsA : Array Slot),
    CX E μ p s m args meth c A → xI E A s h H locs → lv_has lsA μ.2.2.1 (xls E ls) →
    W p l e (rmOf μ.2.2.2.2) s m args below meth c H locs 0 0 (MQ below (xQc E A Q) args s 0 0 A) (F0 m pc lsA (st.map (xV E)))
def lget : List (Nat × xv) → Nat → Option xv
  | [], _ => none
  | (j, v) :: r, i => bif Nat.beq j i then some v else lget r i
def lrem (i : Nat) : List (Nat × xv) → List (Nat × xv)
  | [] => []
  | (j, v) :: r => bif Nat.beq j i then lrem i r else (j, v) :: lrem i r
def lins (i : Nat) (v : xv) : List (Nat × xv) → List (Nat × xv)
  | [] => [(i, v)]
  | (j, w) :: r => bif Nat.ble i j then (i, v) :: (j, w) :: r else (j, w) :: lins i v r
def lset (ls : List (Nat × xv)) (i : Nat) (v : xv) : List (Nat × xv) := lins i v (lrem i ls)
theorem lget_mem : ∀ {ls : List (Nat × xv)} {i : Nat} {v : xv}, lget ls i = some v → (i, v) ∈ ls
  | [], _, _, h => by cases h
  | (j, w) :: r, i, v, h => by
    unfold lget at h
    cases hb : Nat.beq j i with
    | true =>
      rw [hb] at h
      simp only [cond_true, Option.some.injEq] at h
      have := Nat.eq_of_beq_eq_true hb
      subst this; subst h
      exact List.mem_cons_self
    | false =>
      rw [hb] at h
      simp only [cond_false] at h
      exact List.mem_cons_of_mem _ (lget_mem h)
theorem lrem_mem {i : Nat} : ∀ {ls : List (Nat × xv)} {q : Nat × xv}, q ∈ lrem i ls → q ∈ ls ∧ ¬ q.1 = i
  | [], _, h => by cases h
  | (j, w) :: r, q, h => by
    unfold lrem at h
    cases hb : Nat.beq j i with
    | true =>
      rw [hb] at h
      simp only [cond_true] at h
      exact ⟨List.mem_cons_of_mem _ (lrem_mem h).1, (lrem_mem h).2⟩
    | false =>
      rw [hb] at h
      simp only [cond_false] at h
      rcases List.mem_cons.mp h with rfl | h
      · exact ⟨List.mem_cons_self, Nat.ne_of_beq_eq_false hb⟩
      · exact ⟨List.mem_cons_of_mem _ (lrem_mem h).1, (lrem_mem h).2⟩
theorem lins_mem {i : Nat} {v : xv} : ∀ {ls : List (Nat × xv)} {q : Nat × xv}, q ∈ lins i v ls → q = (i, v) ∨ q ∈ ls
  | [], _, h => by
    unfold lins at h
    exact Or.inl (List.mem_singleton.mp h)
  | (j, w) :: r, q, h => by
    unfold lins at h
    cases hb : Nat.ble i j with
    | true =>
      rw [hb] at h
      simp only [cond_true] at h
      rcases List.mem_cons.mp h with h | h
      · exact Or.inl h
      · exact Or.inr h
    | false =>
      rw [hb] at h
      simp only [cond_false] at h
      rcases List.mem_cons.mp h with h | h
      · exact Or.inr (by rw [h]; exact List.mem_cons_self)
      · rcases lins_mem h with h | h
        · exact Or.inl h
        · exact Or.inr (List.mem_cons_of_mem _ h)
theorem xls_get {E : xE} {ls : List (Nat × xv)} {lsA : Array Slot} {nL i : Nat} {v : xv} (hl : lv_has lsA nL (xls E ls)) (h : lget ls i = some v) : lsA[i]? = some (.val (xV E v)) :=
  hl.2.2 (i, xV E v) (List.mem_map.mpr ⟨(i, v), lget_mem h, rfl⟩)
theorem xls_set {E : xE} {ls ls' : List (Nat × xv)} {lsA : Array Slot} {nL i : Nat} {v : xv} {f : Nat × Value → Bool} (hf : f = (fun q => !(q.1 == i) && !(q.1 + 1 == i && q.2.category == 2))) (hl : lv_has lsA nL ((i, xV E v) :: (xls E ls).filter f)) (h : lset ls i v = ls') : lv_has lsA nL (xls E ls') := by
  refine ⟨hl.1, hl.2.1, fun q hq => hl.2.2 q ?_⟩
  subst h
  obtain ⟨z, hz, rfl⟩ := List.mem_map.mp hq
  rcases lins_mem hz with rfl | hz
  · exact List.mem_cons_self
  · obtain ⟨h1, h2⟩ := lrem_mem hz
    refine List.mem_cons_of_mem _ (List.mem_filter.mpr ⟨List.mem_map.mpr ⟨z, h1, rfl⟩, ?_⟩)
    rw [hf]
    simp [h2, xV_cat]
end
section
def ushr (x y : Int32) : Int32 := (x.toUInt32 >>> (y.toUInt32 &&& Int32.toUInt32 31)).toInt32
def irem (x y : Int32) : Int32 := x - x / y * y
def hw (h : xh) (k j : Nat) (v : Int32) : xh := fun a b => bif Nat.beq a k && Nat.beq b j then v else h a b
theorem hw_eq {h : xh} {k j : Nat} {v : Int32} : hu h k (upd (h k) j v) = hw h k j v := by
  funext a b
  unfold hu hw upd
  by_cases e1 : a = k
  · subst e1
    by_cases e2 : b = j
    · subst e2; simp
    · have : Nat.beq b j = false := by
        cases hb : Nat.beq b j with
        | true => exact absurd (Nat.eq_of_beq_eq_true hb) e2
        | false => rfl
      simp [e2, this]
  · have : Nat.beq a k = false := by
      cases hb : Nat.beq a k with
      | true => exact absurd (Nat.eq_of_beq_eq_true hb) e1
      | false => rfl
    simp [e1, this]
def hc (h : xh) (k0 k1 : Nat) (sp dp n : Int32) : xh := hu h k1 (va_cpy (h k0) (h k1) sp.toNatClampNeg dp.toNatClampNeg n.toNatClampNeg)
def lkeep (ks : List Nat) : List (Nat × xv) → List (Nat × xv)
  | [] => []
  | (j, v) :: r => bif ks.elem j then (j, v) :: lkeep ks r else lkeep ks r
theorem lkeep_mem {ks : List Nat} : ∀ {ls : List (Nat × xv)} {q : Nat × xv}, q ∈ lkeep ks ls → q ∈ ls
  | [], _, h => by cases h
  | (j, w) :: r, q, h => by
    unfold lkeep at h
    cases hb : ks.elem j with
    | true =>
      rw [hb] at h
      simp only [cond_true] at h
      rcases List.mem_cons.mp h with rfl | h
      · exact List.mem_cons_self
      · exact List.mem_cons_of_mem _ (lkeep_mem h)
    | false =>
      rw [hb] at h
      simp only [cond_false] at h
      exact List.mem_cons_of_mem _ (lkeep_mem h)
section RULES
variable {l : Launch} {E : xE} {μ : xM} {pc : Nat} {ls ls' : List (Nat × xv)} {st : List xv} {h : xh} {Q : Option Int32 → xh → Prop}
theorem wp_iconst {n : Int} {v : Int32} (hd : decode μ.2.1 pc = .ok (.iconst n, 1)) (hv : Int32.ofInt n = v) (k : WP l E μ (pc + 1) ls (.inl v :: st) h Q) : WP l E μ pc ls st h Q := by
  intro p e s m args below meth c A H locs lsA C I hl
  exact lv_iconst C.1 C.2.1 hd hv (k p e s m args below meth c A H locs lsA C I hl)
theorem wp_bipush {n : Int} {v : Int32} (hd : decode μ.2.1 pc = .ok (.bipush n, 2)) (hv : (Int8.ofInt n).toInt32 = v) (k : WP l E μ (pc + 2) ls (.inl v :: st) h Q) : WP l E μ pc ls st h Q := by
  intro p e s m args below meth c A H locs lsA C I hl
  exact lv_bipush C.1 C.2.1 hd hv (k p e s m args below meth c A H locs lsA C I hl)
theorem wp_sipush {n : Int} {v : Int32} (hd : decode μ.2.1 pc = .ok (.sipush n, 3)) (hv : (Int16.ofInt n).toInt32 = v) (k : WP l E μ (pc + 3) ls (.inl v :: st) h Q) : WP l E μ pc ls st h Q := by
  intro p e s m args below meth c A H locs lsA C I hl
  exact lv_sipush C.1 C.2.1 hd hv (k p e s m args below meth c A H locs lsA C I hl)
theorem wp_ldcN {idx : Nat} {v v2 : Int32} (hd : decode μ.2.1 pc = .ok (.ldc idx, 2)) (hw : Jvm.Cond.constant μ.1.cls idx v ∈ gW) (hv : v = v2) (k : WP l E μ (pc + 2) ls (.inl v2 :: st) h Q) : WP l E μ pc ls st h Q := by
  intro p e s m args below meth c A H locs lsA C I hl
  subst hv
  exact lv_ldc C.1 C.2.1 C.2.2.2.2.2.1 (C.2.2.2.2.1 _ (wM_g hw)) hd (k p e s m args below meth c A H locs lsA C I hl)
theorem wp_ldc {idx : Nat} {v : Int32} (hd : decode μ.2.1 pc = .ok (.ldc idx, 2)) (hw : Jvm.Cond.constant μ.1.cls idx v ∈ gW) (k : WP l E μ (pc + 2) ls (.inl v :: st) h Q) : WP l E μ pc ls st h Q := by
  intro p e s m args below meth c A H locs lsA C I hl
  exact lv_ldc C.1 C.2.1 C.2.2.2.2.2.1 (C.2.2.2.2.1 _ (wM_g hw)) hd (k p e s m args below meth c A H locs lsA C I hl)
theorem wp_iload_n {k : Fin 4} {x : Int32} (hd : decode μ.2.1 pc = .ok (.iload_n k, 1)) (hg : lget ls k.val = some (.inl x)) (kk : WP l E μ (pc + 1) ls (.inl x :: st) h Q) : WP l E μ pc ls st h Q := by
  intro p e s m args below meth c A H locs lsA C I hl
  exact lv_iload_n C.1 C.2.1 hd rfl (xls_get hl hg) (kk p e s m args below meth c A H locs lsA C I hl)
theorem wp_iload {i : Nat} {x : Int32} (hd : decode μ.2.1 pc = .ok (.iload i, 2)) (hg : lget ls i = some (.inl x)) (kk : WP l E μ (pc + 2) ls (.inl x :: st) h Q) : WP l E μ pc ls st h Q := by
  intro p e s m args below meth c A H locs lsA C I hl
  exact lv_iload C.1 C.2.1 hd (xls_get hl hg) (kk p e s m args below meth c A H locs lsA C I hl)
theorem wp_istore_n {k : Fin 4} {x : Int32} (hd : decode μ.2.1 pc = .ok (.istore_n k, 1)) (hn : k.val < μ.2.2.1) (hs : lset ls k.val (.inl x) = ls') (kk : WP l E μ (pc + 1) ls' st h Q) : WP l E μ pc ls (.inl x :: st) h Q := by
  intro p e s m args below meth c A H locs lsA C I hl
  exact lv_istore_n C.1 C.2.1 hd rfl hl hn rfl (fun lsB hB => kk p e s m args below meth c A H locs lsB C I (xls_set (v := .inl x) rfl hB hs))
theorem wp_istore {i : Nat} {x : Int32} (hd : decode μ.2.1 pc = .ok (.istore i, 2)) (hn : i < μ.2.2.1) (hs : lset ls i (.inl x) = ls') (kk : WP l E μ (pc + 2) ls' st h Q) : WP l E μ pc ls (.inl x :: st) h Q := by
  intro p e s m args below meth c A H locs lsA C I hl
  exact lv_istore C.1 C.2.1 hd hl hn rfl (fun lsB hB => kk p e s m args below meth c A H locs lsB C I (xls_set (v := .inl x) rfl hB hs))
theorem wp_aload_n {k : Fin 4} {x : Nat} (hd : decode μ.2.1 pc = .ok (.aload_n k, 1)) (hg : lget ls k.val = some (.inr x)) (kk : WP l E μ (pc + 1) ls (.inr x :: st) h Q) : WP l E μ pc ls st h Q := by
  intro p e s m args below meth c A H locs lsA C I hl
  exact lv_aload_n C.1 C.2.1 hd rfl (xls_get hl hg) (kk p e s m args below meth c A H locs lsA C I hl)
theorem wp_aload {i : Nat} {x : Nat} (hd : decode μ.2.1 pc = .ok (.aload i, 2)) (hg : lget ls i = some (.inr x)) (kk : WP l E μ (pc + 2) ls (.inr x :: st) h Q) : WP l E μ pc ls st h Q := by
  intro p e s m args below meth c A H locs lsA C I hl
  exact lv_aload C.1 C.2.1 hd (xls_get hl hg) (kk p e s m args below meth c A H locs lsA C I hl)
theorem wp_astore_n {k : Fin 4} {x : Nat} (hd : decode μ.2.1 pc = .ok (.astore_n k, 1)) (hn : k.val < μ.2.2.1) (hs : lset ls k.val (.inr x) = ls') (kk : WP l E μ (pc + 1) ls' st h Q) : WP l E μ pc ls (.inr x :: st) h Q := by
  intro p e s m args below meth c A H locs lsA C I hl
  exact lv_astore_n C.1 C.2.1 hd rfl hl hn rfl (fun lsB hB => kk p e s m args below meth c A H locs lsB C I (xls_set (v := .inr x) rfl hB hs))
theorem wp_astore {i : Nat} {x : Nat} (hd : decode μ.2.1 pc = .ok (.astore i, 2)) (hn : i < μ.2.2.1) (hs : lset ls i (.inr x) = ls') (kk : WP l E μ (pc + 2) ls' st h Q) : WP l E μ pc ls (.inr x :: st) h Q := by
  intro p e s m args below meth c A H locs lsA C I hl
  exact lv_astore C.1 C.2.1 hd hl hn rfl (fun lsB hB => kk p e s m args below meth c A H locs lsB C I (xls_set (v := .inr x) rfl hB hs))
theorem wp_iinc {i : Nat} {n : Int} {x v : Int32} (hd : decode μ.2.1 pc = .ok (.iinc i n, 3)) (hg : lget ls i = some (.inl x)) (hv : x + Int32.ofInt n = v) (hn : i < μ.2.2.1) (hs : lset ls i (.inl v) = ls') (kk : WP l E μ (pc + 3) ls' st h Q) : WP l E μ pc ls st h Q := by
  intro p e s m args below meth c A H locs lsA C I hl
  obtain ⟨k, hk⟩ := List.getElem?_of_mem (List.mem_map.mpr ⟨(i, .inl x), lget_mem hg, rfl⟩ : (i, xV E (.inl x)) ∈ xls E ls)
  exact lv_iinc C.1 C.2.1 hd hl hk hv hn rfl (fun lsB hB => kk p e s m args below meth c A H locs lsB C I (xls_set (v := .inl v) rfl hB hs))
theorem wp_iadd {x y : Int32} (hd : decode μ.2.1 pc = .ok (.iadd, 1)) (kk : WP l E μ (pc + 1) ls (.inl (x + y) :: st) h Q) : WP l E μ pc ls (.inl y :: .inl x :: st) h Q := by
  intro p e s m args below meth c A H locs lsA C I hl
  exact lv_iadd C.1 C.2.1 hd (kk p e s m args below meth c A H locs lsA C I hl)
theorem wp_isub {x y : Int32} (hd : decode μ.2.1 pc = .ok (.isub, 1)) (kk : WP l E μ (pc + 1) ls (.inl (x - y) :: st) h Q) : WP l E μ pc ls (.inl y :: .inl x :: st) h Q := by
  intro p e s m args below meth c A H locs lsA C I hl
  exact lv_isub C.1 C.2.1 hd (kk p e s m args below meth c A H locs lsA C I hl)
theorem wp_imul {x y : Int32} (hd : decode μ.2.1 pc = .ok (.imul, 1)) (kk : WP l E μ (pc + 1) ls (.inl (x * y) :: st) h Q) : WP l E μ pc ls (.inl y :: .inl x :: st) h Q := by
  intro p e s m args below meth c A H locs lsA C I hl
  exact lv_imul C.1 C.2.1 hd (kk p e s m args below meth c A H locs lsA C I hl)
theorem wp_iand {x y : Int32} (hd : decode μ.2.1 pc = .ok (.iand, 1)) (kk : WP l E μ (pc + 1) ls (.inl (x &&& y) :: st) h Q) : WP l E μ pc ls (.inl y :: .inl x :: st) h Q := by
  intro p e s m args below meth c A H locs lsA C I hl
  exact lv_iand C.1 C.2.1 hd (kk p e s m args below meth c A H locs lsA C I hl)
theorem wp_ior {x y : Int32} (hd : decode μ.2.1 pc = .ok (.ior, 1)) (kk : WP l E μ (pc + 1) ls (.inl (x ||| y) :: st) h Q) : WP l E μ pc ls (.inl y :: .inl x :: st) h Q := by
  intro p e s m args below meth c A H locs lsA C I hl
  exact lv_ior C.1 C.2.1 hd (kk p e s m args below meth c A H locs lsA C I hl)
theorem wp_ixor {x y : Int32} (hd : decode μ.2.1 pc = .ok (.ixor, 1)) (kk : WP l E μ (pc + 1) ls (.inl (x ^^^ y) :: st) h Q) : WP l E μ pc ls (.inl y :: .inl x :: st) h Q := by
  intro p e s m args below meth c A H locs lsA C I hl
  exact lv_ixor C.1 C.2.1 hd (kk p e s m args below meth c A H locs lsA C I hl)
theorem wp_ishl {x y : Int32} (hd : decode μ.2.1 pc = .ok (.ishl, 1)) (kk : WP l E μ (pc + 1) ls (.inl (x <<< (y &&& 31)) :: st) h Q) : WP l E μ pc ls (.inl y :: .inl x :: st) h Q := by
  intro p e s m args below meth c A H locs lsA C I hl
  exact lv_ishl C.1 C.2.1 hd (kk p e s m args below meth c A H locs lsA C I hl)
theorem wp_ishr {x y : Int32} (hd : decode μ.2.1 pc = .ok (.ishr, 1)) (kk : WP l E μ (pc + 1) ls (.inl (x >>> (y &&& 31)) :: st) h Q) : WP l E μ pc ls (.inl y :: .inl x :: st) h Q := by
  intro p e s m args below meth c A H locs lsA C I hl
  exact lv_ishr C.1 C.2.1 hd (kk p e s m args below meth c A H locs lsA C I hl)
theorem wp_iushr {x y : Int32} (hd : decode μ.2.1 pc = .ok (.iushr, 1)) (kk : WP l E μ (pc + 1) ls (.inl (ushr x y) :: st) h Q) : WP l E μ pc ls (.inl y :: .inl x :: st) h Q := by
  intro p e s m args below meth c A H locs lsA C I hl
  exact lv_iushr C.1 C.2.1 hd rfl (kk p e s m args below meth c A H locs lsA C I hl)
theorem wp_idiv {x y : Int32} (hd : decode μ.2.1 pc = .ok (.idiv, 1)) (hne : ¬ y = 0) (kk : WP l E μ (pc + 1) ls (.inl (x / y) :: st) h Q) : WP l E μ pc ls (.inl y :: .inl x :: st) h Q := by
  intro p e s m args below meth c A H locs lsA C I hl
  exact lv_idiv C.1 C.2.1 hd hne (kk p e s m args below meth c A H locs lsA C I hl)
theorem wp_irem {x y : Int32} (hd : decode μ.2.1 pc = .ok (.irem, 1)) (hne : ¬ y = 0) (kk : WP l E μ (pc + 1) ls (.inl (irem x y) :: st) h Q) : WP l E μ pc ls (.inl y :: .inl x :: st) h Q := by
  intro p e s m args below meth c A H locs lsA C I hl
  exact lv_irem C.1 C.2.1 hd hne (kk p e s m args below meth c A H locs lsA C I hl)
theorem wp_dup {v : xv} (hd : decode μ.2.1 pc = .ok (.dup, 1)) (kk : WP l E μ (pc + 1) ls (v :: v :: st) h Q) : WP l E μ pc ls (v :: st) h Q := by
  intro p e s m args below meth c A H locs lsA C I hl
  exact lv_dup C.1 C.2.1 hd (xV_cat E v) (kk p e s m args below meth c A H locs lsA C I hl)
theorem wp_pop {v : xv} (hd : decode μ.2.1 pc = .ok (.pop, 1)) (kk : WP l E μ (pc + 1) ls st h Q) : WP l E μ pc ls (v :: st) h Q := by
  intro p e s m args below meth c A H locs lsA C I hl
  exact lv_pop C.1 C.2.1 hd (xV_cat E v) (kk p e s m args below meth c A H locs lsA C I hl)
theorem wp_goto {off : Int} {tgt : Nat} (hd : decode μ.2.1 pc = .ok (.goto off, 3)) (ht : (pc : Int) + off = (tgt : Int)) (kk : WP l E μ tgt ls st h Q) : WP l E μ pc ls st h Q := by
  intro p e s m args below meth c A H locs lsA C I hl
  exact lv_goto C.1 C.2.1 hd ht (kk p e s m args below meth c A H locs lsA C I hl)
theorem wp_if_eq {x : Int32} {off : Int} {tgt : Nat} (hd : decode μ.2.1 pc = .ok (.ifCond .eq off, 3)) (ht : (pc : Int) + off = (tgt : Int)) (kt : x = 0 → WP l E μ tgt ls st h Q) (kf : ¬ x = 0 → WP l E μ (pc + 3) ls st h Q) : WP l E μ pc ls (.inl x :: st) h Q := by
  intro p e s m args below meth c A H locs lsA C I hl
  exact lv_if_eq C.1 C.2.1 hd ht (fun z => kt z p e s m args below meth c A H locs lsA C I hl) (fun z => kf z p e s m args below meth c A H locs lsA C I hl)
theorem wp_ic_eq {x y : Int32} {off : Int} {tgt : Nat} (hd : decode μ.2.1 pc = .ok (.if_icmp .eq off, 3)) (ht : (pc : Int) + off = (tgt : Int)) (kt : x = y → WP l E μ tgt ls st h Q) (kf : ¬ x = y → WP l E μ (pc + 3) ls st h Q) : WP l E μ pc ls (.inl y :: .inl x :: st) h Q := by
  intro p e s m args below meth c A H locs lsA C I hl
  exact lv_icmp_eq C.1 C.2.1 hd ht (fun z => kt z p e s m args below meth c A H locs lsA C I hl) (fun z => kf z p e s m args below meth c A H locs lsA C I hl)
theorem wp_if_ne {x : Int32} {off : Int} {tgt : Nat} (hd : decode μ.2.1 pc = .ok (.ifCond .ne off, 3)) (ht : (pc : Int) + off = (tgt : Int)) (kt : x ≠ 0 → WP l E μ tgt ls st h Q) (kf : x = 0 → WP l E μ (pc + 3) ls st h Q) : WP l E μ pc ls (.inl x :: st) h Q := by
  intro p e s m args below meth c A H locs lsA C I hl
  exact lv_if_ne C.1 C.2.1 hd ht (fun z => kt z p e s m args below meth c A H locs lsA C I hl) (fun z => kf z p e s m args below meth c A H locs lsA C I hl)
theorem wp_ic_ne {x y : Int32} {off : Int} {tgt : Nat} (hd : decode μ.2.1 pc = .ok (.if_icmp .ne off, 3)) (ht : (pc : Int) + off = (tgt : Int)) (kt : x ≠ y → WP l E μ tgt ls st h Q) (kf : x = y → WP l E μ (pc + 3) ls st h Q) : WP l E μ pc ls (.inl y :: .inl x :: st) h Q := by
  intro p e s m args below meth c A H locs lsA C I hl
  exact lv_icmp_ne C.1 C.2.1 hd ht (fun z => kt z p e s m args below meth c A H locs lsA C I hl) (fun z => kf z p e s m args below meth c A H locs lsA C I hl)
theorem wp_if_lt {x : Int32} {off : Int} {tgt : Nat} (hd : decode μ.2.1 pc = .ok (.ifCond .lt off, 3)) (ht : (pc : Int) + off = (tgt : Int)) (kt : x < 0 → WP l E μ tgt ls st h Q) (kf : ¬ x < 0 → WP l E μ (pc + 3) ls st h Q) : WP l E μ pc ls (.inl x :: st) h Q := by
  intro p e s m args below meth c A H locs lsA C I hl
  exact lv_if_lt C.1 C.2.1 hd ht (fun z => kt z p e s m args below meth c A H locs lsA C I hl) (fun z => kf z p e s m args below meth c A H locs lsA C I hl)
theorem wp_ic_lt {x y : Int32} {off : Int} {tgt : Nat} (hd : decode μ.2.1 pc = .ok (.if_icmp .lt off, 3)) (ht : (pc : Int) + off = (tgt : Int)) (kt : x < y → WP l E μ tgt ls st h Q) (kf : ¬ x < y → WP l E μ (pc + 3) ls st h Q) : WP l E μ pc ls (.inl y :: .inl x :: st) h Q := by
  intro p e s m args below meth c A H locs lsA C I hl
  exact lv_icmp_lt C.1 C.2.1 hd ht (fun z => kt z p e s m args below meth c A H locs lsA C I hl) (fun z => kf z p e s m args below meth c A H locs lsA C I hl)
theorem wp_if_ge {x : Int32} {off : Int} {tgt : Nat} (hd : decode μ.2.1 pc = .ok (.ifCond .ge off, 3)) (ht : (pc : Int) + off = (tgt : Int)) (kt : 0 ≤ x → WP l E μ tgt ls st h Q) (kf : ¬ 0 ≤ x → WP l E μ (pc + 3) ls st h Q) : WP l E μ pc ls (.inl x :: st) h Q := by
  intro p e s m args below meth c A H locs lsA C I hl
  exact lv_if_ge C.1 C.2.1 hd ht (fun z => kt z p e s m args below meth c A H locs lsA C I hl) (fun z => kf z p e s m args below meth c A H locs lsA C I hl)
theorem wp_ic_ge {x y : Int32} {off : Int} {tgt : Nat} (hd : decode μ.2.1 pc = .ok (.if_icmp .ge off, 3)) (ht : (pc : Int) + off = (tgt : Int)) (kt : y ≤ x → WP l E μ tgt ls st h Q) (kf : ¬ y ≤ x → WP l E μ (pc + 3) ls st h Q) : WP l E μ pc ls (.inl y :: .inl x :: st) h Q := by
  intro p e s m args below meth c A H locs lsA C I hl
  exact lv_icmp_ge C.1 C.2.1 hd ht (fun z => kt z p e s m args below meth c A H locs lsA C I hl) (fun z => kf z p e s m args below meth c A H locs lsA C I hl)
theorem wp_if_gt {x : Int32} {off : Int} {tgt : Nat} (hd : decode μ.2.1 pc = .ok (.ifCond .gt off, 3)) (ht : (pc : Int) + off = (tgt : Int)) (kt : 0 < x → WP l E μ tgt ls st h Q) (kf : ¬ 0 < x → WP l E μ (pc + 3) ls st h Q) : WP l E μ pc ls (.inl x :: st) h Q := by
  intro p e s m args below meth c A H locs lsA C I hl
  exact lv_if_gt C.1 C.2.1 hd ht (fun z => kt z p e s m args below meth c A H locs lsA C I hl) (fun z => kf z p e s m args below meth c A H locs lsA C I hl)
theorem wp_ic_gt {x y : Int32} {off : Int} {tgt : Nat} (hd : decode μ.2.1 pc = .ok (.if_icmp .gt off, 3)) (ht : (pc : Int) + off = (tgt : Int)) (kt : y < x → WP l E μ tgt ls st h Q) (kf : ¬ y < x → WP l E μ (pc + 3) ls st h Q) : WP l E μ pc ls (.inl y :: .inl x :: st) h Q := by
  intro p e s m args below meth c A H locs lsA C I hl
  exact lv_icmp_gt C.1 C.2.1 hd ht (fun z => kt z p e s m args below meth c A H locs lsA C I hl) (fun z => kf z p e s m args below meth c A H locs lsA C I hl)
theorem wp_if_le {x : Int32} {off : Int} {tgt : Nat} (hd : decode μ.2.1 pc = .ok (.ifCond .le off, 3)) (ht : (pc : Int) + off = (tgt : Int)) (kt : x ≤ 0 → WP l E μ tgt ls st h Q) (kf : ¬ x ≤ 0 → WP l E μ (pc + 3) ls st h Q) : WP l E μ pc ls (.inl x :: st) h Q := by
  intro p e s m args below meth c A H locs lsA C I hl
  exact lv_if_le C.1 C.2.1 hd ht (fun z => kt z p e s m args below meth c A H locs lsA C I hl) (fun z => kf z p e s m args below meth c A H locs lsA C I hl)
theorem wp_ic_le {x y : Int32} {off : Int} {tgt : Nat} (hd : decode μ.2.1 pc = .ok (.if_icmp .le off, 3)) (ht : (pc : Int) + off = (tgt : Int)) (kt : x ≤ y → WP l E μ tgt ls st h Q) (kf : ¬ x ≤ y → WP l E μ (pc + 3) ls st h Q) : WP l E μ pc ls (.inl y :: .inl x :: st) h Q := by
  intro p e s m args below meth c A H locs lsA C I hl
  exact lv_icmp_le C.1 C.2.1 hd ht (fun z => kt z p e s m args below meth c A H locs lsA C I hl) (fun z => kf z p e s m args below meth c A H locs lsA C I hl)
/-- answers -/
theorem wp_ireturn {v : Int32} (hd : decode μ.2.1 pc = .ok (.ireturn, 1)) (hr : μ.2.2.2.1 = some .int) (hq : Q (some v) h) : WP l E μ pc ls [.inl v] h Q := by
  intro p e s m args below meth c A H locs lsA C I hl
  have hlocks : meth.locks = false := C.2.2.2.2.2.2.1
  exact W.iret C.1 C.2.1 (C.2.2.1.trans hr) (fun t ht hW => ⟨⟨some v, h, rfl, hq, by rw [ht]; exact I.1, I.2.1⟩, I.2.2.F ht⟩) I.2.2.2.2 hd hlocks
theorem wp_zreturn {v : Int32} (hd : decode μ.2.1 pc = .ok (.ireturn, 1)) (hr : μ.2.2.2.1 = some .boolean) (hv : v = 0 ∨ v = 1) (hq : Q (some v) h) : WP l E μ pc ls [.inl v] h Q := by
  intro p e s m args below meth c A H locs lsA C I hl
  have hlocks : meth.locks = false := C.2.2.2.2.2.2.1
  exact W.zret C.1 C.2.1 (C.2.2.1.trans hr) (by rcases hv with rfl | rfl <;> decide) (fun t ht hW => ⟨⟨some v, h, rfl, hq, by rw [ht]; exact I.1, I.2.1⟩, I.2.2.F ht⟩) I.2.2.2.2 hd hlocks
theorem wp_return (hd : decode μ.2.1 pc = .ok (.return_, 1)) (hr : μ.2.2.2.1 = none) (hq : Q none h) : WP l E μ pc ls [] h Q := by
  intro p e s m args below meth c A H locs lsA C I hl
  have hlocks : meth.locks = false := C.2.2.2.2.2.2.1
  exact W.vret C.1 C.2.1 (C.2.2.1.trans hr) (fun t ht hW => ⟨⟨none, h, rfl, hq, by rw [ht]; exact I.1, I.2.1⟩, I.2.2.F ht⟩) I.2.2.2.2 hd hlocks
/-- a field: its class's number, its place, its type; the pool's number in the class own -/
def FL (own : String) (idx ci j : Nat) (ty : FieldType) : Prop := ∃ (C : String) (T : u_T) (N : Nat) (ty0 : Nat → FieldType), vwCl[ci]? = some (C, T, N) ∧ j < N ∧ (∀ w ∈ u_ws C T N, w ∈ gW) ∧ (T j).1 = C ∧ parseFieldDescriptor (T j).2.2.1 = some ty ∧ (∀ k, k < N → parseFieldDescriptor (T k).2.2.1 = some (ty0 k)) ∧ (∀ a, a < N → ∀ b, b < N → a ≠ b → (T a).2.1 ≠ (T b).2.1) ∧ (Cond.fieldLink own idx C (T j).2.1 (T j).2.2.1 ∈ gW ∨ ∃ host, Cond.fieldLinkNest own idx C (T j).2.1 (T j).2.2.1 host ∈ nW)
/-- the same, of a field that is not final -/
def FM (own : String) (idx ci j : Nat) (ty : FieldType) : Prop := FL own idx ci j ty ∧ ∀ q, vwCl[ci]? = some q → (q.2.1 j).2.2.2 = false
theorem wp_get {idx k ci j : Nat} {ty : FieldType} {fs : List (Option Nat)} {v : xv} (hd : decode μ.2.1 pc = .ok (.getfield idx, 3)) (F : FL μ.1.cls idx ci j ty) (hq : lay[k]? = some (.inl (ci, fs))) (hf : (xF E (h k) 0 fs)[j]? = some (xV E v)) (kk : WP l E μ (pc + 3) ls (v :: st) h Q) : WP l E μ pc ls (.inr k :: st) h Q := by
  intro p e s m args below meth c A H locs lsA C I hl
  obtain ⟨Cn, T, N, ty0, hc, hj, hin, hTC, hpa, hty, hnm, hlink⟩ := F
  have hts := C.2.2.2.2.1
  rcases hlink with hlink | ⟨host, hlink⟩
  · exact va_get (D := E.1) C.1 C.2.1 hts (fun w hw => wM_g (hin w hw)) C.2.2.2.2.2.1 C.2.2.2.2.2.2.2.1.1 I.1 k (wld_get hq) hc j hj (hts _ (wM_g hlink)) (fun x hx => by rw [hTC] at hx; exact hx) hf hd (kk p e s m args below meth c A H locs lsA C I hl)
  · exact va_getN (D := E.1) C.1 C.2.1 hts (fun w hw => wM_g (hin w hw)) C.2.2.2.2.2.1 C.2.2.2.2.2.2.2.1.1 I.1 k (wld_get hq) hc j hj (va_Nw.use rfl (C.2.2.2.2.2.2.2.1.2 _ hlink)) (fun x hx => by rw [hTC] at hx; exact hx) hf hd (kk p e s m args below meth c A H locs lsA C I hl)
theorem wp_getI {idx k ci j : Nat} {ty : FieldType} {fs : List (Option Nat)} (hd : decode μ.2.1 pc = .ok (.getfield idx, 3)) (F : FL μ.1.cls idx ci j ty) (hq : lay[k]? = some (.inl (ci, fs))) (hf : fs[j]? = some none) (kk : WP l E μ (pc + 3) ls (.inl (h k j) :: st) h Q) : WP l E μ pc ls (.inr k :: st) h Q :=
  wp_get (v := .inl (h k j)) hd F hq (by have := xF_int (E := E) (f := h k) fs 0 j hf; rw [Nat.zero_add] at this; exact this) kk
theorem wp_getR {idx k ci j r : Nat} {ty : FieldType} {fs : List (Option Nat)} (hd : decode μ.2.1 pc = .ok (.getfield idx, 3)) (F : FL μ.1.cls idx ci j ty) (hq : lay[k]? = some (.inl (ci, fs))) (hf : fs[j]? = some (some r)) (kk : WP l E μ (pc + 3) ls (.inr r :: st) h Q) : WP l E μ pc ls (.inr k :: st) h Q :=
  wp_get (v := .inr r) hd F hq (xF_ref fs 0 j hf) kk
theorem wp_put {idx k ci j : Nat} {ty : FieldType} {fs : List (Option Nat)} {v : Int32} (hd : decode μ.2.1 pc = .ok (.putfield idx, 3)) (F : FM μ.1.cls idx ci j ty) (hq : lay[k]? = some (.inl (ci, fs))) (hf : fs[j]? = some none) (hn : narrow ty (.int v) = .int v) (hfit : fits ty (.int v) = true) (kk : WP l E μ (pc + 3) ls st (hw h k j v) Q) : WP l E μ pc ls (.inl v :: .inr k :: st) h Q := by
  intro p e s m args below meth c A H locs lsA C I hl
  obtain ⟨⟨Cn, T, N, ty0, hc, hj, hin, hTC, hpa, hty, hnm, hlink⟩, hfin⟩ := F
  have hts := C.2.2.2.2.1
  have hfi : (T j).2.2.2 = false := hfin _ hc
  have hle : j < (xF E (h k) 0 fs).length := by rw [xF_len]; exact (List.getElem?_eq_some_iff.mp hf).1
  have he : (wld E h).set k (E.2.1 k, .inr (ci, (xF E (h k) 0 fs).set j (.int v))) = wld E (hw h k j v) := by
    rw [xF_set fs 0 j hf, Nat.zero_add, ← hw_eq]
    exact wld_set (E := E) (h := h) (f := upd (h k) j v) hq
  rcases hlink with hlink | ⟨host, hlink⟩
  · exact va_put (D := E.1) C.1 C.2.1 hts (fun w hw => wM_g (hin w hw)) ty0 hty hnm C.2.2.2.2.2.1 C.2.2.2.2.2.2.2.1.1 I.1 I.2.1 I.2.2 k (wld_get hq) hc j hj (hts _ (wM_g hlink)) (fun x hx => by rw [hTC] at hx; exact hx) hfi hpa hn hfit hle hd (fun H1 locs1 hP1 hD1 hS1 => kk p e s m args below meth c A H1 locs1 lsA C ⟨he ▸ hP1, he ▸ hD1, hS1⟩ hl)
  · exact va_putN (D := E.1) C.1 C.2.1 hts (fun w hw => wM_g (hin w hw)) ty0 hty hnm C.2.2.2.2.2.1 C.2.2.2.2.2.2.2.1.1 I.1 I.2.1 I.2.2 k (wld_get hq) hc j hj (va_Nw.use rfl (C.2.2.2.2.2.2.2.1.2 _ hlink)) (fun x hx => by rw [hTC] at hx; exact hx) hfi hpa hn hfit hle hd (fun H1 locs1 hP1 hD1 hS1 => kk p e s m args below meth c A H1 locs1 lsA C ⟨he ▸ hP1, he ▸ hD1, hS1⟩ hl)
theorem wp_putI {idx k ci j : Nat} {fs : List (Option Nat)} {v : Int32} (hd : decode μ.2.1 pc = .ok (.putfield idx, 3)) (F : FM μ.1.cls idx ci j .int) (hq : lay[k]? = some (.inl (ci, fs))) (hf : fs[j]? = some none) (kk : WP l E μ (pc + 3) ls st (hw h k j v) Q) : WP l E μ pc ls (.inl v :: .inr k :: st) h Q := wp_put hd F hq hf rfl rfl kk
theorem wp_putZ {idx k ci j : Nat} {fs : List (Option Nat)} {v : Int32} (hd : decode μ.2.1 pc = .ok (.putfield idx, 3)) (F : FM μ.1.cls idx ci j .boolean) (hq : lay[k]? = some (.inl (ci, fs))) (hf : fs[j]? = some none) (hv : v = 0 ∨ v = 1) (kk : WP l E μ (pc + 3) ls st (hw h k j v) Q) : WP l E μ pc ls (.inl v :: .inr k :: st) h Q := wp_put hd F hq hf (by rcases hv with rfl | rfl <;> decide) (by rcases hv with rfl | rfl <;> decide) kk
/-- arrays -/
theorem wp_iaload {k n : Nat} {i : Int32} (hd : decode μ.2.1 pc = .ok (.iaload, 1)) (hq : lay[k]? = some (.inr (false, n))) (hin : vp_in i n) (kk : WP l E μ (pc + 1) ls (.inl (h k i.toNatClampNeg) :: st) h Q) : WP l E μ pc ls (.inl i :: .inr k :: st) h Q := by
  intro p e s m args below meth c A H locs lsA C I hl
  exact va_iald C.1 C.2.1 C.2.2.2.2.2.2.2.1.1 I.1 k 0 (wld_get hq) rfl hin hd (kk p e s m args below meth c A H locs lsA C I hl)
theorem wp_baload {k n : Nat} {i : Int32} (hd : decode μ.2.1 pc = .ok (.baload, 1)) (hq : lay[k]? = some (.inr (true, n))) (hin : vp_in i n) (kk : WP l E μ (pc + 1) ls (.inl (h k i.toNatClampNeg) :: st) h Q) : WP l E μ pc ls (.inl i :: .inr k :: st) h Q := by
  intro p e s m args below meth c A H locs lsA C I hl
  exact va_zald C.1 C.2.1 C.2.2.2.2.2.2.2.1.1 I.1 k 1 (wld_get hq) rfl hin hd (kk p e s m args below meth c A H locs lsA C I hl)
theorem wp_iastore {k n : Nat} {i x : Int32} (hd : decode μ.2.1 pc = .ok (.iastore, 1)) (hq : lay[k]? = some (.inr (false, n))) (hin : vp_in i n) (kk : WP l E μ (pc + 1) ls st (hw h k i.toNatClampNeg x) Q) : WP l E μ pc ls (.inl x :: .inl i :: .inr k :: st) h Q := by
  intro p e s m args below meth c A H locs lsA C I hl
  have he := wld_set (E := E) (h := h) (f := upd (h k) i.toNatClampNeg x) hq
  rw [hw_eq] at he
  exact va_iast C.1 C.2.1 C.2.2.2.2.2.2.2.1.1 I.1 I.2.1 I.2.2 k 0 (wld_get hq) rfl hin hd (fun H1 locs1 hP1 hD1 hS1 => kk p e s m args below meth c A H1 locs1 lsA C ⟨he ▸ hP1, he ▸ hD1, hS1⟩ hl)
theorem wp_bastore {k n : Nat} {i x : Int32} (hd : decode μ.2.1 pc = .ok (.bastore, 1)) (hq : lay[k]? = some (.inr (true, n))) (hin : vp_in i n) (hx : vp_nar .boolean x = x) (kk : WP l E μ (pc + 1) ls st (hw h k i.toNatClampNeg x) Q) : WP l E μ pc ls (.inl x :: .inl i :: .inr k :: st) h Q := by
  intro p e s m args below meth c A H locs lsA C I hl
  have he := wld_set (E := E) (h := h) (f := upd (h k) i.toNatClampNeg x) hq
  rw [hw_eq] at he
  refine va_zast C.1 C.2.1 C.2.2.2.2.2.2.2.1.1 I.1 I.2.1 I.2.2 k 1 (wld_get hq) rfl hin hd (fun H1 locs1 hP1 hD1 hS1 => ?_)
  rw [hx] at hP1 hD1
  exact kk p e s m args below meth c A H1 locs1 lsA C ⟨he ▸ hP1, he ▸ hD1, hS1⟩ hl
theorem nar01 {x : Int32} (h : x = 0 ∨ x = 1) : vp_nar .boolean x = x := by rcases h with rfl | rfl <;> decide
theorem wp_alen {k n : Nat} {b : Bool} (hd : decode μ.2.1 pc = .ok (.arraylength, 1)) (hq : lay[k]? = some (.inr (b, n))) (kk : WP l E μ (pc + 1) ls (.inl (nI n) :: st) h Q) : WP l E μ pc ls (.inr k :: st) h Q := by
  intro p e s m args below meth c A H locs lsA C I hl
  cases b with
  | false => exact va_alen (ty := .int) C.1 C.2.1 C.2.2.2.2.2.2.2.1.1 I.1 k 0 (wld_get hq) rfl rfl hd (kk p e s m args below meth c A H locs lsA C I hl)
  | true => exact va_alen (ty := .boolean) C.1 C.2.1 C.2.2.2.2.2.2.2.1.1 I.1 k 1 (wld_get hq) rfl rfl hd (kk p e s m args below meth c A H locs lsA C I hl)
theorem cats {E : xE} : ∀ (st : List xv), ((st.map (xV E)).map fun v => v.category).sum = st.length
  | [] => rfl
  | v :: r => by
    simp only [List.map_cons, List.sum_cons, List.length_cons]
    rw [cats r, xV_cat]
    omega
theorem wp_min {idx : Nat} {x y : Int32} (hd : decode μ.2.1 pc = .ok (.invokestatic idx, 3)) (h1 : Cond.methodLink μ.1.cls idx Lib.Math.min.name ∈ gW) (h2 : Cond.static Lib.Math.min.name ∈ gW) (h3 : Cond.initialized "java/lang/Math" ∈ gW) (h4 : Cond.code Lib.Math.min.name Lib.Math.min.code 2 (some .int) ∈ gW) (hdp : 1 ≤ μ.2.2.2.2.1) (hst : st.length + 13 ≤ μ.2.2.2.2.2) (kk : WP l E μ (pc + 3) ls (.inl (if y < x then y else x) :: st) h Q) : WP l E μ pc ls (.inl y :: .inl x :: st) h Q := by
  intro p e s m args below meth c A H locs lsA C I hl
  have hts := C.2.2.2.2.1
  exact va_mmin C.1 C.2.1 (by rw [hl.1]; exact C.2.2.2.1) C.2.2.2.2.2.1 (hts _ (wM_g h1)) (hts _ (wM_g h2)) (hts _ (wM_g h3)) (hts _ (wM_g h4)) hdp (by rw [cats]; exact hst) (Nat.le_refl 0) (Nat.le_refl 0) hd (kk p e s m args below meth c A H locs lsA C I hl)
theorem wp_copy {idx k0 k1 n0 n1 : Nat} {sp dp n : Int32} (hd : decode μ.2.1 pc = .ok (.invokestatic idx, 3)) (w1 : Cond.methodLink μ.1.cls idx arraycopyName ∈ gW) (w2 : Cond.native arraycopyName ∈ gW) (w3 : Cond.static arraycopyName ∈ gW) (w4 : Cond.initialized "java/lang/System" ∈ gW)
    (hq0 : lay[k0]? = some (.inr (false, n0))) (hq1 : lay[k1]? = some (.inr (false, n1))) (hdp : 1 ≤ μ.2.2.2.2.1) (hst : st.length + (nativeFrameWords "java/lang/System" "arraycopy" 5 + 11) ≤ μ.2.2.2.2.2) (h1 : ¬ sp < 0) (h2 : ¬ dp < 0) (h3 : ¬ n < 0) (h4 : sp.toNatClampNeg + n.toNatClampNeg ≤ n0) (h5 : dp.toNatClampNeg + n.toNatClampNeg ≤ n1)
    (kk : WP l E μ (pc + 3) ls st (hc h k0 k1 sp dp n) Q) : WP l E μ pc ls (.inl n :: .inl dp :: .inr k1 :: .inl sp :: .inr k0 :: st) h Q := by
  intro p e s m args below meth c A H locs lsA C I hl
  have hts := C.2.2.2.2.1
  have he := wld_set (E := E) (h := h) (f := va_cpy (h k0) (h k1) sp.toNatClampNeg dp.toNatClampNeg n.toNatClampNeg) hq1
  exact va_copyi (ty := .int) C.1 C.2.1 (by rw [hl.1]; exact C.2.2.2.1) C.2.2.2.2.2.1 (hts _ (wM_g w1)) (hts _ (wM_g w2)) (hts _ (wM_g w3)) (hts _ (wM_g w4)) C.2.2.2.2.2.2.2.1.1 I.1 I.2.1 I.2.2 k0 k1 0 0 (wld_get hq0) (wld_get hq1) rfl rfl rfl h1 h2 h3 h4 h5 (fun _ _ => rfl) hdp (by rw [cats]; exact hst) hd (fun H1 locs1 hP1 hD1 hS1 => kk p e s m args below meth c A H1 locs1 lsA C ⟨he ▸ hP1, he ▸ hD1, hS1⟩ hl)
/-- a method's entry -/
def ent : Nat → List xv → List (Nat × xv)
  | _, [] => []
  | i, v :: r => (i, v) :: ent (i + 1) r
theorem ent_args {E : xE} : ∀ (as : List xv) (i : Nat), lv_args i (as.map (xV E)) = xls E (ent i as)
  | [], _ => rfl
  | v :: r, i => by
    simp only [List.map_cons, lv_args, ent, xls]
    rw [xV_cat, if_neg (by decide), ent_args r (i + 1)]
theorem lg_sl_len {E : xE} : ∀ (as : List xv), (lg_sl (as.map (xV E))).length = as.length
  | [] => rfl
  | v :: r => by
    simp only [List.map_cons, lg_sl, List.flatMap_cons, List.length_append]
    rw [xV_cat, if_neg (by decide)]
    have := lg_sl_len (E := E) r
    simp only [lg_sl] at this
    rw [this]
    simp; omega
def MC (l : Launch) (E : xE) (μ : xM) (as : List xv) (h : xh) (Q : Option Int32 → xh → Prop) : Prop := WP l E μ 0 (ent 0 as) [] h Q
theorem met_of {μ : xM} {as : List xv} {h : xh} {Q : Option Int32 → xh → Prop} (sz : Nat) (hy : plainName μ.1.cls = true) (hlen : as.length ≤ μ.2.2.1) (k : MC l E μ as h Q) : Met l μ.1 (wM μ) (rmOf μ.2.2.2.2) (xPc E sz h as) (xQc E (xA E sz) Q) 0 0 (xA E sz) := by
  refine Met.ofW (cc := μ.2.1) (maxL := μ.2.2.1) (ret := μ.2.2.2.1) hy rfl ?_
  intro p e s m args below meth c s₁ B hml hv
  obtain ⟨rfl, hsz, hP, hK, hD0⟩ := hv
  have hts := atoms_spec (ws := wM μ) B.pre
  have hl := lv_entry (as.map (xV E)) (n := μ.2.2.1) (by rw [lg_sl_len]; exact hlen)
  rw [ent_args] at hl
  rw [lg_entry_eq]
  subst hsz
  exact k p e s m _ below meth c (xA E s.heap.size) s.heap [] _ ⟨B.exec, B.bytes, B.returns, hml, hts, findClass_of_methodNamed B.named, B.notSynchronized, hK, fun q h => Or.inr h⟩ ⟨hP, xA_D hD0, va_S.rf⟩ hl
abbrev rpush (r : Option Int32) (st : List xv) : List xv := match r with
  | none => st
  | some v => .inl v :: st
/-- a call's words -/
def VB (μ μ' : xM) (idx n : Nat) : Prop := plainName μ'.1.cls = true ∧ Cond.code μ'.1 μ'.2.1 μ'.2.2.1 μ'.2.2.2.1 ∈ gW ∧ Cond.initialized μ'.1.cls ∈ gW ∧ (μ'.1.cls ≠ "java/lang/invoke/MethodHandle" ∧ μ'.1.cls ≠ "java/lang/invoke/VarHandle" ∧ (parseMethodDescriptor μ'.1.desc).map (fun d => d.parameters.length) = some n) ∧ (μ'.2.2.2.2.1 + 1 ≤ μ.2.2.2.2.1 ∧ 8 + (μ'.2.2.1 + 11) + μ'.2.2.2.2.2 ≤ μ.2.2.2.2.2) ∧ (Cond.methodLink μ.1.cls idx μ'.1 ∈ gW ∨ ∃ host, Cond.methodLinkNest μ.1.cls idx μ'.1 host ∈ nW)
theorem xGood {μ μ' : xM} (h : Cond.code μ'.1 μ'.2.1 μ'.2.2.1 μ'.2.2.2.1 ∈ gW) : GoodIn (wM μ) (wM μ') := by
  intro w hw
  have key : ∀ w ∈ gW, w ∈ wM μ ∧ ((w.onTables && w.keeps) = true ∨ ∃ ty, w = .arrayClass ty) := fun w hw => ⟨wM_g hw, isGood_of (List.mem_filter.mp hw).2⟩
  rcases List.mem_cons.mp hw with rfl | hw
  · exact key _ h
  · exact key _ hw
theorem xBlind {E : xE} {sz : Nat} {h : xh} {as : List xv} : FrameBlind (xPc E sz h as) := by
  intro a U g mk q
  obtain ⟨q0, q1, qP, qK, qD⟩ := q
  exact ⟨q0, q1, qP, xK.same (s := U) (U := U.calling g mk a) rfl qK, qD⟩
theorem wp_after {E : xE} {A : Nat → Prop} {p : Program} {e : Env} {s : State} {m : MethodId} {args : Array Value} {below : List Frame} {meth : Method} {c : Code} {H : Heap} {locs : List Loc} {lsA : Array Slot} {h : xh} {st0 rest : List xv} {Q' : Option Int32 → xh → Prop} {a : Array Value}
    (C : CX E μ p s m args meth c A) (I : xI E A s h H locs) (hl : lv_has lsA μ.2.2.1 (xls E ls))
    (hr : va_Run p l e (rmOf μ.2.2.2.2) s m args below meth c H locs 0 0 0 0 (F0 m pc lsA (st0.map (xV E))) (rest.map (xV E)) (xQc E (xA E H.size) Q' a) (xA E H.size))
    (kk : ∀ r h', Q' r h' → WP l E μ (pc + 3) ls (rpush r rest) h' Q) : W p l e (rmOf μ.2.2.2.2) s m args below meth c H locs 0 0 (MQ below (xQc E A Q) args s 0 0 A) (F0 m pc lsA (st0.map (xV E))) := by
  intro T hT X
  obtain ⟨v, st₀, t, T', L, h0, X', hL, e1, e2, ⟨⟨r, h', hv, hp, hP', hD'⟩, hz, hk⟩, stp⟩ := hr T hT X
  have hv : v = r.map Value.int := Outcome.returned.inj hv
  subst hv
  rw [h0] at hz hk
  have hA : ∀ q, xA E H.size q → A q := fun q z => by
    rcases z with ⟨k, hk, rfl⟩ | z
    · exact xA_of I.2.1 hk
    · exact C.2.2.2.2.2.2.2.2 q (Nat.le_trans I.2.2.1 z)
  have hS := I.2.2
  have I' : xI E A s h' T'.heap (locs ++ L) := by
    refine ⟨by rw [e1]; exact hP', wld_addr I.2.1, Nat.le_trans hS.1 (by rw [e1]; exact hz), fun q h1 h2 => ?_, fun q hq => ?_⟩
    · rw [e1, hk q (Nat.lt_of_lt_of_le h1 hS.1) (fun z => h2 (hA q z))]
      exact hS.2.1 q h1 h2
    · rcases List.mem_append.mp hq with h | h
      · exact hS.2.2 q h
      · exact hA _ (hL q h)
  obtain ⟨t2, a1, b1⟩ := kk r h' hp p e s m args below meth c A T'.heap (locs ++ L) lsA C I' hl T' rfl X'
  refine ⟨t2, stp t2 ?_, b1⟩
  have : (r.map Value.int).toList ++ rest.map (xV E) = (rpush r rest).map (xV E) := by cases r <;> rfl
  rw [this]
  exact a1
theorem wp_callS {μ' : xM} {idx n : Nat} {as rest st0 : List xv} {Q' : Option Int32 → xh → Prop} (hd : decode μ.2.1 pc = .ok (.invokestatic idx, 3)) (V : VB μ μ' idx n) (hs : Cond.static μ'.1 ∈ gW) (hn : as.length = n) (hlen : as.length ≤ μ'.2.2.1) (hst : st0 = as.reverse ++ rest) (hre : rest.length ≤ 8) (k : MC l E μ' as h Q') (kk : ∀ r h', Q' r h' → WP l E μ (pc + 3) ls (rpush r rest) h' Q) : WP l E μ pc ls st0 h Q := by
  intro p e s m args below meth c A H locs lsA C I hl
  obtain ⟨hpl, hco, hin, hde, hdp, hli⟩ := V
  have hts := C.2.2.2.2.1
  have M := met_of (l := l) (E := E) H.size hpl hlen k
  have hp : PreS s H (xPc E H.size h as) (as.map (xV E)) := ⟨xBlind, fun U hU hW => ⟨rfl, by rw [hU], by rw [hU]; exact I.1, C.2.2.2.2.2.2.2.1.warm hW, I.2.1.weaken (fun _ _ _ _ => trivial)⟩⟩
  have hR : (rmOf μ'.2.2.2.2).frames + 1 ≤ (rmOf μ.2.2.2.2).frames ∧ 8 + (μ'.2.2.1 + 11) + (rmOf μ'.2.2.2.2).locals ≤ (rmOf μ.2.2.2.2).locals := ⟨hdp.1, hdp.2⟩
  have hstk : st0.map (xV E) = (as.map (xV E)).reverse ++ rest.map (xV E) := by rw [hst, List.map_append, List.map_reverse]
  refine wp_after (a := (as.map (xV E)).toArray) (st0 := st0) (rest := rest) (Q' := Q') C I hl ?_ kk
  rcases hli with hli | ⟨host, hli⟩
  · exact va_runS (Ts := wM μ) (own := μ.1.cls) (As := as.map (xV E)) ⟨C.1, C.2.1, C.2.2.2.1, C.2.2.2.2.2.1, hts⟩ M ⟨callB_of n hts (xGood hco) rfl rfl rfl (hts _ (wM_g hin)) (hts _ (wM_g hli)) hde hR, hts _ (wM_g hs)⟩ hp rfl (by rw [List.length_map]; exact hn) hl.1 hstk (lv_room (by rw [cats]; exact hre)) hd ⟨Nat.le_refl 0, Nat.le_refl 0⟩
  · exact va_runSN (Ts := wM μ) (own := μ.1.cls) (As := as.map (xV E)) ⟨C.1, C.2.1, C.2.2.2.1, C.2.2.2.2.2.1, hts⟩ M ⟨va_cnB n hts (xGood hco) rfl rfl rfl (C.2.2.2.2.2.2.2.1.2 _ hli) (hts _ (wM_g hin)) hde hR, hts _ (wM_g hs), trivial⟩ hp rfl (by rw [List.length_map]; exact hn) hl.1 hstk (lv_room (by rw [cats]; exact hre)) hd ⟨Nat.le_refl 0, Nat.le_refl 0⟩
theorem wp_callV {μ' : xM} {idx n b ci : Nat} {fs : List (Option Nat)} {cq : vw_C} {as rest st0 : List xv} {Q' : Option Int32 → xh → Prop} (hd : decode μ.2.1 pc = .ok (.invokevirtual idx, 3)) (V : VB μ μ' idx n) (hs : Cond.instanceMethod μ'.1 ∈ gW ∧ Cond.selects μ'.1.cls μ'.1 μ'.1 ∈ gW) (hq : lay[b]? = some (.inl (ci, fs))) (hc : vwCl[ci]? = some cq) (hcn : cq.1 = μ'.1.cls) (hn : as.length = n) (hlen : as.length + 1 ≤ μ'.2.2.1) (hst : st0 = as.reverse ++ .inr b :: rest) (hre : rest.length ≤ 8) (k : MC l E μ' (.inr b :: as) h Q') (kk : ∀ r h', Q' r h' → WP l E μ (pc + 3) ls (rpush r rest) h' Q) : WP l E μ pc ls st0 h Q := by
  intro p e s m args below meth c A H locs lsA C I hl
  obtain ⟨hpl, hco, hin, hde, hdp, hli⟩ := V
  have hts := C.2.2.2.2.1
  have M := met_of (l := l) (E := E) (as := .inr b :: as) H.size hpl hlen k
  have hrec : ∃ cell : Cell, H[E.2.1 b]? = some cell ∧ cell.vm.isStatics = false ∧ s.vm.findClass μ'.1.cls = some cell.cls := by
    rw [← hcn]
    exact va_recv C.2.2.2.2.2.2.2.1.1 I.1 hc (wld_get hq)
  have hp : PreV s H μ'.1.cls (E.2.1 b) (xPc E H.size h (.inr b :: as)) (as.map (xV E)) := ⟨xBlind, hrec, fun U hU hW => ⟨rfl, by rw [hU], by rw [hU]; exact I.1, C.2.2.2.2.2.2.2.1.warm hW, I.2.1.weaken (fun _ _ _ _ => trivial)⟩⟩
  have hR : (rmOf μ'.2.2.2.2).frames + 1 ≤ (rmOf μ.2.2.2.2).frames ∧ 8 + (μ'.2.2.1 + 11) + (rmOf μ'.2.2.2.2).locals ≤ (rmOf μ.2.2.2.2).locals := ⟨hdp.1, hdp.2⟩
  have hstk : st0.map (xV E) = (as.map (xV E)).reverse ++ .ref (E.2.1 b) :: rest.map (xV E) := by rw [hst, List.map_append, List.map_reverse]; rfl
  refine wp_after (a := (Value.ref (E.2.1 b) :: as.map (xV E)).toArray) (st0 := st0) (rest := rest) (Q' := Q') C I hl ?_ kk
  rcases hli with hli | ⟨host, hli⟩
  · exact va_runV (Ts := wM μ) (own := μ.1.cls) (C := μ'.1.cls) (b := E.2.1 b) (As := as.map (xV E)) ⟨C.1, C.2.1, C.2.2.2.1, C.2.2.2.2.2.1, hts⟩ M ⟨callB_of n hts (xGood hco) rfl rfl rfl (hts _ (wM_g hin)) (hts _ (wM_g hli)) hde hR, hts _ (wM_g hs.1), hts _ (wM_g hs.2)⟩ hp rfl (by rw [List.length_map]; exact hn) hl.1 hstk (lv_room (by rw [cats]; exact hre)) hd ⟨Nat.le_refl 0, Nat.le_refl 0⟩
  · exact va_runVN (Ts := wM μ) (own := μ.1.cls) (C := μ'.1.cls) (b := E.2.1 b) (As := as.map (xV E)) ⟨C.1, C.2.1, C.2.2.2.1, C.2.2.2.2.2.1, hts⟩ M ⟨va_cnB n hts (xGood hco) rfl rfl rfl (C.2.2.2.2.2.2.2.1.2 _ hli) (hts _ (wM_g hin)) hde hR, hts _ (wM_g hs.1), hts _ (wM_g hs.2)⟩ hp rfl (by rw [List.length_map]; exact hn) hl.1 hstk (lv_room (by rw [cats]; exact hre)) hd ⟨Nat.le_refl 0, Nat.le_refl 0⟩
/-- fewer locals -/
theorem wp_sub {ls' : List (Nat × xv)} (ks : List Nat) (hs : lkeep ks ls = ls') (k : WP l E μ pc ls' st h Q) : WP l E μ pc ls st h Q := by
  intro p e s m args below meth c A H locs lsA C I hl
  refine k p e s m args below meth c A H locs lsA C I ⟨hl.1, hl.2.1, fun q hq => hl.2.2 q ?_⟩
  subst hs
  obtain ⟨z, hz, rfl⟩ := List.mem_map.mp hq
  exact List.mem_map.mpr ⟨z, lkeep_mem hz, rfl⟩
/-- more is known of the end -/
theorem WP.mono {Q' : Option Int32 → xh → Prop} (k : WP l E μ pc ls st h Q') (hq : ∀ r h', Q' r h' → Q r h') : WP l E μ pc ls st h Q := by
  intro p e s m args below meth c A H locs lsA C I hl T hT X
  obtain ⟨t, a1, o, b1, b2, ⟨⟨r, h', c1, c2, c3⟩, c4⟩, b4⟩ := k p e s m args below meth c A H locs lsA C I hl T hT X
  exact ⟨t, a1, o, b1, b2, ⟨⟨r, h', c1, hq r h' c2, c3⟩, c4⟩, b4⟩
end RULES
end
section
/-! words of the tables, by their places -/
theorem tb_1 {w : Cond} (h : w ∈ tables_1_1) : w ∈ lw_tbl := List.mem_append_right _ (List.mem_append_left _ h)
theorem tb_2 {w : Cond} (h : w ∈ tables_1_2) : w ∈ lw_tbl := List.mem_append_right _ (List.mem_append_right _ (List.mem_append_left _ h))
theorem tb_3 {w : Cond} (h : w ∈ tables_1_3) : w ∈ lw_tbl := List.mem_append_right _ (List.mem_append_right _ (List.mem_append_right _ (List.mem_append_left _ h)))
theorem tb_4 {w : Cond} (h : w ∈ tables_1_4) : w ∈ lw_tbl := List.mem_append_right _ (List.mem_append_right _ (List.mem_append_right _ (List.mem_append_right _ h)))
theorem gw_1_1 : (Jvm.Cond.initialized "RedoShelf") ∈ gW := gW_in (tb_1 (List.mem_of_getElem? (i := 1) rfl)) rfl
theorem gw_1_10 : (Jvm.Cond.initialized "java/lang/System") ∈ gW := gW_in (tb_1 (List.mem_of_getElem? (i := 10) rfl)) rfl
theorem gw_1_128 : (Jvm.Cond.fieldLink "RedoShelf$Job" (11 : Nat) "RedoShelf$Job" "target" "[I") ∈ gW := gW_in (tb_1 (List.mem_of_getElem? (i := 128) rfl)) rfl
theorem gw_1_129 : (Jvm.Cond.fieldLink "RedoShelf$Job" (15 : Nat) "RedoShelf$Job" "words" "[I") ∈ gW := gW_in (tb_1 (List.mem_of_getElem? (i := 129) rfl)) rfl
theorem gw_1_130 : (Jvm.Cond.fieldLink "RedoShelf$Job" (18 : Nat) "RedoShelf$Job" "runningKind" "I") ∈ gW := gW_in (tb_1 (List.mem_of_getElem? (i := 130) rfl)) rfl
theorem gw_1_131 : (Jvm.Cond.fieldLink "RedoShelf$Job" (22 : Nat) "RedoShelf$Job" "planned" "I") ∈ gW := gW_in (tb_1 (List.mem_of_getElem? (i := 131) rfl)) rfl
theorem gw_1_132 : (Jvm.Cond.fieldLink "RedoShelf$Job" (25 : Nat) "RedoShelf$Job" "done" "I") ∈ gW := gW_in (tb_1 (List.mem_of_getElem? (i := 132) rfl)) rfl
theorem gw_1_144 : (Jvm.Cond.methodLink "RedoShelf" (47 : Nat) ({ cls := "RedoShelf", name := "comeUp", desc := "(II)V" } : Jvm.MethodName)) ∈ gW := gW_in (tb_1 (List.mem_of_getElem? (i := 144) rfl)) rfl
theorem gw_1_146 : (Jvm.Cond.instanceMethod ({ cls := "RedoShelf", name := "comeUp", desc := "(II)V" } : Jvm.MethodName)) ∈ gW := gW_in (tb_1 (List.mem_of_getElem? (i := 146) rfl)) rfl
theorem gw_1_147 : (Jvm.Cond.code ({ cls := "RedoShelf", name := "comeUp", desc := "(II)V" } : Jvm.MethodName) prog_1_method_32_code (3 : Nat) (Option.none : Option Jvm.ClassFile.FieldType)) ∈ gW := gW_in (tb_1 (List.mem_of_getElem? (i := 147) rfl)) rfl
theorem gw_1_148 : (Jvm.Cond.methodLink "RedoShelf" (203 : Nat) ({ cls := "RedoShelf$Images", name := "clear", desc := "()V" } : Jvm.MethodName)) ∈ gW := gW_in (tb_1 (List.mem_of_getElem? (i := 148) rfl)) rfl
theorem gw_1_149 : (Jvm.Cond.instanceMethod ({ cls := "RedoShelf$Images", name := "clear", desc := "()V" } : Jvm.MethodName)) ∈ gW := gW_in (tb_1 (List.mem_of_getElem? (i := 149) rfl)) rfl
theorem gw_1_150 : (Jvm.Cond.selects "RedoShelf$Images" ({ cls := "RedoShelf$Images", name := "clear", desc := "()V" } : Jvm.MethodName) ({ cls := "RedoShelf$Images", name := "clear", desc := "()V" } : Jvm.MethodName)) ∈ gW := gW_in (tb_1 (List.mem_of_getElem? (i := 150) rfl)) rfl
theorem gw_1_151 : (Jvm.Cond.code ({ cls := "RedoShelf$Images", name := "clear", desc := "()V" } : Jvm.MethodName) prog_3_method_9_code (2 : Nat) (Option.none : Option Jvm.ClassFile.FieldType)) ∈ gW := gW_in (tb_1 (List.mem_of_getElem? (i := 151) rfl)) rfl
theorem gw_1_152 : (Jvm.Cond.fieldLink "RedoShelf" (12 : Nat) "RedoShelf" "device" "LRedoShelf$Device;") ∈ gW := gW_in (tb_1 (List.mem_of_getElem? (i := 152) rfl)) rfl
theorem gw_1_153 : (Jvm.Cond.fieldLink "RedoShelf" (19 : Nat) "RedoShelf" "running" "LRedoShelf$Images;") ∈ gW := gW_in (tb_1 (List.mem_of_getElem? (i := 153) rfl)) rfl
theorem gw_1_154 : (Jvm.Cond.fieldLink "RedoShelf" (23 : Nat) "RedoShelf" "pending" "LRedoShelf$Images;") ∈ gW := gW_in (tb_1 (List.mem_of_getElem? (i := 154) rfl)) rfl
theorem gw_1_155 : (Jvm.Cond.fieldLink "RedoShelf" (29 : Nat) "RedoShelf" "row" "LRedoShelf$Row;") ∈ gW := gW_in (tb_1 (List.mem_of_getElem? (i := 155) rfl)) rfl
theorem gw_1_156 : (Jvm.Cond.fieldLink "RedoShelf" (36 : Nat) "RedoShelf" "reader" "LRedoShelf$LogReader;") ∈ gW := gW_in (tb_1 (List.mem_of_getElem? (i := 156) rfl)) rfl
theorem gw_1_157 : (Jvm.Cond.fieldLink "RedoShelf" (43 : Nat) "RedoShelf" "job" "LRedoShelf$Job;") ∈ gW := gW_in (tb_1 (List.mem_of_getElem? (i := 157) rfl)) rfl
theorem gw_1_158 : (Jvm.Cond.fieldLink "RedoShelf" (127 : Nat) "RedoShelf" "up" "Z") ∈ gW := gW_in (tb_1 (List.mem_of_getElem? (i := 158) rfl)) rfl
theorem gw_1_159 : (Jvm.Cond.fieldLink "RedoShelf" (81 : Nat) "RedoShelf" "revoked" "I") ∈ gW := gW_in (tb_1 (List.mem_of_getElem? (i := 159) rfl)) rfl
theorem gw_1_160 : (Jvm.Cond.fieldLink "RedoShelf" (91 : Nat) "RedoShelf" "nextNumber" "I") ∈ gW := gW_in (tb_1 (List.mem_of_getElem? (i := 160) rfl)) rfl
theorem gw_1_161 : (Jvm.Cond.fieldLink "RedoShelf" (121 : Nat) "RedoShelf" "nextPlace" "I") ∈ gW := gW_in (tb_1 (List.mem_of_getElem? (i := 161) rfl)) rfl
theorem gw_1_162 : (Jvm.Cond.fieldLink "RedoShelf" (98 : Nat) "RedoShelf" "usedSectors" "I") ∈ gW := gW_in (tb_1 (List.mem_of_getElem? (i := 162) rfl)) rfl
theorem gw_1_190 : (Jvm.Cond.methodLink "RedoShelf" (51 : Nat) ({ cls := "RedoShelf", name := "isIdle", desc := "()Z" } : Jvm.MethodName)) ∈ gW := gW_in (tb_1 (List.mem_of_getElem? (i := 190) rfl)) rfl
theorem gw_1_192 : (Jvm.Cond.instanceMethod ({ cls := "RedoShelf", name := "isIdle", desc := "()Z" } : Jvm.MethodName)) ∈ gW := gW_in (tb_1 (List.mem_of_getElem? (i := 192) rfl)) rfl
theorem gw_1_193 : (Jvm.Cond.code ({ cls := "RedoShelf", name := "isIdle", desc := "()Z" } : Jvm.MethodName) prog_1_method_24_code (1 : Nat) (Option.some Jvm.ClassFile.FieldType.boolean)) ∈ gW := gW_in (tb_1 (List.mem_of_getElem? (i := 193) rfl)) rfl
theorem gw_1_194 : (Jvm.Cond.methodLink "RedoShelf" (131 : Nat) ({ cls := "RedoShelf$Job", name := "isRunning", desc := "()Z" } : Jvm.MethodName)) ∈ gW := gW_in (tb_1 (List.mem_of_getElem? (i := 194) rfl)) rfl
theorem gw_1_195 : (Jvm.Cond.instanceMethod ({ cls := "RedoShelf$Job", name := "isRunning", desc := "()Z" } : Jvm.MethodName)) ∈ gW := gW_in (tb_1 (List.mem_of_getElem? (i := 195) rfl)) rfl
theorem gw_1_196 : (Jvm.Cond.selects "RedoShelf$Job" ({ cls := "RedoShelf$Job", name := "isRunning", desc := "()Z" } : Jvm.MethodName) ({ cls := "RedoShelf$Job", name := "isRunning", desc := "()Z" } : Jvm.MethodName)) ∈ gW := gW_in (tb_1 (List.mem_of_getElem? (i := 196) rfl)) rfl
theorem gw_1_197 : (Jvm.Cond.code ({ cls := "RedoShelf$Job", name := "isRunning", desc := "()Z" } : Jvm.MethodName) prog_4_method_2_code (1 : Nat) (Option.some Jvm.ClassFile.FieldType.boolean)) ∈ gW := gW_in (tb_1 (List.mem_of_getElem? (i := 197) rfl)) rfl
theorem gw_1_198 : (Jvm.Cond.methodLink "RedoShelf" (55 : Nat) ({ cls := "RedoShelf", name := "isBlockWord", desc := "(II)Z" } : Jvm.MethodName)) ∈ gW := gW_in (tb_1 (List.mem_of_getElem? (i := 198) rfl)) rfl
theorem gw_1_199 : (Jvm.Cond.static ({ cls := "RedoShelf", name := "isBlockWord", desc := "(II)Z" } : Jvm.MethodName)) ∈ gW := gW_in (tb_1 (List.mem_of_getElem? (i := 199) rfl)) rfl
theorem gw_1_2 : (Jvm.Cond.initialized "RedoShelf$Device") ∈ gW := gW_in (tb_1 (List.mem_of_getElem? (i := 2) rfl)) rfl
theorem gw_1_200 : (Jvm.Cond.code ({ cls := "RedoShelf", name := "isBlockWord", desc := "(II)Z" } : Jvm.MethodName) prog_1_method_20_code (2 : Nat) (Option.some Jvm.ClassFile.FieldType.boolean)) ∈ gW := gW_in (tb_1 (List.mem_of_getElem? (i := 200) rfl)) rfl
theorem gw_1_201 : (Jvm.Cond.methodLink "RedoShelf" (75 : Nat) ({ cls := "RedoShelf", name := "isBlock", desc := "(I)Z" } : Jvm.MethodName)) ∈ gW := gW_in (tb_1 (List.mem_of_getElem? (i := 201) rfl)) rfl
theorem gw_1_202 : (Jvm.Cond.static ({ cls := "RedoShelf", name := "isBlock", desc := "(I)Z" } : Jvm.MethodName)) ∈ gW := gW_in (tb_1 (List.mem_of_getElem? (i := 202) rfl)) rfl
theorem gw_1_203 : (Jvm.Cond.code ({ cls := "RedoShelf", name := "isBlock", desc := "(I)Z" } : Jvm.MethodName) prog_1_method_19_code (1 : Nat) (Option.some Jvm.ClassFile.FieldType.boolean)) ∈ gW := gW_in (tb_1 (List.mem_of_getElem? (i := 203) rfl)) rfl
theorem gw_1_204 : (Jvm.Cond.methodLink "RedoShelf" (59 : Nat) ({ cls := "RedoShelf$Images", name := "holds", desc := "(I)Z" } : Jvm.MethodName)) ∈ gW := gW_in (tb_1 (List.mem_of_getElem? (i := 204) rfl)) rfl
theorem gw_1_205 : (Jvm.Cond.instanceMethod ({ cls := "RedoShelf$Images", name := "holds", desc := "(I)Z" } : Jvm.MethodName)) ∈ gW := gW_in (tb_1 (List.mem_of_getElem? (i := 205) rfl)) rfl
theorem gw_1_206 : (Jvm.Cond.selects "RedoShelf$Images" ({ cls := "RedoShelf$Images", name := "holds", desc := "(I)Z" } : Jvm.MethodName) ({ cls := "RedoShelf$Images", name := "holds", desc := "(I)Z" } : Jvm.MethodName)) ∈ gW := gW_in (tb_1 (List.mem_of_getElem? (i := 206) rfl)) rfl
theorem gw_1_207 : (Jvm.Cond.code ({ cls := "RedoShelf$Images", name := "holds", desc := "(I)Z" } : Jvm.MethodName) prog_3_method_3_code (2 : Nat) (Option.some Jvm.ClassFile.FieldType.boolean)) ∈ gW := gW_in (tb_1 (List.mem_of_getElem? (i := 207) rfl)) rfl
theorem gw_1_208 : (Jvm.Cond.methodLink "RedoShelf" (63 : Nat) ({ cls := "RedoShelf$Images", name := "size", desc := "()I" } : Jvm.MethodName)) ∈ gW := gW_in (tb_1 (List.mem_of_getElem? (i := 208) rfl)) rfl
theorem gw_1_209 : (Jvm.Cond.instanceMethod ({ cls := "RedoShelf$Images", name := "size", desc := "()I" } : Jvm.MethodName)) ∈ gW := gW_in (tb_1 (List.mem_of_getElem? (i := 209) rfl)) rfl
theorem gw_1_210 : (Jvm.Cond.selects "RedoShelf$Images" ({ cls := "RedoShelf$Images", name := "size", desc := "()I" } : Jvm.MethodName) ({ cls := "RedoShelf$Images", name := "size", desc := "()I" } : Jvm.MethodName)) ∈ gW := gW_in (tb_1 (List.mem_of_getElem? (i := 210) rfl)) rfl
theorem gw_1_211 : (Jvm.Cond.code ({ cls := "RedoShelf$Images", name := "size", desc := "()I" } : Jvm.MethodName) prog_3_method_2_code (1 : Nat) (Option.some Jvm.ClassFile.FieldType.int)) ∈ gW := gW_in (tb_1 (List.mem_of_getElem? (i := 211) rfl)) rfl
theorem gw_1_212 : (Jvm.Cond.methodLink "RedoShelf" (67 : Nat) ({ cls := "RedoShelf", name := "beginImage", desc := "(I)V" } : Jvm.MethodName)) ∈ gW := gW_in (tb_1 (List.mem_of_getElem? (i := 212) rfl)) rfl
theorem gw_1_214 : (Jvm.Cond.instanceMethod ({ cls := "RedoShelf", name := "beginImage", desc := "(I)V" } : Jvm.MethodName)) ∈ gW := gW_in (tb_1 (List.mem_of_getElem? (i := 214) rfl)) rfl
theorem gw_1_215 : (Jvm.Cond.code ({ cls := "RedoShelf", name := "beginImage", desc := "(I)V" } : Jvm.MethodName) prog_1_method_27_code (3 : Nat) (Option.none : Option Jvm.ClassFile.FieldType)) ∈ gW := gW_in (tb_1 (List.mem_of_getElem? (i := 215) rfl)) rfl
theorem gw_1_216 : (Jvm.Cond.methodLink "RedoShelf" (173 : Nat) ({ cls := "RedoShelf", name := "volumeWord", desc := "(II)I" } : Jvm.MethodName)) ∈ gW := gW_in (tb_1 (List.mem_of_getElem? (i := 216) rfl)) rfl
theorem gw_1_218 : (Jvm.Cond.instanceMethod ({ cls := "RedoShelf", name := "volumeWord", desc := "(II)I" } : Jvm.MethodName)) ∈ gW := gW_in (tb_1 (List.mem_of_getElem? (i := 218) rfl)) rfl
theorem gw_1_219 : (Jvm.Cond.code ({ cls := "RedoShelf", name := "volumeWord", desc := "(II)I" } : Jvm.MethodName) prog_1_method_26_code (3 : Nat) (Option.some Jvm.ClassFile.FieldType.int)) ∈ gW := gW_in (tb_1 (List.mem_of_getElem? (i := 219) rfl)) rfl
theorem gw_1_220 : (Jvm.Cond.methodLink "RedoShelf" (113 : Nat) ({ cls := "RedoShelf$Images", name := "word", desc := "(II)I" } : Jvm.MethodName)) ∈ gW := gW_in (tb_1 (List.mem_of_getElem? (i := 220) rfl)) rfl
theorem gw_1_221 : (Jvm.Cond.instanceMethod ({ cls := "RedoShelf$Images", name := "word", desc := "(II)I" } : Jvm.MethodName)) ∈ gW := gW_in (tb_1 (List.mem_of_getElem? (i := 221) rfl)) rfl
theorem gw_1_222 : (Jvm.Cond.selects "RedoShelf$Images" ({ cls := "RedoShelf$Images", name := "word", desc := "(II)I" } : Jvm.MethodName) ({ cls := "RedoShelf$Images", name := "word", desc := "(II)I" } : Jvm.MethodName)) ∈ gW := gW_in (tb_1 (List.mem_of_getElem? (i := 222) rfl)) rfl
theorem gw_1_223 : (Jvm.Cond.code ({ cls := "RedoShelf$Images", name := "word", desc := "(II)I" } : Jvm.MethodName) prog_3_method_4_code (3 : Nat) (Option.some Jvm.ClassFile.FieldType.int)) ∈ gW := gW_in (tb_1 (List.mem_of_getElem? (i := 223) rfl)) rfl
theorem gw_1_224 : (Jvm.Cond.methodLink "RedoShelf" (179 : Nat) ({ cls := "RedoShelf$Device", name := "newestWord", desc := "(II)I" } : Jvm.MethodName)) ∈ gW := gW_in (tb_1 (List.mem_of_getElem? (i := 224) rfl)) rfl
theorem gw_1_225 : (Jvm.Cond.instanceMethod ({ cls := "RedoShelf$Device", name := "newestWord", desc := "(II)I" } : Jvm.MethodName)) ∈ gW := gW_in (tb_1 (List.mem_of_getElem? (i := 225) rfl)) rfl
theorem gw_1_226 : (Jvm.Cond.selects "RedoShelf$Device" ({ cls := "RedoShelf$Device", name := "newestWord", desc := "(II)I" } : Jvm.MethodName) ({ cls := "RedoShelf$Device", name := "newestWord", desc := "(II)I" } : Jvm.MethodName)) ∈ gW := gW_in (tb_1 (List.mem_of_getElem? (i := 226) rfl)) rfl
theorem gw_1_227 : (Jvm.Cond.code ({ cls := "RedoShelf$Device", name := "newestWord", desc := "(II)I" } : Jvm.MethodName) prog_2_method_4_code (4 : Nat) (Option.some Jvm.ClassFile.FieldType.int)) ∈ gW := gW_in (tb_1 (List.mem_of_getElem? (i := 227) rfl)) rfl
theorem gw_1_228 : (Jvm.Cond.methodLink "RedoShelf$Device" (26 : Nat) ({ cls := "RedoShelf$Device", name := "ownWord", desc := "(II)I" } : Jvm.MethodName)) ∈ gW := gW_in (tb_1 (List.mem_of_getElem? (i := 228) rfl)) rfl
theorem gw_1_229 : (Jvm.Cond.instanceMethod ({ cls := "RedoShelf$Device", name := "ownWord", desc := "(II)I" } : Jvm.MethodName)) ∈ gW := gW_in (tb_1 (List.mem_of_getElem? (i := 229) rfl)) rfl
theorem gw_1_230 : (Jvm.Cond.selects "RedoShelf$Device" ({ cls := "RedoShelf$Device", name := "ownWord", desc := "(II)I" } : Jvm.MethodName) ({ cls := "RedoShelf$Device", name := "ownWord", desc := "(II)I" } : Jvm.MethodName)) ∈ gW := gW_in (tb_1 (List.mem_of_getElem? (i := 230) rfl)) rfl
theorem gw_1_231 : (Jvm.Cond.code ({ cls := "RedoShelf$Device", name := "ownWord", desc := "(II)I" } : Jvm.MethodName) prog_2_method_3_code (3 : Nat) (Option.some Jvm.ClassFile.FieldType.int)) ∈ gW := gW_in (tb_1 (List.mem_of_getElem? (i := 231) rfl)) rfl
theorem gw_1_232 : (Jvm.Cond.methodLink "RedoShelf" (71 : Nat) ({ cls := "RedoShelf$Images", name := "setWord", desc := "(III)V" } : Jvm.MethodName)) ∈ gW := gW_in (tb_1 (List.mem_of_getElem? (i := 232) rfl)) rfl
theorem gw_1_233 : (Jvm.Cond.instanceMethod ({ cls := "RedoShelf$Images", name := "setWord", desc := "(III)V" } : Jvm.MethodName)) ∈ gW := gW_in (tb_1 (List.mem_of_getElem? (i := 233) rfl)) rfl
theorem gw_1_234 : (Jvm.Cond.selects "RedoShelf$Images" ({ cls := "RedoShelf$Images", name := "setWord", desc := "(III)V" } : Jvm.MethodName) ({ cls := "RedoShelf$Images", name := "setWord", desc := "(III)V" } : Jvm.MethodName)) ∈ gW := gW_in (tb_1 (List.mem_of_getElem? (i := 234) rfl)) rfl
theorem gw_1_235 : (Jvm.Cond.code ({ cls := "RedoShelf$Images", name := "setWord", desc := "(III)V" } : Jvm.MethodName) prog_3_method_5_code (4 : Nat) (Option.none : Option Jvm.ClassFile.FieldType)) ∈ gW := gW_in (tb_1 (List.mem_of_getElem? (i := 235) rfl)) rfl
theorem gw_1_236 : (Jvm.Cond.methodLink "RedoShelf" (192 : Nat) ({ cls := "RedoShelf$Images", name := "hold", desc := "(I)V" } : Jvm.MethodName)) ∈ gW := gW_in (tb_1 (List.mem_of_getElem? (i := 236) rfl)) rfl
theorem gw_1_237 : (Jvm.Cond.instanceMethod ({ cls := "RedoShelf$Images", name := "hold", desc := "(I)V" } : Jvm.MethodName)) ∈ gW := gW_in (tb_1 (List.mem_of_getElem? (i := 237) rfl)) rfl
theorem gw_1_238 : (Jvm.Cond.selects "RedoShelf$Images" ({ cls := "RedoShelf$Images", name := "hold", desc := "(I)V" } : Jvm.MethodName) ({ cls := "RedoShelf$Images", name := "hold", desc := "(I)V" } : Jvm.MethodName)) ∈ gW := gW_in (tb_1 (List.mem_of_getElem? (i := 238) rfl)) rfl
theorem gw_1_239 : (Jvm.Cond.code ({ cls := "RedoShelf$Images", name := "hold", desc := "(I)V" } : Jvm.MethodName) prog_3_method_6_code (2 : Nat) (Option.none : Option Jvm.ClassFile.FieldType)) ∈ gW := gW_in (tb_1 (List.mem_of_getElem? (i := 239) rfl)) rfl
theorem gw_1_26 : (Jvm.Cond.fieldLink "RedoShelf$Device" (9 : Nat) "RedoShelf$Device" "sectorWords" "[I") ∈ gW := gW_in (tb_1 (List.mem_of_getElem? (i := 26) rfl)) rfl
theorem gw_1_27 : (Jvm.Cond.fieldLink "RedoShelf$Device" (15 : Nat) "RedoShelf$Device" "entrySector" "[I") ∈ gW := gW_in (tb_1 (List.mem_of_getElem? (i := 27) rfl)) rfl
theorem gw_1_28 : (Jvm.Cond.fieldLink "RedoShelf$Device" (18 : Nat) "RedoShelf$Device" "entryWords" "[I") ∈ gW := gW_in (tb_1 (List.mem_of_getElem? (i := 28) rfl)) rfl
theorem gw_1_29 : (Jvm.Cond.fieldLink "RedoShelf$Device" (21 : Nat) "RedoShelf$Device" "entries" "I") ∈ gW := gW_in (tb_1 (List.mem_of_getElem? (i := 29) rfl)) rfl
theorem gw_1_3 : (Jvm.Cond.initialized "RedoShelf$Images") ∈ gW := gW_in (tb_1 (List.mem_of_getElem? (i := 3) rfl)) rfl
theorem gw_1_4 : (Jvm.Cond.initialized "RedoShelf$Row") ∈ gW := gW_in (tb_1 (List.mem_of_getElem? (i := 4) rfl)) rfl
theorem gw_1_46 : (Jvm.Cond.fieldLink "RedoShelf$Images" (9 : Nat) "RedoShelf$Images" "held" "[Z") ∈ gW := gW_in (tb_1 (List.mem_of_getElem? (i := 46) rfl)) rfl
theorem gw_1_47 : (Jvm.Cond.fieldLink "RedoShelf$Images" (15 : Nat) "RedoShelf$Images" "words" "[I") ∈ gW := gW_in (tb_1 (List.mem_of_getElem? (i := 47) rfl)) rfl
theorem gw_1_48 : (Jvm.Cond.fieldLink "RedoShelf$Images" (19 : Nat) "RedoShelf$Images" "count" "I") ∈ gW := gW_in (tb_1 (List.mem_of_getElem? (i := 48) rfl)) rfl
theorem gw_1_5 : (Jvm.Cond.initialized "RedoShelf$LogReader") ∈ gW := gW_in (tb_1 (List.mem_of_getElem? (i := 5) rfl)) rfl
theorem gw_1_6 : (Jvm.Cond.initialized "RedoShelf$Job") ∈ gW := gW_in (tb_1 (List.mem_of_getElem? (i := 6) rfl)) rfl
theorem gw_1_63 : (Jvm.Cond.fieldLink "RedoShelf$Row" (11 : Nat) "RedoShelf$Row" "words" "[I") ∈ gW := gW_in (tb_1 (List.mem_of_getElem? (i := 63) rfl)) rfl
theorem gw_1_64 : (Jvm.Cond.fieldLink "RedoShelf$Row" (15 : Nat) "RedoShelf$Row" "group" "[I") ∈ gW := gW_in (tb_1 (List.mem_of_getElem? (i := 64) rfl)) rfl
theorem gw_1_65 : (Jvm.Cond.fieldLink "RedoShelf$Row" (18 : Nat) "RedoShelf$Row" "sectors" "I") ∈ gW := gW_in (tb_1 (List.mem_of_getElem? (i := 65) rfl)) rfl
theorem gw_1_66 : (Jvm.Cond.fieldLink "RedoShelf$Row" (22 : Nat) "RedoShelf$Row" "sum" "I") ∈ gW := gW_in (tb_1 (List.mem_of_getElem? (i := 66) rfl)) rfl
theorem gw_1_7 : (Jvm.Cond.initialized "RedoShelfModel") ∈ gW := gW_in (tb_1 (List.mem_of_getElem? (i := 7) rfl)) rfl
theorem gw_1_8 : (Jvm.Cond.initialized "java/util/Arrays") ∈ gW := gW_in (tb_1 (List.mem_of_getElem? (i := 8) rfl)) rfl
theorem gw_1_82 : (Jvm.Cond.fieldLink "RedoShelf$LogReader" (9 : Nat) "RedoShelf$LogReader" "log" "[I") ∈ gW := gW_in (tb_1 (List.mem_of_getElem? (i := 82) rfl)) rfl
theorem gw_1_83 : (Jvm.Cond.fieldLink "RedoShelf$LogReader" (15 : Nat) "RedoShelf$LogReader" "imageOffset" "[I") ∈ gW := gW_in (tb_1 (List.mem_of_getElem? (i := 83) rfl)) rfl
theorem gw_1_84 : (Jvm.Cond.fieldLink "RedoShelf$LogReader" (18 : Nat) "RedoShelf$LogReader" "imageBlock" "[I") ∈ gW := gW_in (tb_1 (List.mem_of_getElem? (i := 84) rfl)) rfl
theorem gw_1_85 : (Jvm.Cond.fieldLink "RedoShelf$LogReader" (21 : Nat) "RedoShelf$LogReader" "imageHidden" "[Z") ∈ gW := gW_in (tb_1 (List.mem_of_getElem? (i := 85) rfl)) rfl
theorem gw_1_86 : (Jvm.Cond.fieldLink "RedoShelf$LogReader" (25 : Nat) "RedoShelf$LogReader" "imageTurn" "[I") ∈ gW := gW_in (tb_1 (List.mem_of_getElem? (i := 86) rfl)) rfl
theorem gw_1_87 : (Jvm.Cond.fieldLink "RedoShelf$LogReader" (28 : Nat) "RedoShelf$LogReader" "lastRevokingTurn" "[I") ∈ gW := gW_in (tb_1 (List.mem_of_getElem? (i := 87) rfl)) rfl
theorem gw_1_88 : (Jvm.Cond.fieldLink "RedoShelf$LogReader" (31 : Nat) "RedoShelf$LogReader" "start" "I") ∈ gW := gW_in (tb_1 (List.mem_of_getElem? (i := 88) rfl)) rfl
theorem gw_1_89 : (Jvm.Cond.fieldLink "RedoShelf$LogReader" (35 : Nat) "RedoShelf$LogReader" "number" "I") ∈ gW := gW_in (tb_1 (List.mem_of_getElem? (i := 89) rfl)) rfl
theorem gw_1_9 : (Jvm.Cond.initialized "java/lang/Math") ∈ gW := gW_in (tb_1 (List.mem_of_getElem? (i := 9) rfl)) rfl
theorem gw_1_90 : (Jvm.Cond.fieldLink "RedoShelf$LogReader" (38 : Nat) "RedoShelf$LogReader" "validSectors" "I") ∈ gW := gW_in (tb_1 (List.mem_of_getElem? (i := 90) rfl)) rfl
theorem gw_1_91 : (Jvm.Cond.fieldLink "RedoShelf$LogReader" (41 : Nat) "RedoShelf$LogReader" "validImages" "I") ∈ gW := gW_in (tb_1 (List.mem_of_getElem? (i := 91) rfl)) rfl
theorem gw_1_92 : (Jvm.Cond.fieldLink "RedoShelf$LogReader" (44 : Nat) "RedoShelf$LogReader" "at" "I") ∈ gW := gW_in (tb_1 (List.mem_of_getElem? (i := 92) rfl)) rfl
theorem gw_1_93 : (Jvm.Cond.fieldLink "RedoShelf$LogReader" (47 : Nat) "RedoShelf$LogReader" "sum" "I") ∈ gW := gW_in (tb_1 (List.mem_of_getElem? (i := 93) rfl)) rfl
theorem gw_1_94 : (Jvm.Cond.fieldLink "RedoShelf$LogReader" (50 : Nat) "RedoShelf$LogReader" "found" "I") ∈ gW := gW_in (tb_1 (List.mem_of_getElem? (i := 94) rfl)) rfl
theorem gw_2_100 : (Jvm.Cond.static ({ cls := "java/util/Arrays", name := "fill", desc := "([II)V" } : Jvm.MethodName)) ∈ gW := gW_in (tb_2 (List.mem_of_getElem? (i := 100) rfl)) rfl
theorem gw_2_101 : (Jvm.Cond.code ({ cls := "java/util/Arrays", name := "fill", desc := "([II)V" } : Jvm.MethodName) prog_11_method_103_code (4 : Nat) (Option.none : Option Jvm.ClassFile.FieldType)) ∈ gW := gW_in (tb_2 (List.mem_of_getElem? (i := 101) rfl)) rfl
theorem gw_2_102 : (Jvm.Cond.methodLink "RedoShelf$LogReader" (71 : Nat) ({ cls := "RedoShelf$LogReader", name := "takeTransaction", desc := "(I)Z" } : Jvm.MethodName)) ∈ gW := gW_in (tb_2 (List.mem_of_getElem? (i := 102) rfl)) rfl
theorem gw_2_104 : (Jvm.Cond.instanceMethod ({ cls := "RedoShelf$LogReader", name := "takeTransaction", desc := "(I)Z" } : Jvm.MethodName)) ∈ gW := gW_in (tb_2 (List.mem_of_getElem? (i := 104) rfl)) rfl
theorem gw_2_105 : (Jvm.Cond.code ({ cls := "RedoShelf$LogReader", name := "takeTransaction", desc := "(I)Z" } : Jvm.MethodName) prog_5_method_11_code (4 : Nat) (Option.some Jvm.ClassFile.FieldType.boolean)) ∈ gW := gW_in (tb_2 (List.mem_of_getElem? (i := 105) rfl)) rfl
theorem gw_2_106 : (Jvm.Cond.methodLink "RedoShelf$LogReader" (84 : Nat) ({ cls := "RedoShelf$LogReader", name := "passGroups", desc := "(I)V" } : Jvm.MethodName)) ∈ gW := gW_in (tb_2 (List.mem_of_getElem? (i := 106) rfl)) rfl
theorem gw_2_108 : (Jvm.Cond.instanceMethod ({ cls := "RedoShelf$LogReader", name := "passGroups", desc := "(I)V" } : Jvm.MethodName)) ∈ gW := gW_in (tb_2 (List.mem_of_getElem? (i := 108) rfl)) rfl
theorem gw_2_109 : (Jvm.Cond.code ({ cls := "RedoShelf$LogReader", name := "passGroups", desc := "(I)V" } : Jvm.MethodName) prog_5_method_12_code (6 : Nat) (Option.none : Option Jvm.ClassFile.FieldType)) ∈ gW := gW_in (tb_2 (List.mem_of_getElem? (i := 109) rfl)) rfl
theorem gw_2_110 : (Jvm.Cond.methodLink "RedoShelf$LogReader" (92 : Nat) ({ cls := "RedoShelf$LogReader", name := "isOwn", desc := "(I)Z" } : Jvm.MethodName)) ∈ gW := gW_in (tb_2 (List.mem_of_getElem? (i := 110) rfl)) rfl
theorem gw_2_112 : (Jvm.Cond.instanceMethod ({ cls := "RedoShelf$LogReader", name := "isOwn", desc := "(I)Z" } : Jvm.MethodName)) ∈ gW := gW_in (tb_2 (List.mem_of_getElem? (i := 112) rfl)) rfl
theorem gw_2_113 : (Jvm.Cond.code ({ cls := "RedoShelf$LogReader", name := "isOwn", desc := "(I)Z" } : Jvm.MethodName) prog_5_method_15_code (2 : Nat) (Option.some Jvm.ClassFile.FieldType.boolean)) ∈ gW := gW_in (tb_2 (List.mem_of_getElem? (i := 113) rfl)) rfl
theorem gw_2_114 : (Jvm.Cond.methodLink "RedoShelf$LogReader" (54 : Nat) ({ cls := "RedoShelf$LogReader", name := "wordAt", desc := "(II)I" } : Jvm.MethodName)) ∈ gW := gW_in (tb_2 (List.mem_of_getElem? (i := 114) rfl)) rfl
theorem gw_2_116 : (Jvm.Cond.instanceMethod ({ cls := "RedoShelf$LogReader", name := "wordAt", desc := "(II)I" } : Jvm.MethodName)) ∈ gW := gW_in (tb_2 (List.mem_of_getElem? (i := 116) rfl)) rfl
theorem gw_2_117 : (Jvm.Cond.code ({ cls := "RedoShelf$LogReader", name := "wordAt", desc := "(II)I" } : Jvm.MethodName) prog_5_method_17_code (3 : Nat) (Option.some Jvm.ClassFile.FieldType.int)) ∈ gW := gW_in (tb_2 (List.mem_of_getElem? (i := 117) rfl)) rfl
theorem gw_2_118 : (Jvm.Cond.methodLink "RedoShelf$LogReader" (95 : Nat) ({ cls := "RedoShelf$LogReader", name := "passSector", desc := "()V" } : Jvm.MethodName)) ∈ gW := gW_in (tb_2 (List.mem_of_getElem? (i := 118) rfl)) rfl
theorem gw_2_12 : (Jvm.Cond.methodLink "RedoShelf" (85 : Nat) ({ cls := "RedoShelf$Device", name := "waiting", desc := "()I" } : Jvm.MethodName)) ∈ gW := gW_in (tb_2 (List.mem_of_getElem? (i := 12) rfl)) rfl
theorem gw_2_120 : (Jvm.Cond.instanceMethod ({ cls := "RedoShelf$LogReader", name := "passSector", desc := "()V" } : Jvm.MethodName)) ∈ gW := gW_in (tb_2 (List.mem_of_getElem? (i := 120) rfl)) rfl
theorem gw_2_121 : (Jvm.Cond.code ({ cls := "RedoShelf$LogReader", name := "passSector", desc := "()V" } : Jvm.MethodName) prog_5_method_16_code (2 : Nat) (Option.none : Option Jvm.ClassFile.FieldType)) ∈ gW := gW_in (tb_2 (List.mem_of_getElem? (i := 121) rfl)) rfl
theorem gw_2_123 : (Jvm.Cond.methodLink "RedoShelf$LogReader" (98 : Nat) ({ cls := "RedoShelf$LogReader", name := "noteImage", desc := "(II)V" } : Jvm.MethodName)) ∈ gW := gW_in (tb_2 (List.mem_of_getElem? (i := 123) rfl)) rfl
theorem gw_2_125 : (Jvm.Cond.instanceMethod ({ cls := "RedoShelf$LogReader", name := "noteImage", desc := "(II)V" } : Jvm.MethodName)) ∈ gW := gW_in (tb_2 (List.mem_of_getElem? (i := 125) rfl)) rfl
theorem gw_2_126 : (Jvm.Cond.code ({ cls := "RedoShelf$LogReader", name := "noteImage", desc := "(II)V" } : Jvm.MethodName) prog_5_method_14_code (3 : Nat) (Option.none : Option Jvm.ClassFile.FieldType)) ∈ gW := gW_in (tb_2 (List.mem_of_getElem? (i := 126) rfl)) rfl
theorem gw_2_127 : (Jvm.Cond.methodLink "RedoShelf$LogReader" (88 : Nat) ({ cls := "RedoShelf$LogReader", name := "passRevocations", desc := "()I" } : Jvm.MethodName)) ∈ gW := gW_in (tb_2 (List.mem_of_getElem? (i := 127) rfl)) rfl
theorem gw_2_129 : (Jvm.Cond.instanceMethod ({ cls := "RedoShelf$LogReader", name := "passRevocations", desc := "()I" } : Jvm.MethodName)) ∈ gW := gW_in (tb_2 (List.mem_of_getElem? (i := 129) rfl)) rfl
theorem gw_2_13 : (Jvm.Cond.instanceMethod ({ cls := "RedoShelf$Device", name := "waiting", desc := "()I" } : Jvm.MethodName)) ∈ gW := gW_in (tb_2 (List.mem_of_getElem? (i := 13) rfl)) rfl
theorem gw_2_130 : (Jvm.Cond.code ({ cls := "RedoShelf$LogReader", name := "passRevocations", desc := "()I" } : Jvm.MethodName) prog_5_method_13_code (2 : Nat) (Option.some Jvm.ClassFile.FieldType.int)) ∈ gW := gW_in (tb_2 (List.mem_of_getElem? (i := 130) rfl)) rfl
theorem gw_2_131 : (Jvm.Cond.methodLink "RedoShelf" (138 : Nat) ({ cls := "RedoShelf$LogReader", name := "size", desc := "()I" } : Jvm.MethodName)) ∈ gW := gW_in (tb_2 (List.mem_of_getElem? (i := 131) rfl)) rfl
theorem gw_2_132 : (Jvm.Cond.instanceMethod ({ cls := "RedoShelf$LogReader", name := "size", desc := "()I" } : Jvm.MethodName)) ∈ gW := gW_in (tb_2 (List.mem_of_getElem? (i := 132) rfl)) rfl
theorem gw_2_133 : (Jvm.Cond.selects "RedoShelf$LogReader" ({ cls := "RedoShelf$LogReader", name := "size", desc := "()I" } : Jvm.MethodName) ({ cls := "RedoShelf$LogReader", name := "size", desc := "()I" } : Jvm.MethodName)) ∈ gW := gW_in (tb_2 (List.mem_of_getElem? (i := 133) rfl)) rfl
theorem gw_2_134 : (Jvm.Cond.code ({ cls := "RedoShelf$LogReader", name := "size", desc := "()I" } : Jvm.MethodName) prog_5_method_2_code (1 : Nat) (Option.some Jvm.ClassFile.FieldType.int)) ∈ gW := gW_in (tb_2 (List.mem_of_getElem? (i := 134) rfl)) rfl
theorem gw_2_135 : (Jvm.Cond.methodLink "RedoShelf" (139 : Nat) ({ cls := "RedoShelf$LogReader", name := "isToReplay", desc := "(I)Z" } : Jvm.MethodName)) ∈ gW := gW_in (tb_2 (List.mem_of_getElem? (i := 135) rfl)) rfl
theorem gw_2_136 : (Jvm.Cond.instanceMethod ({ cls := "RedoShelf$LogReader", name := "isToReplay", desc := "(I)Z" } : Jvm.MethodName)) ∈ gW := gW_in (tb_2 (List.mem_of_getElem? (i := 136) rfl)) rfl
theorem gw_2_137 : (Jvm.Cond.selects "RedoShelf$LogReader" ({ cls := "RedoShelf$LogReader", name := "isToReplay", desc := "(I)Z" } : Jvm.MethodName) ({ cls := "RedoShelf$LogReader", name := "isToReplay", desc := "(I)Z" } : Jvm.MethodName)) ∈ gW := gW_in (tb_2 (List.mem_of_getElem? (i := 137) rfl)) rfl
theorem gw_2_138 : (Jvm.Cond.code ({ cls := "RedoShelf$LogReader", name := "isToReplay", desc := "(I)Z" } : Jvm.MethodName) prog_5_method_5_code (2 : Nat) (Option.some Jvm.ClassFile.FieldType.boolean)) ∈ gW := gW_in (tb_2 (List.mem_of_getElem? (i := 138) rfl)) rfl
theorem gw_2_139 : (Jvm.Cond.methodLink "RedoShelf" (142 : Nat) ({ cls := "RedoShelf$LogReader", name := "block", desc := "(I)I" } : Jvm.MethodName)) ∈ gW := gW_in (tb_2 (List.mem_of_getElem? (i := 139) rfl)) rfl
theorem gw_2_14 : (Jvm.Cond.selects "RedoShelf$Device" ({ cls := "RedoShelf$Device", name := "waiting", desc := "()I" } : Jvm.MethodName) ({ cls := "RedoShelf$Device", name := "waiting", desc := "()I" } : Jvm.MethodName)) ∈ gW := gW_in (tb_2 (List.mem_of_getElem? (i := 14) rfl)) rfl
theorem gw_2_140 : (Jvm.Cond.instanceMethod ({ cls := "RedoShelf$LogReader", name := "block", desc := "(I)I" } : Jvm.MethodName)) ∈ gW := gW_in (tb_2 (List.mem_of_getElem? (i := 140) rfl)) rfl
theorem gw_2_141 : (Jvm.Cond.selects "RedoShelf$LogReader" ({ cls := "RedoShelf$LogReader", name := "block", desc := "(I)I" } : Jvm.MethodName) ({ cls := "RedoShelf$LogReader", name := "block", desc := "(I)I" } : Jvm.MethodName)) ∈ gW := gW_in (tb_2 (List.mem_of_getElem? (i := 141) rfl)) rfl
theorem gw_2_142 : (Jvm.Cond.code ({ cls := "RedoShelf$LogReader", name := "block", desc := "(I)I" } : Jvm.MethodName) prog_5_method_3_code (2 : Nat) (Option.some Jvm.ClassFile.FieldType.int)) ∈ gW := gW_in (tb_2 (List.mem_of_getElem? (i := 142) rfl)) rfl
theorem gw_2_143 : (Jvm.Cond.methodLink "RedoShelf" (146 : Nat) ({ cls := "RedoShelf$LogReader", name := "word", desc := "(II)I" } : Jvm.MethodName)) ∈ gW := gW_in (tb_2 (List.mem_of_getElem? (i := 143) rfl)) rfl
theorem gw_2_144 : (Jvm.Cond.instanceMethod ({ cls := "RedoShelf$LogReader", name := "word", desc := "(II)I" } : Jvm.MethodName)) ∈ gW := gW_in (tb_2 (List.mem_of_getElem? (i := 144) rfl)) rfl
theorem gw_2_145 : (Jvm.Cond.selects "RedoShelf$LogReader" ({ cls := "RedoShelf$LogReader", name := "word", desc := "(II)I" } : Jvm.MethodName) ({ cls := "RedoShelf$LogReader", name := "word", desc := "(II)I" } : Jvm.MethodName)) ∈ gW := gW_in (tb_2 (List.mem_of_getElem? (i := 145) rfl)) rfl
theorem gw_2_146 : (Jvm.Cond.code ({ cls := "RedoShelf$LogReader", name := "word", desc := "(II)I" } : Jvm.MethodName) prog_5_method_4_code (3 : Nat) (Option.some Jvm.ClassFile.FieldType.int)) ∈ gW := gW_in (tb_2 (List.mem_of_getElem? (i := 146) rfl)) rfl
theorem gw_2_147 : (Jvm.Cond.methodLink "RedoShelf" (147 : Nat) ({ cls := "RedoShelf$LogReader", name := "numberBehind", desc := "()I" } : Jvm.MethodName)) ∈ gW := gW_in (tb_2 (List.mem_of_getElem? (i := 147) rfl)) rfl
theorem gw_2_148 : (Jvm.Cond.instanceMethod ({ cls := "RedoShelf$LogReader", name := "numberBehind", desc := "()I" } : Jvm.MethodName)) ∈ gW := gW_in (tb_2 (List.mem_of_getElem? (i := 148) rfl)) rfl
theorem gw_2_149 : (Jvm.Cond.selects "RedoShelf$LogReader" ({ cls := "RedoShelf$LogReader", name := "numberBehind", desc := "()I" } : Jvm.MethodName) ({ cls := "RedoShelf$LogReader", name := "numberBehind", desc := "()I" } : Jvm.MethodName)) ∈ gW := gW_in (tb_2 (List.mem_of_getElem? (i := 149) rfl)) rfl
theorem gw_2_15 : (Jvm.Cond.code ({ cls := "RedoShelf$Device", name := "waiting", desc := "()I" } : Jvm.MethodName) prog_2_method_2_code (1 : Nat) (Option.some Jvm.ClassFile.FieldType.int)) ∈ gW := gW_in (tb_2 (List.mem_of_getElem? (i := 15) rfl)) rfl
theorem gw_2_150 : (Jvm.Cond.code ({ cls := "RedoShelf$LogReader", name := "numberBehind", desc := "()I" } : Jvm.MethodName) prog_5_method_6_code (1 : Nat) (Option.some Jvm.ClassFile.FieldType.int)) ∈ gW := gW_in (tb_2 (List.mem_of_getElem? (i := 150) rfl)) rfl
theorem gw_2_151 : (Jvm.Cond.methodLink "RedoShelf" (150 : Nat) ({ cls := "RedoShelf$LogReader", name := "placeBehind", desc := "()I" } : Jvm.MethodName)) ∈ gW := gW_in (tb_2 (List.mem_of_getElem? (i := 151) rfl)) rfl
theorem gw_2_152 : (Jvm.Cond.instanceMethod ({ cls := "RedoShelf$LogReader", name := "placeBehind", desc := "()I" } : Jvm.MethodName)) ∈ gW := gW_in (tb_2 (List.mem_of_getElem? (i := 152) rfl)) rfl
theorem gw_2_153 : (Jvm.Cond.selects "RedoShelf$LogReader" ({ cls := "RedoShelf$LogReader", name := "placeBehind", desc := "()I" } : Jvm.MethodName) ({ cls := "RedoShelf$LogReader", name := "placeBehind", desc := "()I" } : Jvm.MethodName)) ∈ gW := gW_in (tb_2 (List.mem_of_getElem? (i := 153) rfl)) rfl
theorem gw_2_154 : (Jvm.Cond.code ({ cls := "RedoShelf$LogReader", name := "placeBehind", desc := "()I" } : Jvm.MethodName) prog_5_method_7_code (1 : Nat) (Option.some Jvm.ClassFile.FieldType.int)) ∈ gW := gW_in (tb_2 (List.mem_of_getElem? (i := 154) rfl)) rfl
theorem gw_2_159 : (Jvm.Cond.methodLink "RedoShelf" (153 : Nat) ({ cls := "RedoShelf$Job", name := "remaining", desc := "()I" } : Jvm.MethodName)) ∈ gW := gW_in (tb_2 (List.mem_of_getElem? (i := 159) rfl)) rfl
theorem gw_2_16 : (Jvm.Cond.methodLink "RedoShelf" (88 : Nat) ({ cls := "RedoShelf$Device", name := "writeChanged", desc := "(III)V" } : Jvm.MethodName)) ∈ gW := gW_in (tb_2 (List.mem_of_getElem? (i := 16) rfl)) rfl
theorem gw_2_160 : (Jvm.Cond.instanceMethod ({ cls := "RedoShelf$Job", name := "remaining", desc := "()I" } : Jvm.MethodName)) ∈ gW := gW_in (tb_2 (List.mem_of_getElem? (i := 160) rfl)) rfl
theorem gw_2_161 : (Jvm.Cond.selects "RedoShelf$Job" ({ cls := "RedoShelf$Job", name := "remaining", desc := "()I" } : Jvm.MethodName) ({ cls := "RedoShelf$Job", name := "remaining", desc := "()I" } : Jvm.MethodName)) ∈ gW := gW_in (tb_2 (List.mem_of_getElem? (i := 161) rfl)) rfl
theorem gw_2_162 : (Jvm.Cond.code ({ cls := "RedoShelf$Job", name := "remaining", desc := "()I" } : Jvm.MethodName) prog_4_method_4_code (1 : Nat) (Option.some Jvm.ClassFile.FieldType.int)) ∈ gW := gW_in (tb_2 (List.mem_of_getElem? (i := 162) rfl)) rfl
theorem gw_2_163 : (Jvm.Cond.methodLink "RedoShelf" (156 : Nat) ({ cls := "java/lang/Math", name := "min", desc := "(II)I" } : Jvm.MethodName)) ∈ gW := gW_in (tb_2 (List.mem_of_getElem? (i := 163) rfl)) rfl
theorem gw_2_164 : (Jvm.Cond.static ({ cls := "java/lang/Math", name := "min", desc := "(II)I" } : Jvm.MethodName)) ∈ gW := gW_in (tb_2 (List.mem_of_getElem? (i := 164) rfl)) rfl
theorem gw_2_165 : (Jvm.Cond.code ({ cls := "java/lang/Math", name := "min", desc := "(II)I" } : Jvm.MethodName) prog_9_method_69_code (2 : Nat) (Option.some Jvm.ClassFile.FieldType.int)) ∈ gW := gW_in (tb_2 (List.mem_of_getElem? (i := 165) rfl)) rfl
theorem gw_2_166 : (Jvm.Cond.methodLink "RedoShelf" (161 : Nat) ({ cls := "RedoShelf$Job", name := "doNext", desc := "(LRedoShelf$Device;)V" } : Jvm.MethodName)) ∈ gW := gW_in (tb_2 (List.mem_of_getElem? (i := 166) rfl)) rfl
theorem gw_2_167 : (Jvm.Cond.instanceMethod ({ cls := "RedoShelf$Job", name := "doNext", desc := "(LRedoShelf$Device;)V" } : Jvm.MethodName)) ∈ gW := gW_in (tb_2 (List.mem_of_getElem? (i := 167) rfl)) rfl
theorem gw_2_168 : (Jvm.Cond.selects "RedoShelf$Job" ({ cls := "RedoShelf$Job", name := "doNext", desc := "(LRedoShelf$Device;)V" } : Jvm.MethodName) ({ cls := "RedoShelf$Job", name := "doNext", desc := "(LRedoShelf$Device;)V" } : Jvm.MethodName)) ∈ gW := gW_in (tb_2 (List.mem_of_getElem? (i := 168) rfl)) rfl
theorem gw_2_169 : (Jvm.Cond.code ({ cls := "RedoShelf$Job", name := "doNext", desc := "(LRedoShelf$Device;)V" } : Jvm.MethodName) prog_4_method_9_code (2 : Nat) (Option.none : Option Jvm.ClassFile.FieldType)) ∈ gW := gW_in (tb_2 (List.mem_of_getElem? (i := 169) rfl)) rfl
theorem gw_2_17 : (Jvm.Cond.instanceMethod ({ cls := "RedoShelf$Device", name := "writeChanged", desc := "(III)V" } : Jvm.MethodName)) ∈ gW := gW_in (tb_2 (List.mem_of_getElem? (i := 17) rfl)) rfl
theorem gw_2_170 : (Jvm.Cond.methodLink "RedoShelf$Job" (32 : Nat) ({ cls := "RedoShelf$Device", name := "flush", desc := "()V" } : Jvm.MethodName)) ∈ gW := gW_in (tb_2 (List.mem_of_getElem? (i := 170) rfl)) rfl
theorem gw_2_171 : (Jvm.Cond.instanceMethod ({ cls := "RedoShelf$Device", name := "flush", desc := "()V" } : Jvm.MethodName)) ∈ gW := gW_in (tb_2 (List.mem_of_getElem? (i := 171) rfl)) rfl
theorem gw_2_172 : (Jvm.Cond.selects "RedoShelf$Device" ({ cls := "RedoShelf$Device", name := "flush", desc := "()V" } : Jvm.MethodName) ({ cls := "RedoShelf$Device", name := "flush", desc := "()V" } : Jvm.MethodName)) ∈ gW := gW_in (tb_2 (List.mem_of_getElem? (i := 172) rfl)) rfl
theorem gw_2_173 : (Jvm.Cond.code ({ cls := "RedoShelf$Device", name := "flush", desc := "()V" } : Jvm.MethodName) prog_2_method_7_code (2 : Nat) (Option.none : Option Jvm.ClassFile.FieldType)) ∈ gW := gW_in (tb_2 (List.mem_of_getElem? (i := 173) rfl)) rfl
theorem gw_2_174 : (Jvm.Cond.methodLink "RedoShelf$Device" (39 : Nat) ({ cls := "RedoShelf$Device", name := "settle", desc := "(II)V" } : Jvm.MethodName)) ∈ gW := gW_in (tb_2 (List.mem_of_getElem? (i := 174) rfl)) rfl
theorem gw_2_176 : (Jvm.Cond.instanceMethod ({ cls := "RedoShelf$Device", name := "settle", desc := "(II)V" } : Jvm.MethodName)) ∈ gW := gW_in (tb_2 (List.mem_of_getElem? (i := 176) rfl)) rfl
theorem gw_2_177 : (Jvm.Cond.code ({ cls := "RedoShelf$Device", name := "settle", desc := "(II)V" } : Jvm.MethodName) prog_2_method_10_code (3 : Nat) (Option.none : Option Jvm.ClassFile.FieldType)) ∈ gW := gW_in (tb_2 (List.mem_of_getElem? (i := 177) rfl)) rfl
theorem gw_2_178 : (Jvm.Cond.methodLink "RedoShelf$Device" (30 : Nat) ({ cls := "java/lang/System", name := "arraycopy", desc := "(Ljava/lang/Object;ILjava/lang/Object;II)V" } : Jvm.MethodName)) ∈ gW := gW_in (tb_2 (List.mem_of_getElem? (i := 178) rfl)) rfl
theorem gw_2_179 : (Jvm.Cond.static ({ cls := "java/lang/System", name := "arraycopy", desc := "(Ljava/lang/Object;ILjava/lang/Object;II)V" } : Jvm.MethodName)) ∈ gW := gW_in (tb_2 (List.mem_of_getElem? (i := 179) rfl)) rfl
theorem gw_2_18 : (Jvm.Cond.selects "RedoShelf$Device" ({ cls := "RedoShelf$Device", name := "writeChanged", desc := "(III)V" } : Jvm.MethodName) ({ cls := "RedoShelf$Device", name := "writeChanged", desc := "(III)V" } : Jvm.MethodName)) ∈ gW := gW_in (tb_2 (List.mem_of_getElem? (i := 18) rfl)) rfl
theorem gw_2_180 : (Jvm.Cond.native ({ cls := "java/lang/System", name := "arraycopy", desc := "(Ljava/lang/Object;ILjava/lang/Object;II)V" } : Jvm.MethodName)) ∈ gW := gW_in (tb_2 (List.mem_of_getElem? (i := 180) rfl)) rfl
theorem gw_2_181 : (Jvm.Cond.methodLink "RedoShelf$Job" (37 : Nat) ({ cls := "RedoShelf$Device", name := "write", desc := "(I[II)V" } : Jvm.MethodName)) ∈ gW := gW_in (tb_2 (List.mem_of_getElem? (i := 181) rfl)) rfl
theorem gw_2_182 : (Jvm.Cond.instanceMethod ({ cls := "RedoShelf$Device", name := "write", desc := "(I[II)V" } : Jvm.MethodName)) ∈ gW := gW_in (tb_2 (List.mem_of_getElem? (i := 182) rfl)) rfl
theorem gw_2_183 : (Jvm.Cond.selects "RedoShelf$Device" ({ cls := "RedoShelf$Device", name := "write", desc := "(I[II)V" } : Jvm.MethodName) ({ cls := "RedoShelf$Device", name := "write", desc := "(I[II)V" } : Jvm.MethodName)) ∈ gW := gW_in (tb_2 (List.mem_of_getElem? (i := 183) rfl)) rfl
theorem gw_2_184 : (Jvm.Cond.code ({ cls := "RedoShelf$Device", name := "write", desc := "(I[II)V" } : Jvm.MethodName) prog_2_method_5_code (4 : Nat) (Option.none : Option Jvm.ClassFile.FieldType)) ∈ gW := gW_in (tb_2 (List.mem_of_getElem? (i := 184) rfl)) rfl
theorem gw_2_185 : (Jvm.Cond.methodLink "RedoShelf" (164 : Nat) ({ cls := "RedoShelf", name := "finishJob", desc := "()V" } : Jvm.MethodName)) ∈ gW := gW_in (tb_2 (List.mem_of_getElem? (i := 185) rfl)) rfl
theorem gw_2_187 : (Jvm.Cond.instanceMethod ({ cls := "RedoShelf", name := "finishJob", desc := "()V" } : Jvm.MethodName)) ∈ gW := gW_in (tb_2 (List.mem_of_getElem? (i := 187) rfl)) rfl
theorem gw_2_188 : (Jvm.Cond.code ({ cls := "RedoShelf", name := "finishJob", desc := "()V" } : Jvm.MethodName) prog_1_method_30_code (2 : Nat) (Option.none : Option Jvm.ClassFile.FieldType)) ∈ gW := gW_in (tb_2 (List.mem_of_getElem? (i := 188) rfl)) rfl
theorem gw_2_189 : (Jvm.Cond.methodLink "RedoShelf" (185 : Nat) ({ cls := "RedoShelf$Job", name := "kind", desc := "()I" } : Jvm.MethodName)) ∈ gW := gW_in (tb_2 (List.mem_of_getElem? (i := 189) rfl)) rfl
theorem gw_2_19 : (Jvm.Cond.code ({ cls := "RedoShelf$Device", name := "writeChanged", desc := "(III)V" } : Jvm.MethodName) prog_2_method_6_code (6 : Nat) (Option.none : Option Jvm.ClassFile.FieldType)) ∈ gW := gW_in (tb_2 (List.mem_of_getElem? (i := 19) rfl)) rfl
theorem gw_2_190 : (Jvm.Cond.instanceMethod ({ cls := "RedoShelf$Job", name := "kind", desc := "()I" } : Jvm.MethodName)) ∈ gW := gW_in (tb_2 (List.mem_of_getElem? (i := 190) rfl)) rfl
theorem gw_2_191 : (Jvm.Cond.selects "RedoShelf$Job" ({ cls := "RedoShelf$Job", name := "kind", desc := "()I" } : Jvm.MethodName) ({ cls := "RedoShelf$Job", name := "kind", desc := "()I" } : Jvm.MethodName)) ∈ gW := gW_in (tb_2 (List.mem_of_getElem? (i := 191) rfl)) rfl
theorem gw_2_192 : (Jvm.Cond.code ({ cls := "RedoShelf$Job", name := "kind", desc := "()I" } : Jvm.MethodName) prog_4_method_3_code (1 : Nat) (Option.some Jvm.ClassFile.FieldType.int)) ∈ gW := gW_in (tb_2 (List.mem_of_getElem? (i := 192) rfl)) rfl
theorem gw_2_193 : (Jvm.Cond.methodLink "RedoShelf" (167 : Nat) ({ cls := "RedoShelf$Job", name := "end", desc := "()V" } : Jvm.MethodName)) ∈ gW := gW_in (tb_2 (List.mem_of_getElem? (i := 193) rfl)) rfl
theorem gw_2_194 : (Jvm.Cond.instanceMethod ({ cls := "RedoShelf$Job", name := "end", desc := "()V" } : Jvm.MethodName)) ∈ gW := gW_in (tb_2 (List.mem_of_getElem? (i := 194) rfl)) rfl
theorem gw_2_195 : (Jvm.Cond.selects "RedoShelf$Job" ({ cls := "RedoShelf$Job", name := "end", desc := "()V" } : Jvm.MethodName) ({ cls := "RedoShelf$Job", name := "end", desc := "()V" } : Jvm.MethodName)) ∈ gW := gW_in (tb_2 (List.mem_of_getElem? (i := 195) rfl)) rfl
theorem gw_2_196 : (Jvm.Cond.code ({ cls := "RedoShelf$Job", name := "end", desc := "()V" } : Jvm.MethodName) prog_4_method_6_code (1 : Nat) (Option.none : Option Jvm.ClassFile.FieldType)) ∈ gW := gW_in (tb_2 (List.mem_of_getElem? (i := 196) rfl)) rfl
theorem gw_2_197 : (Jvm.Cond.methodLink "RedoShelf$Job" (28 : Nat) ({ cls := "RedoShelf$Job", name := "begin", desc := "(I)V" } : Jvm.MethodName)) ∈ gW := gW_in (tb_2 (List.mem_of_getElem? (i := 197) rfl)) rfl
theorem gw_2_198 : (Jvm.Cond.methodLink "RedoShelf" (200 : Nat) ({ cls := "RedoShelf", name := "finishCommit", desc := "()V" } : Jvm.MethodName)) ∈ gW := gW_in (tb_2 (List.mem_of_getElem? (i := 198) rfl)) rfl
theorem gw_2_20 : (Jvm.Cond.methodLink "RedoShelf$Device" (36 : Nat) ({ cls := "RedoShelf$Device", name := "newestWord", desc := "(II)I" } : Jvm.MethodName)) ∈ gW := gW_in (tb_2 (List.mem_of_getElem? (i := 20) rfl)) rfl
theorem gw_2_200 : (Jvm.Cond.instanceMethod ({ cls := "RedoShelf", name := "finishCommit", desc := "()V" } : Jvm.MethodName)) ∈ gW := gW_in (tb_2 (List.mem_of_getElem? (i := 200) rfl)) rfl
theorem gw_2_201 : (Jvm.Cond.code ({ cls := "RedoShelf", name := "finishCommit", desc := "()V" } : Jvm.MethodName) prog_1_method_31_code (2 : Nat) (Option.none : Option Jvm.ClassFile.FieldType)) ∈ gW := gW_in (tb_2 (List.mem_of_getElem? (i := 201) rfl)) rfl
theorem gw_2_202 : (Jvm.Cond.methodLink "RedoShelf" (206 : Nat) ({ cls := "RedoShelf$Images", name := "copyFrom", desc := "(LRedoShelf$Images;I)V" } : Jvm.MethodName)) ∈ gW := gW_in (tb_2 (List.mem_of_getElem? (i := 202) rfl)) rfl
theorem gw_2_203 : (Jvm.Cond.instanceMethod ({ cls := "RedoShelf$Images", name := "copyFrom", desc := "(LRedoShelf$Images;I)V" } : Jvm.MethodName)) ∈ gW := gW_in (tb_2 (List.mem_of_getElem? (i := 203) rfl)) rfl
theorem gw_2_204 : (Jvm.Cond.selects "RedoShelf$Images" ({ cls := "RedoShelf$Images", name := "copyFrom", desc := "(LRedoShelf$Images;I)V" } : Jvm.MethodName) ({ cls := "RedoShelf$Images", name := "copyFrom", desc := "(LRedoShelf$Images;I)V" } : Jvm.MethodName)) ∈ gW := gW_in (tb_2 (List.mem_of_getElem? (i := 204) rfl)) rfl
theorem gw_2_205 : (Jvm.Cond.code ({ cls := "RedoShelf$Images", name := "copyFrom", desc := "(LRedoShelf$Images;I)V" } : Jvm.MethodName) prog_3_method_8_code (3 : Nat) (Option.none : Option Jvm.ClassFile.FieldType)) ∈ gW := gW_in (tb_2 (List.mem_of_getElem? (i := 205) rfl)) rfl
theorem gw_2_206 : (Jvm.Cond.methodLink "RedoShelf$Images" (23 : Nat) ({ cls := "java/lang/System", name := "arraycopy", desc := "(Ljava/lang/Object;ILjava/lang/Object;II)V" } : Jvm.MethodName)) ∈ gW := gW_in (tb_2 (List.mem_of_getElem? (i := 206) rfl)) rfl
theorem gw_2_207 : (Jvm.Cond.methodLink "RedoShelf$Images" (29 : Nat) ({ cls := "RedoShelf$Images", name := "hold", desc := "(I)V" } : Jvm.MethodName)) ∈ gW := gW_in (tb_2 (List.mem_of_getElem? (i := 207) rfl)) rfl
theorem gw_2_208 : (Jvm.Cond.methodLink "RedoShelf" (188 : Nat) ({ cls := "RedoShelf", name := "isRevoked", desc := "(I)Z" } : Jvm.MethodName)) ∈ gW := gW_in (tb_2 (List.mem_of_getElem? (i := 208) rfl)) rfl
theorem gw_2_210 : (Jvm.Cond.instanceMethod ({ cls := "RedoShelf", name := "isRevoked", desc := "(I)Z" } : Jvm.MethodName)) ∈ gW := gW_in (tb_2 (List.mem_of_getElem? (i := 210) rfl)) rfl
theorem gw_2_211 : (Jvm.Cond.code ({ cls := "RedoShelf", name := "isRevoked", desc := "(I)Z" } : Jvm.MethodName) prog_1_method_25_code (2 : Nat) (Option.some Jvm.ClassFile.FieldType.boolean)) ∈ gW := gW_in (tb_2 (List.mem_of_getElem? (i := 211) rfl)) rfl
theorem gw_2_216 : (Jvm.Cond.methodLink "RedoShelf" (170 : Nat) ({ cls := "RedoShelf$Device", name := "breakDown", desc := "(II)I" } : Jvm.MethodName)) ∈ gW := gW_in (tb_2 (List.mem_of_getElem? (i := 216) rfl)) rfl
theorem gw_2_217 : (Jvm.Cond.instanceMethod ({ cls := "RedoShelf$Device", name := "breakDown", desc := "(II)I" } : Jvm.MethodName)) ∈ gW := gW_in (tb_2 (List.mem_of_getElem? (i := 217) rfl)) rfl
theorem gw_2_218 : (Jvm.Cond.selects "RedoShelf$Device" ({ cls := "RedoShelf$Device", name := "breakDown", desc := "(II)I" } : Jvm.MethodName) ({ cls := "RedoShelf$Device", name := "breakDown", desc := "(II)I" } : Jvm.MethodName)) ∈ gW := gW_in (tb_2 (List.mem_of_getElem? (i := 218) rfl)) rfl
theorem gw_2_219 : (Jvm.Cond.code ({ cls := "RedoShelf$Device", name := "breakDown", desc := "(II)I" } : Jvm.MethodName) prog_2_method_8_code (7 : Nat) (Option.some Jvm.ClassFile.FieldType.int)) ∈ gW := gW_in (tb_2 (List.mem_of_getElem? (i := 219) rfl)) rfl
theorem gw_2_220 : (Jvm.Cond.methodLink "RedoShelf$Device" (43 : Nat) ({ cls := "RedoShelf$Device", name := "isKept", desc := "(II)Z" } : Jvm.MethodName)) ∈ gW := gW_in (tb_2 (List.mem_of_getElem? (i := 220) rfl)) rfl
theorem gw_2_221 : (Jvm.Cond.static ({ cls := "RedoShelf$Device", name := "isKept", desc := "(II)Z" } : Jvm.MethodName)) ∈ gW := gW_in (tb_2 (List.mem_of_getElem? (i := 221) rfl)) rfl
theorem gw_2_222 : (Jvm.Cond.code ({ cls := "RedoShelf$Device", name := "isKept", desc := "(II)Z" } : Jvm.MethodName) prog_2_method_9_code (2 : Nat) (Option.some Jvm.ClassFile.FieldType.boolean)) ∈ gW := gW_in (tb_2 (List.mem_of_getElem? (i := 222) rfl)) rfl
theorem gw_2_231 : (Jvm.Cond.methodLink "RedoShelf" (176 : Nat) ({ cls := "RedoShelf", name := "isSectorWord", desc := "(II)Z" } : Jvm.MethodName)) ∈ gW := gW_in (tb_2 (List.mem_of_getElem? (i := 231) rfl)) rfl
theorem gw_2_232 : (Jvm.Cond.static ({ cls := "RedoShelf", name := "isSectorWord", desc := "(II)Z" } : Jvm.MethodName)) ∈ gW := gW_in (tb_2 (List.mem_of_getElem? (i := 232) rfl)) rfl
theorem gw_2_233 : (Jvm.Cond.code ({ cls := "RedoShelf", name := "isSectorWord", desc := "(II)Z" } : Jvm.MethodName) prog_1_method_21_code (2 : Nat) (Option.some Jvm.ClassFile.FieldType.boolean)) ∈ gW := gW_in (tb_2 (List.mem_of_getElem? (i := 233) rfl)) rfl
theorem gw_2_238 : (Jvm.Cond.methodLink "RedoShelf" (182 : Nat) ({ cls := "RedoShelf$Device", name := "ownWord", desc := "(II)I" } : Jvm.MethodName)) ∈ gW := gW_in (tb_2 (List.mem_of_getElem? (i := 238) rfl)) rfl
theorem gw_2_25 : (Jvm.Cond.methodLink "RedoShelf" (94 : Nat) ({ cls := "RedoShelf$Row", name := "build", desc := "(LRedoShelf$Images;II)V" } : Jvm.MethodName)) ∈ gW := gW_in (tb_2 (List.mem_of_getElem? (i := 25) rfl)) rfl
theorem gw_2_26 : (Jvm.Cond.instanceMethod ({ cls := "RedoShelf$Row", name := "build", desc := "(LRedoShelf$Images;II)V" } : Jvm.MethodName)) ∈ gW := gW_in (tb_2 (List.mem_of_getElem? (i := 26) rfl)) rfl
theorem gw_2_27 : (Jvm.Cond.selects "RedoShelf$Row" ({ cls := "RedoShelf$Row", name := "build", desc := "(LRedoShelf$Images;II)V" } : Jvm.MethodName) ({ cls := "RedoShelf$Row", name := "build", desc := "(LRedoShelf$Images;II)V" } : Jvm.MethodName)) ∈ gW := gW_in (tb_2 (List.mem_of_getElem? (i := 27) rfl)) rfl
theorem gw_2_28 : (Jvm.Cond.code ({ cls := "RedoShelf$Row", name := "build", desc := "(LRedoShelf$Images;II)V" } : Jvm.MethodName) prog_6_method_4_code (6 : Nat) (Option.none : Option Jvm.ClassFile.FieldType)) ∈ gW := gW_in (tb_2 (List.mem_of_getElem? (i := 28) rfl)) rfl
theorem gw_2_29 : (Jvm.Cond.methodLink "RedoShelf$Row" (25 : Nat) ({ cls := "RedoShelf$Images", name := "holds", desc := "(I)Z" } : Jvm.MethodName)) ∈ gW := gW_in (tb_2 (List.mem_of_getElem? (i := 29) rfl)) rfl
theorem gw_2_30 : (Jvm.Cond.methodLink "RedoShelf$Row" (31 : Nat) ({ cls := "RedoShelf$Row", name := "addGroup", desc := "(LRedoShelf$Images;II)V" } : Jvm.MethodName)) ∈ gW := gW_in (tb_2 (List.mem_of_getElem? (i := 30) rfl)) rfl
theorem gw_2_32 : (Jvm.Cond.instanceMethod ({ cls := "RedoShelf$Row", name := "addGroup", desc := "(LRedoShelf$Images;II)V" } : Jvm.MethodName)) ∈ gW := gW_in (tb_2 (List.mem_of_getElem? (i := 32) rfl)) rfl
theorem gw_2_33 : (Jvm.Cond.code ({ cls := "RedoShelf$Row", name := "addGroup", desc := "(LRedoShelf$Images;II)V" } : Jvm.MethodName) prog_6_method_5_code (8 : Nat) (Option.none : Option Jvm.ClassFile.FieldType)) ∈ gW := gW_in (tb_2 (List.mem_of_getElem? (i := 33) rfl)) rfl
theorem gw_2_34 : (Jvm.Cond.methodLink "RedoShelf$Row" (40 : Nat) ({ cls := "RedoShelf$Images", name := "word", desc := "(II)I" } : Jvm.MethodName)) ∈ gW := gW_in (tb_2 (List.mem_of_getElem? (i := 34) rfl)) rfl
theorem gw_2_35 : (Jvm.Cond.constant "RedoShelf$Row" (35 : Nat) (77001 : Int32)) ∈ gW := gW_in (tb_2 (List.mem_of_getElem? (i := 35) rfl)) rfl
theorem gw_2_36 : (Jvm.Cond.methodLink "RedoShelf$Row" (36 : Nat) ({ cls := "RedoShelf$Row", name := "add", desc := "(IIII)V" } : Jvm.MethodName)) ∈ gW := gW_in (tb_2 (List.mem_of_getElem? (i := 36) rfl)) rfl
theorem gw_2_38 : (Jvm.Cond.instanceMethod ({ cls := "RedoShelf$Row", name := "add", desc := "(IIII)V" } : Jvm.MethodName)) ∈ gW := gW_in (tb_2 (List.mem_of_getElem? (i := 38) rfl)) rfl
theorem gw_2_39 : (Jvm.Cond.code ({ cls := "RedoShelf$Row", name := "add", desc := "(IIII)V" } : Jvm.MethodName) prog_6_method_6_code (6 : Nat) (Option.none : Option Jvm.ClassFile.FieldType)) ∈ gW := gW_in (tb_2 (List.mem_of_getElem? (i := 39) rfl)) rfl
theorem gw_2_4 : (Jvm.Cond.methodLink "RedoShelf" (78 : Nat) ({ cls := "RedoShelf$Images", name := "drop", desc := "(I)V" } : Jvm.MethodName)) ∈ gW := gW_in (tb_2 (List.mem_of_getElem? (i := 4) rfl)) rfl
theorem gw_2_41 : (Jvm.Cond.static ({ cls := "RedoShelf", name := "mix", desc := "(II)I" } : Jvm.MethodName)) ∈ gW := gW_in (tb_2 (List.mem_of_getElem? (i := 41) rfl)) rfl
theorem gw_2_42 : (Jvm.Cond.code ({ cls := "RedoShelf", name := "mix", desc := "(II)I" } : Jvm.MethodName) prog_1_method_22_code (3 : Nat) (Option.some Jvm.ClassFile.FieldType.int)) ∈ gW := gW_in (tb_2 (List.mem_of_getElem? (i := 42) rfl)) rfl
theorem gw_2_43 : (Jvm.Cond.constant "RedoShelf" (191 : Nat) (40503 : Int32)) ∈ gW := gW_in (tb_2 (List.mem_of_getElem? (i := 43) rfl)) rfl
theorem gw_2_44 : (Jvm.Cond.methodLink "RedoShelf" (101 : Nat) ({ cls := "RedoShelf$Row", name := "length", desc := "()I" } : Jvm.MethodName)) ∈ gW := gW_in (tb_2 (List.mem_of_getElem? (i := 44) rfl)) rfl
theorem gw_2_45 : (Jvm.Cond.instanceMethod ({ cls := "RedoShelf$Row", name := "length", desc := "()I" } : Jvm.MethodName)) ∈ gW := gW_in (tb_2 (List.mem_of_getElem? (i := 45) rfl)) rfl
theorem gw_2_46 : (Jvm.Cond.selects "RedoShelf$Row" ({ cls := "RedoShelf$Row", name := "length", desc := "()I" } : Jvm.MethodName) ({ cls := "RedoShelf$Row", name := "length", desc := "()I" } : Jvm.MethodName)) ∈ gW := gW_in (tb_2 (List.mem_of_getElem? (i := 46) rfl)) rfl
theorem gw_2_47 : (Jvm.Cond.code ({ cls := "RedoShelf$Row", name := "length", desc := "()I" } : Jvm.MethodName) prog_6_method_2_code (1 : Nat) (Option.some Jvm.ClassFile.FieldType.int)) ∈ gW := gW_in (tb_2 (List.mem_of_getElem? (i := 47) rfl)) rfl
theorem gw_2_48 : (Jvm.Cond.methodLink "RedoShelf" (104 : Nat) ({ cls := "RedoShelf$Job", name := "begin", desc := "(I)V" } : Jvm.MethodName)) ∈ gW := gW_in (tb_2 (List.mem_of_getElem? (i := 48) rfl)) rfl
theorem gw_2_49 : (Jvm.Cond.instanceMethod ({ cls := "RedoShelf$Job", name := "begin", desc := "(I)V" } : Jvm.MethodName)) ∈ gW := gW_in (tb_2 (List.mem_of_getElem? (i := 49) rfl)) rfl
theorem gw_2_5 : (Jvm.Cond.instanceMethod ({ cls := "RedoShelf$Images", name := "drop", desc := "(I)V" } : Jvm.MethodName)) ∈ gW := gW_in (tb_2 (List.mem_of_getElem? (i := 5) rfl)) rfl
theorem gw_2_50 : (Jvm.Cond.selects "RedoShelf$Job" ({ cls := "RedoShelf$Job", name := "begin", desc := "(I)V" } : Jvm.MethodName) ({ cls := "RedoShelf$Job", name := "begin", desc := "(I)V" } : Jvm.MethodName)) ∈ gW := gW_in (tb_2 (List.mem_of_getElem? (i := 50) rfl)) rfl
theorem gw_2_51 : (Jvm.Cond.code ({ cls := "RedoShelf$Job", name := "begin", desc := "(I)V" } : Jvm.MethodName) prog_4_method_5_code (2 : Nat) (Option.none : Option Jvm.ClassFile.FieldType)) ∈ gW := gW_in (tb_2 (List.mem_of_getElem? (i := 51) rfl)) rfl
theorem gw_2_52 : (Jvm.Cond.methodLink "RedoShelf" (107 : Nat) ({ cls := "RedoShelf", name := "planRowSector", desc := "(I)V" } : Jvm.MethodName)) ∈ gW := gW_in (tb_2 (List.mem_of_getElem? (i := 52) rfl)) rfl
theorem gw_2_54 : (Jvm.Cond.instanceMethod ({ cls := "RedoShelf", name := "planRowSector", desc := "(I)V" } : Jvm.MethodName)) ∈ gW := gW_in (tb_2 (List.mem_of_getElem? (i := 54) rfl)) rfl
theorem gw_2_55 : (Jvm.Cond.code ({ cls := "RedoShelf", name := "planRowSector", desc := "(I)V" } : Jvm.MethodName) prog_1_method_28_code (2 : Nat) (Option.none : Option Jvm.ClassFile.FieldType)) ∈ gW := gW_in (tb_2 (List.mem_of_getElem? (i := 55) rfl)) rfl
theorem gw_2_56 : (Jvm.Cond.methodLink "RedoShelf" (195 : Nat) ({ cls := "RedoShelf", name := "logSector", desc := "(I)I" } : Jvm.MethodName)) ∈ gW := gW_in (tb_2 (List.mem_of_getElem? (i := 56) rfl)) rfl
theorem gw_2_57 : (Jvm.Cond.static ({ cls := "RedoShelf", name := "logSector", desc := "(I)I" } : Jvm.MethodName)) ∈ gW := gW_in (tb_2 (List.mem_of_getElem? (i := 57) rfl)) rfl
theorem gw_2_58 : (Jvm.Cond.code ({ cls := "RedoShelf", name := "logSector", desc := "(I)I" } : Jvm.MethodName) prog_1_method_23_code (1 : Nat) (Option.some Jvm.ClassFile.FieldType.int)) ∈ gW := gW_in (tb_2 (List.mem_of_getElem? (i := 58) rfl)) rfl
theorem gw_2_59 : (Jvm.Cond.methodLink "RedoShelf" (198 : Nat) ({ cls := "RedoShelf$Row", name := "word", desc := "(II)I" } : Jvm.MethodName)) ∈ gW := gW_in (tb_2 (List.mem_of_getElem? (i := 59) rfl)) rfl
theorem gw_2_6 : (Jvm.Cond.selects "RedoShelf$Images" ({ cls := "RedoShelf$Images", name := "drop", desc := "(I)V" } : Jvm.MethodName) ({ cls := "RedoShelf$Images", name := "drop", desc := "(I)V" } : Jvm.MethodName)) ∈ gW := gW_in (tb_2 (List.mem_of_getElem? (i := 6) rfl)) rfl
theorem gw_2_60 : (Jvm.Cond.instanceMethod ({ cls := "RedoShelf$Row", name := "word", desc := "(II)I" } : Jvm.MethodName)) ∈ gW := gW_in (tb_2 (List.mem_of_getElem? (i := 60) rfl)) rfl
theorem gw_2_61 : (Jvm.Cond.selects "RedoShelf$Row" ({ cls := "RedoShelf$Row", name := "word", desc := "(II)I" } : Jvm.MethodName) ({ cls := "RedoShelf$Row", name := "word", desc := "(II)I" } : Jvm.MethodName)) ∈ gW := gW_in (tb_2 (List.mem_of_getElem? (i := 61) rfl)) rfl
theorem gw_2_62 : (Jvm.Cond.code ({ cls := "RedoShelf$Row", name := "word", desc := "(II)I" } : Jvm.MethodName) prog_6_method_3_code (3 : Nat) (Option.some Jvm.ClassFile.FieldType.int)) ∈ gW := gW_in (tb_2 (List.mem_of_getElem? (i := 62) rfl)) rfl
theorem gw_2_63 : (Jvm.Cond.methodLink "RedoShelf" (117 : Nat) ({ cls := "RedoShelf$Job", name := "addWrite", desc := "(IIIII)V" } : Jvm.MethodName)) ∈ gW := gW_in (tb_2 (List.mem_of_getElem? (i := 63) rfl)) rfl
theorem gw_2_64 : (Jvm.Cond.instanceMethod ({ cls := "RedoShelf$Job", name := "addWrite", desc := "(IIIII)V" } : Jvm.MethodName)) ∈ gW := gW_in (tb_2 (List.mem_of_getElem? (i := 64) rfl)) rfl
theorem gw_2_65 : (Jvm.Cond.selects "RedoShelf$Job" ({ cls := "RedoShelf$Job", name := "addWrite", desc := "(IIIII)V" } : Jvm.MethodName) ({ cls := "RedoShelf$Job", name := "addWrite", desc := "(IIIII)V" } : Jvm.MethodName)) ∈ gW := gW_in (tb_2 (List.mem_of_getElem? (i := 65) rfl)) rfl
theorem gw_2_66 : (Jvm.Cond.code ({ cls := "RedoShelf$Job", name := "addWrite", desc := "(IIIII)V" } : Jvm.MethodName) prog_4_method_8_code (7 : Nat) (Option.none : Option Jvm.ClassFile.FieldType)) ∈ gW := gW_in (tb_2 (List.mem_of_getElem? (i := 66) rfl)) rfl
theorem gw_2_67 : (Jvm.Cond.methodLink "RedoShelf" (110 : Nat) ({ cls := "RedoShelf$Job", name := "addFlush", desc := "()V" } : Jvm.MethodName)) ∈ gW := gW_in (tb_2 (List.mem_of_getElem? (i := 67) rfl)) rfl
theorem gw_2_68 : (Jvm.Cond.instanceMethod ({ cls := "RedoShelf$Job", name := "addFlush", desc := "()V" } : Jvm.MethodName)) ∈ gW := gW_in (tb_2 (List.mem_of_getElem? (i := 68) rfl)) rfl
theorem gw_2_69 : (Jvm.Cond.selects "RedoShelf$Job" ({ cls := "RedoShelf$Job", name := "addFlush", desc := "()V" } : Jvm.MethodName) ({ cls := "RedoShelf$Job", name := "addFlush", desc := "()V" } : Jvm.MethodName)) ∈ gW := gW_in (tb_2 (List.mem_of_getElem? (i := 69) rfl)) rfl
theorem gw_2_7 : (Jvm.Cond.code ({ cls := "RedoShelf$Images", name := "drop", desc := "(I)V" } : Jvm.MethodName) prog_3_method_7_code (2 : Nat) (Option.none : Option Jvm.ClassFile.FieldType)) ∈ gW := gW_in (tb_2 (List.mem_of_getElem? (i := 7) rfl)) rfl
theorem gw_2_70 : (Jvm.Cond.code ({ cls := "RedoShelf$Job", name := "addFlush", desc := "()V" } : Jvm.MethodName) prog_4_method_7_code (1 : Nat) (Option.none : Option Jvm.ClassFile.FieldType)) ∈ gW := gW_in (tb_2 (List.mem_of_getElem? (i := 70) rfl)) rfl
theorem gw_2_75 : (Jvm.Cond.methodLink "RedoShelf" (124 : Nat) ({ cls := "RedoShelf", name := "planHead", desc := "(II)V" } : Jvm.MethodName)) ∈ gW := gW_in (tb_2 (List.mem_of_getElem? (i := 75) rfl)) rfl
theorem gw_2_77 : (Jvm.Cond.instanceMethod ({ cls := "RedoShelf", name := "planHead", desc := "(II)V" } : Jvm.MethodName)) ∈ gW := gW_in (tb_2 (List.mem_of_getElem? (i := 77) rfl)) rfl
theorem gw_2_78 : (Jvm.Cond.code ({ cls := "RedoShelf", name := "planHead", desc := "(II)V" } : Jvm.MethodName) prog_1_method_29_code (3 : Nat) (Option.none : Option Jvm.ClassFile.FieldType)) ∈ gW := gW_in (tb_2 (List.mem_of_getElem? (i := 78) rfl)) rfl
theorem gw_2_79 : (Jvm.Cond.constant "RedoShelf" (199 : Nat) (77001 : Int32)) ∈ gW := gW_in (tb_2 (List.mem_of_getElem? (i := 79) rfl)) rfl
theorem gw_2_84 : (Jvm.Cond.methodLink "RedoShelf" (134 : Nat) ({ cls := "RedoShelf$LogReader", name := "scan", desc := "(LRedoShelf$Device;)V" } : Jvm.MethodName)) ∈ gW := gW_in (tb_2 (List.mem_of_getElem? (i := 84) rfl)) rfl
theorem gw_2_85 : (Jvm.Cond.instanceMethod ({ cls := "RedoShelf$LogReader", name := "scan", desc := "(LRedoShelf$Device;)V" } : Jvm.MethodName)) ∈ gW := gW_in (tb_2 (List.mem_of_getElem? (i := 85) rfl)) rfl
theorem gw_2_86 : (Jvm.Cond.selects "RedoShelf$LogReader" ({ cls := "RedoShelf$LogReader", name := "scan", desc := "(LRedoShelf$Device;)V" } : Jvm.MethodName) ({ cls := "RedoShelf$LogReader", name := "scan", desc := "(LRedoShelf$Device;)V" } : Jvm.MethodName)) ∈ gW := gW_in (tb_2 (List.mem_of_getElem? (i := 86) rfl)) rfl
theorem gw_2_87 : (Jvm.Cond.code ({ cls := "RedoShelf$LogReader", name := "scan", desc := "(LRedoShelf$Device;)V" } : Jvm.MethodName) prog_5_method_8_code (3 : Nat) (Option.none : Option Jvm.ClassFile.FieldType)) ∈ gW := gW_in (tb_2 (List.mem_of_getElem? (i := 87) rfl)) rfl
theorem gw_2_88 : (Jvm.Cond.methodLink "RedoShelf$LogReader" (58 : Nat) ({ cls := "RedoShelf$LogReader", name := "takeHead", desc := "(LRedoShelf$Device;)V" } : Jvm.MethodName)) ∈ gW := gW_in (tb_2 (List.mem_of_getElem? (i := 88) rfl)) rfl
theorem gw_2_90 : (Jvm.Cond.instanceMethod ({ cls := "RedoShelf$LogReader", name := "takeHead", desc := "(LRedoShelf$Device;)V" } : Jvm.MethodName)) ∈ gW := gW_in (tb_2 (List.mem_of_getElem? (i := 90) rfl)) rfl
theorem gw_2_91 : (Jvm.Cond.code ({ cls := "RedoShelf$LogReader", name := "takeHead", desc := "(LRedoShelf$Device;)V" } : Jvm.MethodName) prog_5_method_9_code (2 : Nat) (Option.none : Option Jvm.ClassFile.FieldType)) ∈ gW := gW_in (tb_2 (List.mem_of_getElem? (i := 91) rfl)) rfl
theorem gw_2_92 : (Jvm.Cond.methodLink "RedoShelf$LogReader" (75 : Nat) ({ cls := "RedoShelf$Device", name := "newestWord", desc := "(II)I" } : Jvm.MethodName)) ∈ gW := gW_in (tb_2 (List.mem_of_getElem? (i := 92) rfl)) rfl
theorem gw_2_93 : (Jvm.Cond.constant "RedoShelf$LogReader" (53 : Nat) (77001 : Int32)) ∈ gW := gW_in (tb_2 (List.mem_of_getElem? (i := 93) rfl)) rfl
theorem gw_2_94 : (Jvm.Cond.methodLink "RedoShelf$LogReader" (62 : Nat) ({ cls := "RedoShelf$LogReader", name := "takeLog", desc := "(LRedoShelf$Device;)V" } : Jvm.MethodName)) ∈ gW := gW_in (tb_2 (List.mem_of_getElem? (i := 94) rfl)) rfl
theorem gw_2_96 : (Jvm.Cond.instanceMethod ({ cls := "RedoShelf$LogReader", name := "takeLog", desc := "(LRedoShelf$Device;)V" } : Jvm.MethodName)) ∈ gW := gW_in (tb_2 (List.mem_of_getElem? (i := 96) rfl)) rfl
theorem gw_2_97 : (Jvm.Cond.code ({ cls := "RedoShelf$LogReader", name := "takeLog", desc := "(LRedoShelf$Device;)V" } : Jvm.MethodName) prog_5_method_10_code (4 : Nat) (Option.none : Option Jvm.ClassFile.FieldType)) ∈ gW := gW_in (tb_2 (List.mem_of_getElem? (i := 97) rfl)) rfl
theorem gw_2_99 : (Jvm.Cond.methodLink "RedoShelf$LogReader" (65 : Nat) ({ cls := "java/util/Arrays", name := "fill", desc := "([II)V" } : Jvm.MethodName)) ∈ gW := gW_in (tb_2 (List.mem_of_getElem? (i := 99) rfl)) rfl
theorem gw_3_101 : (Jvm.Cond.instanceMethod ({ cls := "RedoShelfModel", name := "read", desc := "(II)I" } : Jvm.MethodName)) ∈ gW := gW_in (tb_3 (List.mem_of_getElem? (i := 101) rfl)) rfl
theorem gw_3_102 : (Jvm.Cond.selects "RedoShelfModel" ({ cls := "RedoShelfModel", name := "read", desc := "(II)I" } : Jvm.MethodName) ({ cls := "RedoShelfModel", name := "read", desc := "(II)I" } : Jvm.MethodName)) ∈ gW := gW_in (tb_3 (List.mem_of_getElem? (i := 102) rfl)) rfl
theorem gw_3_103 : (Jvm.Cond.code ({ cls := "RedoShelfModel", name := "read", desc := "(II)I" } : Jvm.MethodName) prog_8_method_2_code (5 : Nat) (Option.some Jvm.ClassFile.FieldType.int)) ∈ gW := gW_in (tb_3 (List.mem_of_getElem? (i := 103) rfl)) rfl
theorem gw_3_113 : (Jvm.Cond.instanceMethod ({ cls := "RedoShelfModel", name := "get", desc := "(II)I" } : Jvm.MethodName)) ∈ gW := gW_in (tb_3 (List.mem_of_getElem? (i := 113) rfl)) rfl
theorem gw_3_114 : (Jvm.Cond.selects "RedoShelfModel" ({ cls := "RedoShelfModel", name := "get", desc := "(II)I" } : Jvm.MethodName) ({ cls := "RedoShelfModel", name := "get", desc := "(II)I" } : Jvm.MethodName)) ∈ gW := gW_in (tb_3 (List.mem_of_getElem? (i := 114) rfl)) rfl
theorem gw_3_115 : (Jvm.Cond.code ({ cls := "RedoShelfModel", name := "get", desc := "(II)I" } : Jvm.MethodName) prog_8_method_13_code (3 : Nat) (Option.some Jvm.ClassFile.FieldType.int)) ∈ gW := gW_in (tb_3 (List.mem_of_getElem? (i := 115) rfl)) rfl
theorem gw_3_116 : (Jvm.Cond.methodLink "RedoShelfModel" (58 : Nat) ({ cls := "RedoShelfModel", name := "isBlock", desc := "(I)Z" } : Jvm.MethodName)) ∈ gW := gW_in (tb_3 (List.mem_of_getElem? (i := 116) rfl)) rfl
theorem gw_3_117 : (Jvm.Cond.static ({ cls := "RedoShelfModel", name := "isBlock", desc := "(I)Z" } : Jvm.MethodName)) ∈ gW := gW_in (tb_3 (List.mem_of_getElem? (i := 117) rfl)) rfl
theorem gw_3_118 : (Jvm.Cond.code ({ cls := "RedoShelfModel", name := "isBlock", desc := "(I)Z" } : Jvm.MethodName) prog_8_method_10_code (1 : Nat) (Option.some Jvm.ClassFile.FieldType.boolean)) ∈ gW := gW_in (tb_3 (List.mem_of_getElem? (i := 118) rfl)) rfl
theorem gw_3_119 : (Jvm.Cond.methodLink "RedoShelfModel" (62 : Nat) ({ cls := "RedoShelfModel", name := "isWord", desc := "(I)Z" } : Jvm.MethodName)) ∈ gW := gW_in (tb_3 (List.mem_of_getElem? (i := 119) rfl)) rfl
theorem gw_3_120 : (Jvm.Cond.static ({ cls := "RedoShelfModel", name := "isWord", desc := "(I)Z" } : Jvm.MethodName)) ∈ gW := gW_in (tb_3 (List.mem_of_getElem? (i := 120) rfl)) rfl
theorem gw_3_121 : (Jvm.Cond.code ({ cls := "RedoShelfModel", name := "isWord", desc := "(I)Z" } : Jvm.MethodName) prog_8_method_11_code (1 : Nat) (Option.some Jvm.ClassFile.FieldType.boolean)) ∈ gW := gW_in (tb_3 (List.mem_of_getElem? (i := 121) rfl)) rfl
theorem gw_3_122 : (Jvm.Cond.methodLink "RedoShelfModel" (65 : Nat) ({ cls := "RedoShelfModel", name := "read", desc := "(II)I" } : Jvm.MethodName)) ∈ gW := gW_in (tb_3 (List.mem_of_getElem? (i := 122) rfl)) rfl
theorem gw_3_127 : (Jvm.Cond.methodLink "RedoShelfModel" (72 : Nat) ({ cls := "RedoShelfModel", name := "idle", desc := "()Z" } : Jvm.MethodName)) ∈ gW := gW_in (tb_3 (List.mem_of_getElem? (i := 127) rfl)) rfl
theorem gw_3_129 : (Jvm.Cond.instanceMethod ({ cls := "RedoShelfModel", name := "idle", desc := "()Z" } : Jvm.MethodName)) ∈ gW := gW_in (tb_3 (List.mem_of_getElem? (i := 129) rfl)) rfl
theorem gw_3_130 : (Jvm.Cond.code ({ cls := "RedoShelfModel", name := "idle", desc := "()Z" } : Jvm.MethodName) prog_8_method_14_code (1 : Nat) (Option.some Jvm.ClassFile.FieldType.boolean)) ∈ gW := gW_in (tb_3 (List.mem_of_getElem? (i := 130) rfl)) rfl
theorem gw_3_131 : (Jvm.Cond.methodLink "RedoShelfModel" (76 : Nat) ({ cls := "RedoShelfModel", name := "countOf", desc := "(I)I" } : Jvm.MethodName)) ∈ gW := gW_in (tb_3 (List.mem_of_getElem? (i := 131) rfl)) rfl
theorem gw_3_133 : (Jvm.Cond.instanceMethod ({ cls := "RedoShelfModel", name := "countOf", desc := "(I)I" } : Jvm.MethodName)) ∈ gW := gW_in (tb_3 (List.mem_of_getElem? (i := 133) rfl)) rfl
theorem gw_3_134 : (Jvm.Cond.code ({ cls := "RedoShelfModel", name := "countOf", desc := "(I)I" } : Jvm.MethodName) prog_8_method_12_code (4 : Nat) (Option.some Jvm.ClassFile.FieldType.int)) ∈ gW := gW_in (tb_3 (List.mem_of_getElem? (i := 134) rfl)) rfl
theorem gw_3_135 : (Jvm.Cond.methodLink "RedoShelfModel" (80 : Nat) ({ cls := "RedoShelfModel", name := "get", desc := "(II)I" } : Jvm.MethodName)) ∈ gW := gW_in (tb_3 (List.mem_of_getElem? (i := 135) rfl)) rfl
theorem gw_3_144 : (Jvm.Cond.methodLink "RedoShelfModel" (83 : Nat) ({ cls := "RedoShelfModel", name := "writeOut", desc := "(I)V" } : Jvm.MethodName)) ∈ gW := gW_in (tb_3 (List.mem_of_getElem? (i := 144) rfl)) rfl
theorem gw_3_146 : (Jvm.Cond.instanceMethod ({ cls := "RedoShelfModel", name := "writeOut", desc := "(I)V" } : Jvm.MethodName)) ∈ gW := gW_in (tb_3 (List.mem_of_getElem? (i := 146) rfl)) rfl
theorem gw_3_147 : (Jvm.Cond.code ({ cls := "RedoShelfModel", name := "writeOut", desc := "(I)V" } : Jvm.MethodName) prog_8_method_5_code (3 : Nat) (Option.none : Option Jvm.ClassFile.FieldType)) ∈ gW := gW_in (tb_3 (List.mem_of_getElem? (i := 147) rfl)) rfl
theorem gw_3_156 : (Jvm.Cond.methodLink "RedoShelfModel" (107 : Nat) ({ cls := "RedoShelfModel", name := "rowLength", desc := "()I" } : Jvm.MethodName)) ∈ gW := gW_in (tb_3 (List.mem_of_getElem? (i := 156) rfl)) rfl
theorem gw_3_158 : (Jvm.Cond.instanceMethod ({ cls := "RedoShelfModel", name := "rowLength", desc := "()I" } : Jvm.MethodName)) ∈ gW := gW_in (tb_3 (List.mem_of_getElem? (i := 158) rfl)) rfl
theorem gw_3_159 : (Jvm.Cond.code ({ cls := "RedoShelfModel", name := "rowLength", desc := "()I" } : Jvm.MethodName) prog_8_method_19_code (2 : Nat) (Option.some Jvm.ClassFile.FieldType.int)) ∈ gW := gW_in (tb_3 (List.mem_of_getElem? (i := 159) rfl)) rfl
theorem gw_3_164 : (Jvm.Cond.methodLink "RedoShelfModel" (128 : Nat) ({ cls := "RedoShelfModel", name := "countPending", desc := "()I" } : Jvm.MethodName)) ∈ gW := gW_in (tb_3 (List.mem_of_getElem? (i := 164) rfl)) rfl
theorem gw_3_166 : (Jvm.Cond.instanceMethod ({ cls := "RedoShelfModel", name := "countPending", desc := "()I" } : Jvm.MethodName)) ∈ gW := gW_in (tb_3 (List.mem_of_getElem? (i := 166) rfl)) rfl
theorem gw_3_167 : (Jvm.Cond.code ({ cls := "RedoShelfModel", name := "countPending", desc := "()I" } : Jvm.MethodName) prog_8_method_28_code (3 : Nat) (Option.some Jvm.ClassFile.FieldType.int)) ∈ gW := gW_in (tb_3 (List.mem_of_getElem? (i := 167) rfl)) rfl
theorem gw_3_172 : (Jvm.Cond.methodLink "RedoShelfModel" (165 : Nat) ({ cls := "RedoShelfModel", name := "replay", desc := "(I)I" } : Jvm.MethodName)) ∈ gW := gW_in (tb_3 (List.mem_of_getElem? (i := 172) rfl)) rfl
theorem gw_3_174 : (Jvm.Cond.instanceMethod ({ cls := "RedoShelfModel", name := "replay", desc := "(I)I" } : Jvm.MethodName)) ∈ gW := gW_in (tb_3 (List.mem_of_getElem? (i := 174) rfl)) rfl
theorem gw_3_175 : (Jvm.Cond.code ({ cls := "RedoShelfModel", name := "replay", desc := "(I)I" } : Jvm.MethodName) prog_8_method_38_code (9 : Nat) (Option.some Jvm.ClassFile.FieldType.int)) ∈ gW := gW_in (tb_3 (List.mem_of_getElem? (i := 175) rfl)) rfl
theorem gw_3_176 : (Jvm.Cond.methodLink "RedoShelfModel" (162 : Nat) ({ cls := "RedoShelfModel", name := "findRevocations", desc := "()V" } : Jvm.MethodName)) ∈ gW := gW_in (tb_3 (List.mem_of_getElem? (i := 176) rfl)) rfl
theorem gw_3_178 : (Jvm.Cond.instanceMethod ({ cls := "RedoShelfModel", name := "findRevocations", desc := "()V" } : Jvm.MethodName)) ∈ gW := gW_in (tb_3 (List.mem_of_getElem? (i := 178) rfl)) rfl
theorem gw_3_179 : (Jvm.Cond.code ({ cls := "RedoShelfModel", name := "findRevocations", desc := "()V" } : Jvm.MethodName) prog_8_method_36_code (5 : Nat) (Option.none : Option Jvm.ClassFile.FieldType)) ∈ gW := gW_in (tb_3 (List.mem_of_getElem? (i := 179) rfl)) rfl
theorem gw_3_180 : (Jvm.Cond.methodLink "RedoShelfModel" (146 : Nat) ({ cls := "RedoShelfModel", name := "findHead", desc := "()V" } : Jvm.MethodName)) ∈ gW := gW_in (tb_3 (List.mem_of_getElem? (i := 180) rfl)) rfl
theorem gw_3_182 : (Jvm.Cond.instanceMethod ({ cls := "RedoShelfModel", name := "findHead", desc := "()V" } : Jvm.MethodName)) ∈ gW := gW_in (tb_3 (List.mem_of_getElem? (i := 182) rfl)) rfl
theorem gw_3_183 : (Jvm.Cond.code ({ cls := "RedoShelfModel", name := "findHead", desc := "()V" } : Jvm.MethodName) prog_8_method_35_code (2 : Nat) (Option.none : Option Jvm.ClassFile.FieldType)) ∈ gW := gW_in (tb_3 (List.mem_of_getElem? (i := 183) rfl)) rfl
theorem gw_3_184 : (Jvm.Cond.methodLink "RedoShelfModel" (155 : Nat) ({ cls := "RedoShelfModel", name := "validAt", desc := "(II)I" } : Jvm.MethodName)) ∈ gW := gW_in (tb_3 (List.mem_of_getElem? (i := 184) rfl)) rfl
theorem gw_3_186 : (Jvm.Cond.instanceMethod ({ cls := "RedoShelfModel", name := "validAt", desc := "(II)I" } : Jvm.MethodName)) ∈ gW := gW_in (tb_3 (List.mem_of_getElem? (i := 186) rfl)) rfl
theorem gw_3_187 : (Jvm.Cond.code ({ cls := "RedoShelfModel", name := "validAt", desc := "(II)I" } : Jvm.MethodName) prog_8_method_34_code (11 : Nat) (Option.some Jvm.ClassFile.FieldType.int)) ∈ gW := gW_in (tb_3 (List.mem_of_getElem? (i := 187) rfl)) rfl
theorem gw_3_188 : (Jvm.Cond.methodLink "RedoShelfModel" (137 : Nat) ({ cls := "RedoShelfModel", name := "logWord", desc := "(II)I" } : Jvm.MethodName)) ∈ gW := gW_in (tb_3 (List.mem_of_getElem? (i := 188) rfl)) rfl
theorem gw_3_190 : (Jvm.Cond.instanceMethod ({ cls := "RedoShelfModel", name := "logWord", desc := "(II)I" } : Jvm.MethodName)) ∈ gW := gW_in (tb_3 (List.mem_of_getElem? (i := 190) rfl)) rfl
theorem gw_3_191 : (Jvm.Cond.code ({ cls := "RedoShelfModel", name := "logWord", desc := "(II)I" } : Jvm.MethodName) prog_8_method_32_code (3 : Nat) (Option.some Jvm.ClassFile.FieldType.int)) ∈ gW := gW_in (tb_3 (List.mem_of_getElem? (i := 191) rfl)) rfl
theorem gw_3_192 : (Jvm.Cond.methodLink "RedoShelfModel" (140 : Nat) ({ cls := "RedoShelfModel", name := "mixSector", desc := "(II)I" } : Jvm.MethodName)) ∈ gW := gW_in (tb_3 (List.mem_of_getElem? (i := 192) rfl)) rfl
theorem gw_3_194 : (Jvm.Cond.instanceMethod ({ cls := "RedoShelfModel", name := "mixSector", desc := "(II)I" } : Jvm.MethodName)) ∈ gW := gW_in (tb_3 (List.mem_of_getElem? (i := 194) rfl)) rfl
theorem gw_3_195 : (Jvm.Cond.code ({ cls := "RedoShelfModel", name := "mixSector", desc := "(II)I" } : Jvm.MethodName) prog_8_method_33_code (5 : Nat) (Option.some Jvm.ClassFile.FieldType.int)) ∈ gW := gW_in (tb_3 (List.mem_of_getElem? (i := 195) rfl)) rfl
theorem gw_3_196 : (Jvm.Cond.methodLink "RedoShelfModel" (104 : Nat) ({ cls := "RedoShelfModel", name := "mix", desc := "(II)I" } : Jvm.MethodName)) ∈ gW := gW_in (tb_3 (List.mem_of_getElem? (i := 196) rfl)) rfl
theorem gw_3_197 : (Jvm.Cond.static ({ cls := "RedoShelfModel", name := "mix", desc := "(II)I" } : Jvm.MethodName)) ∈ gW := gW_in (tb_3 (List.mem_of_getElem? (i := 197) rfl)) rfl
theorem gw_3_198 : (Jvm.Cond.code ({ cls := "RedoShelfModel", name := "mix", desc := "(II)I" } : Jvm.MethodName) prog_8_method_9_code (3 : Nat) (Option.some Jvm.ClassFile.FieldType.int)) ∈ gW := gW_in (tb_3 (List.mem_of_getElem? (i := 198) rfl)) rfl
theorem gw_3_199 : (Jvm.Cond.constant "RedoShelfModel" (57 : Nat) (40503 : Int32)) ∈ gW := gW_in (tb_3 (List.mem_of_getElem? (i := 199) rfl)) rfl
theorem gw_3_200 : (Jvm.Cond.methodLink "RedoShelfModel" (158 : Nat) ({ cls := "RedoShelfModel", name := "isRevocation", desc := "(II)Z" } : Jvm.MethodName)) ∈ gW := gW_in (tb_3 (List.mem_of_getElem? (i := 200) rfl)) rfl
theorem gw_3_202 : (Jvm.Cond.instanceMethod ({ cls := "RedoShelfModel", name := "isRevocation", desc := "(II)Z" } : Jvm.MethodName)) ∈ gW := gW_in (tb_3 (List.mem_of_getElem? (i := 202) rfl)) rfl
theorem gw_3_203 : (Jvm.Cond.code ({ cls := "RedoShelfModel", name := "isRevocation", desc := "(II)Z" } : Jvm.MethodName) prog_8_method_37_code (4 : Nat) (Option.some Jvm.ClassFile.FieldType.boolean)) ∈ gW := gW_in (tb_3 (List.mem_of_getElem? (i := 203) rfl)) rfl
theorem gw_3_204 : (Jvm.Cond.methodLink "RedoShelfModel" (94 : Nat) ({ cls := "RedoShelfModel", name := "say", desc := "(IIII)V" } : Jvm.MethodName)) ∈ gW := gW_in (tb_3 (List.mem_of_getElem? (i := 204) rfl)) rfl
theorem gw_3_206 : (Jvm.Cond.instanceMethod ({ cls := "RedoShelfModel", name := "say", desc := "(IIII)V" } : Jvm.MethodName)) ∈ gW := gW_in (tb_3 (List.mem_of_getElem? (i := 206) rfl)) rfl
theorem gw_3_207 : (Jvm.Cond.code ({ cls := "RedoShelfModel", name := "say", desc := "(IIII)V" } : Jvm.MethodName) prog_8_method_8_code (5 : Nat) (Option.none : Option Jvm.ClassFile.FieldType)) ∈ gW := gW_in (tb_3 (List.mem_of_getElem? (i := 207) rfl)) rfl
theorem gw_3_212 : (Jvm.Cond.methodLink "RedoShelfModel" (177 : Nat) ({ cls := "RedoShelfModel", name := "commitAction", desc := "(I)V" } : Jvm.MethodName)) ∈ gW := gW_in (tb_3 (List.mem_of_getElem? (i := 212) rfl)) rfl
theorem gw_3_214 : (Jvm.Cond.instanceMethod ({ cls := "RedoShelfModel", name := "commitAction", desc := "(I)V" } : Jvm.MethodName)) ∈ gW := gW_in (tb_3 (List.mem_of_getElem? (i := 214) rfl)) rfl
theorem gw_3_215 : (Jvm.Cond.code ({ cls := "RedoShelfModel", name := "commitAction", desc := "(I)V" } : Jvm.MethodName) prog_8_method_26_code (4 : Nat) (Option.none : Option Jvm.ClassFile.FieldType)) ∈ gW := gW_in (tb_3 (List.mem_of_getElem? (i := 215) rfl)) rfl
theorem gw_3_216 : (Jvm.Cond.methodLink "RedoShelfModel" (101 : Nat) ({ cls := "RedoShelfModel", name := "body", desc := "(I)V" } : Jvm.MethodName)) ∈ gW := gW_in (tb_3 (List.mem_of_getElem? (i := 216) rfl)) rfl
theorem gw_3_218 : (Jvm.Cond.instanceMethod ({ cls := "RedoShelfModel", name := "body", desc := "(I)V" } : Jvm.MethodName)) ∈ gW := gW_in (tb_3 (List.mem_of_getElem? (i := 218) rfl)) rfl
theorem gw_3_219 : (Jvm.Cond.code ({ cls := "RedoShelfModel", name := "body", desc := "(I)V" } : Jvm.MethodName) prog_8_method_23_code (4 : Nat) (Option.none : Option Jvm.ClassFile.FieldType)) ∈ gW := gW_in (tb_3 (List.mem_of_getElem? (i := 219) rfl)) rfl
theorem gw_3_220 : (Jvm.Cond.methodLink "RedoShelfModel" (90 : Nat) ({ cls := "RedoShelfModel", name := "revocationWord", desc := "()I" } : Jvm.MethodName)) ∈ gW := gW_in (tb_3 (List.mem_of_getElem? (i := 220) rfl)) rfl
theorem gw_3_222 : (Jvm.Cond.instanceMethod ({ cls := "RedoShelfModel", name := "revocationWord", desc := "()I" } : Jvm.MethodName)) ∈ gW := gW_in (tb_3 (List.mem_of_getElem? (i := 222) rfl)) rfl
theorem gw_3_223 : (Jvm.Cond.code ({ cls := "RedoShelfModel", name := "revocationWord", desc := "()I" } : Jvm.MethodName) prog_8_method_22_code (3 : Nat) (Option.some Jvm.ClassFile.FieldType.int)) ∈ gW := gW_in (tb_3 (List.mem_of_getElem? (i := 223) rfl)) rfl
theorem gw_3_224 : (Jvm.Cond.methodLink "RedoShelfModel" (98 : Nat) ({ cls := "RedoShelfModel", name := "groupWord", desc := "(II)I" } : Jvm.MethodName)) ∈ gW := gW_in (tb_3 (List.mem_of_getElem? (i := 224) rfl)) rfl
theorem gw_3_226 : (Jvm.Cond.instanceMethod ({ cls := "RedoShelfModel", name := "groupWord", desc := "(II)I" } : Jvm.MethodName)) ∈ gW := gW_in (tb_3 (List.mem_of_getElem? (i := 226) rfl)) rfl
theorem gw_3_227 : (Jvm.Cond.code ({ cls := "RedoShelfModel", name := "groupWord", desc := "(II)I" } : Jvm.MethodName) prog_8_method_21_code (8 : Nat) (Option.some Jvm.ClassFile.FieldType.int)) ∈ gW := gW_in (tb_3 (List.mem_of_getElem? (i := 227) rfl)) rfl
theorem gw_3_228 : (Jvm.Cond.methodLink "RedoShelfModel" (87 : Nat) ({ cls := "RedoShelfModel", name := "imageBlock", desc := "(I)I" } : Jvm.MethodName)) ∈ gW := gW_in (tb_3 (List.mem_of_getElem? (i := 228) rfl)) rfl
theorem gw_3_230 : (Jvm.Cond.instanceMethod ({ cls := "RedoShelfModel", name := "imageBlock", desc := "(I)I" } : Jvm.MethodName)) ∈ gW := gW_in (tb_3 (List.mem_of_getElem? (i := 230) rfl)) rfl
theorem gw_3_231 : (Jvm.Cond.code ({ cls := "RedoShelfModel", name := "imageBlock", desc := "(I)I" } : Jvm.MethodName) prog_8_method_20_code (5 : Nat) (Option.some Jvm.ClassFile.FieldType.int)) ∈ gW := gW_in (tb_3 (List.mem_of_getElem? (i := 231) rfl)) rfl
theorem gw_3_232 : (Jvm.Cond.methodLink "RedoShelfModel" (122 : Nat) ({ cls := "RedoShelfModel", name := "sum", desc := "(I)I" } : Jvm.MethodName)) ∈ gW := gW_in (tb_3 (List.mem_of_getElem? (i := 232) rfl)) rfl
theorem gw_3_234 : (Jvm.Cond.instanceMethod ({ cls := "RedoShelfModel", name := "sum", desc := "(I)I" } : Jvm.MethodName)) ∈ gW := gW_in (tb_3 (List.mem_of_getElem? (i := 234) rfl)) rfl
theorem gw_3_235 : (Jvm.Cond.code ({ cls := "RedoShelfModel", name := "sum", desc := "(I)I" } : Jvm.MethodName) prog_8_method_24_code (5 : Nat) (Option.some Jvm.ClassFile.FieldType.int)) ∈ gW := gW_in (tb_3 (List.mem_of_getElem? (i := 235) rfl)) rfl
theorem gw_3_236 : (Jvm.Cond.methodLink "RedoShelfModel" (125 : Nat) ({ cls := "RedoShelfModel", name := "flush", desc := "()V" } : Jvm.MethodName)) ∈ gW := gW_in (tb_3 (List.mem_of_getElem? (i := 236) rfl)) rfl
theorem gw_3_238 : (Jvm.Cond.instanceMethod ({ cls := "RedoShelfModel", name := "flush", desc := "()V" } : Jvm.MethodName)) ∈ gW := gW_in (tb_3 (List.mem_of_getElem? (i := 238) rfl)) rfl
theorem gw_3_239 : (Jvm.Cond.code ({ cls := "RedoShelfModel", name := "flush", desc := "()V" } : Jvm.MethodName) prog_8_method_7_code (2 : Nat) (Option.none : Option Jvm.ClassFile.FieldType)) ∈ gW := gW_in (tb_3 (List.mem_of_getElem? (i := 239) rfl)) rfl
theorem gw_3_29 : (Jvm.Cond.constant "RedoShelfModel" (49 : Nat) (77001 : Int32)) ∈ gW := gW_in (tb_3 (List.mem_of_getElem? (i := 29) rfl)) rfl
theorem gw_3_30 : (Jvm.Cond.fieldLink "RedoShelfModel" (7 : Nat) "RedoShelfModel" "disk" "[I") ∈ gW := gW_in (tb_3 (List.mem_of_getElem? (i := 30) rfl)) rfl
theorem gw_3_31 : (Jvm.Cond.fieldLink "RedoShelfModel" (50 : Nat) "RedoShelfModel" "entries" "I") ∈ gW := gW_in (tb_3 (List.mem_of_getElem? (i := 31) rfl)) rfl
theorem gw_3_32 : (Jvm.Cond.fieldLink "RedoShelfModel" (13 : Nat) "RedoShelfModel" "sectorOf" "[I") ∈ gW := gW_in (tb_3 (List.mem_of_getElem? (i := 32) rfl)) rfl
theorem gw_3_33 : (Jvm.Cond.fieldLink "RedoShelfModel" (16 : Nat) "RedoShelfModel" "words" "[I") ∈ gW := gW_in (tb_3 (List.mem_of_getElem? (i := 33) rfl)) rfl
theorem gw_3_34 : (Jvm.Cond.fieldLink "RedoShelfModel" (19 : Nat) "RedoShelfModel" "up" "Z") ∈ gW := gW_in (tb_3 (List.mem_of_getElem? (i := 34) rfl)) rfl
theorem gw_3_35 : (Jvm.Cond.fieldLink "RedoShelfModel" (23 : Nat) "RedoShelfModel" "number" "I") ∈ gW := gW_in (tb_3 (List.mem_of_getElem? (i := 35) rfl)) rfl
theorem gw_3_36 : (Jvm.Cond.fieldLink "RedoShelfModel" (119 : Nat) "RedoShelfModel" "next" "I") ∈ gW := gW_in (tb_3 (List.mem_of_getElem? (i := 36) rfl)) rfl
theorem gw_3_37 : (Jvm.Cond.fieldLink "RedoShelfModel" (110 : Nat) "RedoShelfModel" "used" "I") ∈ gW := gW_in (tb_3 (List.mem_of_getElem? (i := 37) rfl)) rfl
theorem gw_3_38 : (Jvm.Cond.fieldLink "RedoShelfModel" (27 : Nat) "RedoShelfModel" "kinds" "[I") ∈ gW := gW_in (tb_3 (List.mem_of_getElem? (i := 38) rfl)) rfl
theorem gw_3_39 : (Jvm.Cond.fieldLink "RedoShelfModel" (30 : Nat) "RedoShelfModel" "running" "[I") ∈ gW := gW_in (tb_3 (List.mem_of_getElem? (i := 39) rfl)) rfl
theorem gw_3_40 : (Jvm.Cond.fieldLink "RedoShelfModel" (33 : Nat) "RedoShelfModel" "isPending" "[Z") ∈ gW := gW_in (tb_3 (List.mem_of_getElem? (i := 40) rfl)) rfl
theorem gw_3_41 : (Jvm.Cond.fieldLink "RedoShelfModel" (37 : Nat) "RedoShelfModel" "pending" "[I") ∈ gW := gW_in (tb_3 (List.mem_of_getElem? (i := 41) rfl)) rfl
theorem gw_3_42 : (Jvm.Cond.fieldLink "RedoShelfModel" (69 : Nat) "RedoShelfModel" "job" "I") ∈ gW := gW_in (tb_3 (List.mem_of_getElem? (i := 42) rfl)) rfl
theorem gw_3_43 : (Jvm.Cond.fieldLink "RedoShelfModel" (113 : Nat) "RedoShelfModel" "done" "I") ∈ gW := gW_in (tb_3 (List.mem_of_getElem? (i := 43) rfl)) rfl
theorem gw_3_44 : (Jvm.Cond.fieldLink "RedoShelfModel" (116 : Nat) "RedoShelfModel" "total" "I") ∈ gW := gW_in (tb_3 (List.mem_of_getElem? (i := 44) rfl)) rfl
theorem gw_3_45 : (Jvm.Cond.fieldLink "RedoShelfModel" (40 : Nat) "RedoShelfModel" "out" "[I") ∈ gW := gW_in (tb_3 (List.mem_of_getElem? (i := 45) rfl)) rfl
theorem gw_3_46 : (Jvm.Cond.fieldLink "RedoShelfModel" (131 : Nat) "RedoShelfModel" "target" "I") ∈ gW := gW_in (tb_3 (List.mem_of_getElem? (i := 46) rfl)) rfl
theorem gw_3_47 : (Jvm.Cond.fieldLink "RedoShelfModel" (134 : Nat) "RedoShelfModel" "place" "I") ∈ gW := gW_in (tb_3 (List.mem_of_getElem? (i := 47) rfl)) rfl
theorem gw_3_48 : (Jvm.Cond.fieldLink "RedoShelfModel" (143 : Nat) "RedoShelfModel" "first" "I") ∈ gW := gW_in (tb_3 (List.mem_of_getElem? (i := 48) rfl)) rfl
theorem gw_3_49 : (Jvm.Cond.fieldLink "RedoShelfModel" (152 : Nat) "RedoShelfModel" "after" "I") ∈ gW := gW_in (tb_3 (List.mem_of_getElem? (i := 49) rfl)) rfl
theorem gw_3_50 : (Jvm.Cond.fieldLink "RedoShelfModel" (149 : Nat) "RedoShelfModel" "length" "I") ∈ gW := gW_in (tb_3 (List.mem_of_getElem? (i := 50) rfl)) rfl
theorem gw_3_51 : (Jvm.Cond.fieldLink "RedoShelfModel" (43 : Nat) "RedoShelfModel" "revoker" "[I") ∈ gW := gW_in (tb_3 (List.mem_of_getElem? (i := 51) rfl)) rfl
theorem gw_3_52 : (Jvm.Cond.fieldLink "RedoShelfModel" (46 : Nat) "RedoShelfModel" "revoked" "[Z") ∈ gW := gW_in (tb_3 (List.mem_of_getElem? (i := 52) rfl)) rfl
theorem gw_4_0 : (Jvm.Cond.methodLink "RedoShelfModel" (53 : Nat) ({ cls := "RedoShelfModel", name := "settle", desc := "(II)V" } : Jvm.MethodName)) ∈ gW := gW_in (tb_4 (List.mem_of_getElem? (i := 0) rfl)) rfl
theorem gw_4_10 : (Jvm.Cond.instanceMethod ({ cls := "RedoShelfModel", name := "recoveryAction", desc := "(I)V" } : Jvm.MethodName)) ∈ gW := gW_in (tb_4 (List.mem_of_getElem? (i := 10) rfl)) rfl
theorem gw_4_11 : (Jvm.Cond.code ({ cls := "RedoShelfModel", name := "recoveryAction", desc := "(I)V" } : Jvm.MethodName) prog_8_method_40_code (3 : Nat) (Option.none : Option Jvm.ClassFile.FieldType)) ∈ gW := gW_in (tb_4 (List.mem_of_getElem? (i := 11) rfl)) rfl
theorem gw_4_12 : (Jvm.Cond.methodLink "RedoShelfModel" (186 : Nat) ({ cls := "RedoShelfModel", name := "finish", desc := "()V" } : Jvm.MethodName)) ∈ gW := gW_in (tb_4 (List.mem_of_getElem? (i := 12) rfl)) rfl
theorem gw_4_14 : (Jvm.Cond.instanceMethod ({ cls := "RedoShelfModel", name := "finish", desc := "()V" } : Jvm.MethodName)) ∈ gW := gW_in (tb_4 (List.mem_of_getElem? (i := 14) rfl)) rfl
theorem gw_4_15 : (Jvm.Cond.code ({ cls := "RedoShelfModel", name := "finish", desc := "()V" } : Jvm.MethodName) prog_8_method_42_code (2 : Nat) (Option.none : Option Jvm.ClassFile.FieldType)) ∈ gW := gW_in (tb_4 (List.mem_of_getElem? (i := 15) rfl)) rfl
theorem gw_4_16 : (Jvm.Cond.methodLink "RedoShelfModel" (168 : Nat) ({ cls := "RedoShelfModel", name := "committed", desc := "()V" } : Jvm.MethodName)) ∈ gW := gW_in (tb_4 (List.mem_of_getElem? (i := 16) rfl)) rfl
theorem gw_4_18 : (Jvm.Cond.instanceMethod ({ cls := "RedoShelfModel", name := "committed", desc := "()V" } : Jvm.MethodName)) ∈ gW := gW_in (tb_4 (List.mem_of_getElem? (i := 18) rfl)) rfl
theorem gw_4_19 : (Jvm.Cond.code ({ cls := "RedoShelfModel", name := "committed", desc := "()V" } : Jvm.MethodName) prog_8_method_27_code (4 : Nat) (Option.none : Option Jvm.ClassFile.FieldType)) ∈ gW := gW_in (tb_4 (List.mem_of_getElem? (i := 19) rfl)) rfl
theorem gw_4_2 : (Jvm.Cond.instanceMethod ({ cls := "RedoShelfModel", name := "settle", desc := "(II)V" } : Jvm.MethodName)) ∈ gW := gW_in (tb_4 (List.mem_of_getElem? (i := 2) rfl)) rfl
theorem gw_4_20 : (Jvm.Cond.methodLink "RedoShelfModel" (171 : Nat) ({ cls := "RedoShelfModel", name := "checkpointed", desc := "()V" } : Jvm.MethodName)) ∈ gW := gW_in (tb_4 (List.mem_of_getElem? (i := 20) rfl)) rfl
theorem gw_4_22 : (Jvm.Cond.instanceMethod ({ cls := "RedoShelfModel", name := "checkpointed", desc := "()V" } : Jvm.MethodName)) ∈ gW := gW_in (tb_4 (List.mem_of_getElem? (i := 22) rfl)) rfl
theorem gw_4_23 : (Jvm.Cond.code ({ cls := "RedoShelfModel", name := "checkpointed", desc := "()V" } : Jvm.MethodName) prog_8_method_31_code (2 : Nat) (Option.none : Option Jvm.ClassFile.FieldType)) ∈ gW := gW_in (tb_4 (List.mem_of_getElem? (i := 23) rfl)) rfl
theorem gw_4_24 : (Jvm.Cond.methodLink "RedoShelfModel" (174 : Nat) ({ cls := "RedoShelfModel", name := "recovered", desc := "()V" } : Jvm.MethodName)) ∈ gW := gW_in (tb_4 (List.mem_of_getElem? (i := 24) rfl)) rfl
theorem gw_4_26 : (Jvm.Cond.instanceMethod ({ cls := "RedoShelfModel", name := "recovered", desc := "()V" } : Jvm.MethodName)) ∈ gW := gW_in (tb_4 (List.mem_of_getElem? (i := 26) rfl)) rfl
theorem gw_4_27 : (Jvm.Cond.code ({ cls := "RedoShelfModel", name := "recovered", desc := "()V" } : Jvm.MethodName) prog_8_method_41_code (2 : Nat) (Option.none : Option Jvm.ClassFile.FieldType)) ∈ gW := gW_in (tb_4 (List.mem_of_getElem? (i := 27) rfl)) rfl
theorem gw_4_3 : (Jvm.Cond.code ({ cls := "RedoShelfModel", name := "settle", desc := "(II)V" } : Jvm.MethodName) prog_8_method_6_code (4 : Nat) (Option.none : Option Jvm.ClassFile.FieldType)) ∈ gW := gW_in (tb_4 (List.mem_of_getElem? (i := 3) rfl)) rfl
theorem gw_4_4 : (Jvm.Cond.methodLink "RedoShelfModel" (180 : Nat) ({ cls := "RedoShelfModel", name := "checkpointAction", desc := "(I)V" } : Jvm.MethodName)) ∈ gW := gW_in (tb_4 (List.mem_of_getElem? (i := 4) rfl)) rfl
theorem gw_4_6 : (Jvm.Cond.instanceMethod ({ cls := "RedoShelfModel", name := "checkpointAction", desc := "(I)V" } : Jvm.MethodName)) ∈ gW := gW_in (tb_4 (List.mem_of_getElem? (i := 6) rfl)) rfl
theorem gw_4_7 : (Jvm.Cond.code ({ cls := "RedoShelfModel", name := "checkpointAction", desc := "(I)V" } : Jvm.MethodName) prog_8_method_30_code (5 : Nat) (Option.none : Option Jvm.ClassFile.FieldType)) ∈ gW := gW_in (tb_4 (List.mem_of_getElem? (i := 7) rfl)) rfl
theorem gw_4_8 : (Jvm.Cond.methodLink "RedoShelfModel" (183 : Nat) ({ cls := "RedoShelfModel", name := "recoveryAction", desc := "(I)V" } : Jvm.MethodName)) ∈ gW := gW_in (tb_4 (List.mem_of_getElem? (i := 8) rfl)) rfl
theorem nw_2_122 : (Jvm.Cond.methodLinkNest "RedoShelf$LogReader" (102 : Nat) ({ cls := "RedoShelf", name := "mix", desc := "(II)I" } : Jvm.MethodName) "RedoShelf") ∈ nW := nW_in (tb_2 (List.mem_of_getElem? (i := 122) rfl)) rfl
theorem nw_2_40 : (Jvm.Cond.methodLinkNest "RedoShelf$Row" (44 : Nat) ({ cls := "RedoShelf", name := "mix", desc := "(II)I" } : Jvm.MethodName) "RedoShelf") ∈ nW := nW_in (tb_2 (List.mem_of_getElem? (i := 40) rfl)) rfl
theorem nw_2_98 : (Jvm.Cond.methodLinkNest "RedoShelf$LogReader" (80 : Nat) ({ cls := "RedoShelf", name := "logSector", desc := "(I)I" } : Jvm.MethodName) "RedoShelf") ∈ nW := nW_in (tb_2 (List.mem_of_getElem? (i := 98) rfl)) rfl
theorem sw_0 : Cond.selects "RedoShelf" ⟨"RedoShelf", "comeUp", "(II)V"⟩ ⟨"RedoShelf", "comeUp", "(II)V"⟩ ∈ gW := gW_in (List.mem_append_left _ (List.mem_of_getElem? (i := 0) rfl)) rfl
theorem sw_1 : Cond.selects "RedoShelf" ⟨"RedoShelf", "isIdle", "()Z"⟩ ⟨"RedoShelf", "isIdle", "()Z"⟩ ∈ gW := gW_in (List.mem_append_left _ (List.mem_of_getElem? (i := 1) rfl)) rfl
theorem sw_10 : Cond.selects "RedoShelf$LogReader" ⟨"RedoShelf$LogReader", "takeTransaction", "(I)Z"⟩ ⟨"RedoShelf$LogReader", "takeTransaction", "(I)Z"⟩ ∈ gW := gW_in (List.mem_append_left _ (List.mem_of_getElem? (i := 10) rfl)) rfl
theorem sw_11 : Cond.selects "RedoShelf$LogReader" ⟨"RedoShelf$LogReader", "passGroups", "(I)V"⟩ ⟨"RedoShelf$LogReader", "passGroups", "(I)V"⟩ ∈ gW := gW_in (List.mem_append_left _ (List.mem_of_getElem? (i := 11) rfl)) rfl
theorem sw_12 : Cond.selects "RedoShelf$LogReader" ⟨"RedoShelf$LogReader", "isOwn", "(I)Z"⟩ ⟨"RedoShelf$LogReader", "isOwn", "(I)Z"⟩ ∈ gW := gW_in (List.mem_append_left _ (List.mem_of_getElem? (i := 12) rfl)) rfl
theorem sw_13 : Cond.selects "RedoShelf$LogReader" ⟨"RedoShelf$LogReader", "wordAt", "(II)I"⟩ ⟨"RedoShelf$LogReader", "wordAt", "(II)I"⟩ ∈ gW := gW_in (List.mem_append_left _ (List.mem_of_getElem? (i := 13) rfl)) rfl
theorem sw_14 : Cond.selects "RedoShelf$LogReader" ⟨"RedoShelf$LogReader", "passSector", "()V"⟩ ⟨"RedoShelf$LogReader", "passSector", "()V"⟩ ∈ gW := gW_in (List.mem_append_left _ (List.mem_of_getElem? (i := 14) rfl)) rfl
theorem sw_15 : Cond.selects "RedoShelf$LogReader" ⟨"RedoShelf$LogReader", "noteImage", "(II)V"⟩ ⟨"RedoShelf$LogReader", "noteImage", "(II)V"⟩ ∈ gW := gW_in (List.mem_append_left _ (List.mem_of_getElem? (i := 15) rfl)) rfl
theorem sw_16 : Cond.selects "RedoShelf$LogReader" ⟨"RedoShelf$LogReader", "passRevocations", "()I"⟩ ⟨"RedoShelf$LogReader", "passRevocations", "()I"⟩ ∈ gW := gW_in (List.mem_append_left _ (List.mem_of_getElem? (i := 16) rfl)) rfl
theorem sw_17 : Cond.selects "RedoShelf$Device" ⟨"RedoShelf$Device", "settle", "(II)V"⟩ ⟨"RedoShelf$Device", "settle", "(II)V"⟩ ∈ gW := gW_in (List.mem_append_left _ (List.mem_of_getElem? (i := 17) rfl)) rfl
theorem sw_18 : Cond.selects "RedoShelf" ⟨"RedoShelf", "finishJob", "()V"⟩ ⟨"RedoShelf", "finishJob", "()V"⟩ ∈ gW := gW_in (List.mem_append_left _ (List.mem_of_getElem? (i := 18) rfl)) rfl
theorem sw_19 : Cond.selects "RedoShelf" ⟨"RedoShelf", "finishCommit", "()V"⟩ ⟨"RedoShelf", "finishCommit", "()V"⟩ ∈ gW := gW_in (List.mem_append_left _ (List.mem_of_getElem? (i := 19) rfl)) rfl
theorem sw_2 : Cond.selects "RedoShelf" ⟨"RedoShelf", "beginImage", "(I)V"⟩ ⟨"RedoShelf", "beginImage", "(I)V"⟩ ∈ gW := gW_in (List.mem_append_left _ (List.mem_of_getElem? (i := 2) rfl)) rfl
theorem sw_20 : Cond.selects "RedoShelf" ⟨"RedoShelf", "isRevoked", "(I)Z"⟩ ⟨"RedoShelf", "isRevoked", "(I)Z"⟩ ∈ gW := gW_in (List.mem_append_left _ (List.mem_of_getElem? (i := 20) rfl)) rfl
theorem sw_21 : Cond.selects "RedoShelfModel" ⟨"RedoShelfModel", "idle", "()Z"⟩ ⟨"RedoShelfModel", "idle", "()Z"⟩ ∈ gW := gW_in (List.mem_append_left _ (List.mem_of_getElem? (i := 21) rfl)) rfl
theorem sw_22 : Cond.selects "RedoShelfModel" ⟨"RedoShelfModel", "countOf", "(I)I"⟩ ⟨"RedoShelfModel", "countOf", "(I)I"⟩ ∈ gW := gW_in (List.mem_append_left _ (List.mem_of_getElem? (i := 22) rfl)) rfl
theorem sw_23 : Cond.selects "RedoShelfModel" ⟨"RedoShelfModel", "writeOut", "(I)V"⟩ ⟨"RedoShelfModel", "writeOut", "(I)V"⟩ ∈ gW := gW_in (List.mem_append_left _ (List.mem_of_getElem? (i := 23) rfl)) rfl
theorem sw_24 : Cond.selects "RedoShelfModel" ⟨"RedoShelfModel", "rowLength", "()I"⟩ ⟨"RedoShelfModel", "rowLength", "()I"⟩ ∈ gW := gW_in (List.mem_append_left _ (List.mem_of_getElem? (i := 24) rfl)) rfl
theorem sw_25 : Cond.selects "RedoShelfModel" ⟨"RedoShelfModel", "countPending", "()I"⟩ ⟨"RedoShelfModel", "countPending", "()I"⟩ ∈ gW := gW_in (List.mem_append_left _ (List.mem_of_getElem? (i := 25) rfl)) rfl
theorem sw_26 : Cond.selects "RedoShelfModel" ⟨"RedoShelfModel", "replay", "(I)I"⟩ ⟨"RedoShelfModel", "replay", "(I)I"⟩ ∈ gW := gW_in (List.mem_append_left _ (List.mem_of_getElem? (i := 26) rfl)) rfl
theorem sw_27 : Cond.selects "RedoShelfModel" ⟨"RedoShelfModel", "findRevocations", "()V"⟩ ⟨"RedoShelfModel", "findRevocations", "()V"⟩ ∈ gW := gW_in (List.mem_append_left _ (List.mem_of_getElem? (i := 27) rfl)) rfl
theorem sw_28 : Cond.selects "RedoShelfModel" ⟨"RedoShelfModel", "findHead", "()V"⟩ ⟨"RedoShelfModel", "findHead", "()V"⟩ ∈ gW := gW_in (List.mem_append_left _ (List.mem_of_getElem? (i := 28) rfl)) rfl
theorem sw_29 : Cond.selects "RedoShelfModel" ⟨"RedoShelfModel", "validAt", "(II)I"⟩ ⟨"RedoShelfModel", "validAt", "(II)I"⟩ ∈ gW := gW_in (List.mem_append_left _ (List.mem_of_getElem? (i := 29) rfl)) rfl
theorem sw_3 : Cond.selects "RedoShelf" ⟨"RedoShelf", "volumeWord", "(II)I"⟩ ⟨"RedoShelf", "volumeWord", "(II)I"⟩ ∈ gW := gW_in (List.mem_append_left _ (List.mem_of_getElem? (i := 3) rfl)) rfl
theorem sw_30 : Cond.selects "RedoShelfModel" ⟨"RedoShelfModel", "logWord", "(II)I"⟩ ⟨"RedoShelfModel", "logWord", "(II)I"⟩ ∈ gW := gW_in (List.mem_append_left _ (List.mem_of_getElem? (i := 30) rfl)) rfl
theorem sw_31 : Cond.selects "RedoShelfModel" ⟨"RedoShelfModel", "mixSector", "(II)I"⟩ ⟨"RedoShelfModel", "mixSector", "(II)I"⟩ ∈ gW := gW_in (List.mem_append_left _ (List.mem_of_getElem? (i := 31) rfl)) rfl
theorem sw_32 : Cond.selects "RedoShelfModel" ⟨"RedoShelfModel", "isRevocation", "(II)Z"⟩ ⟨"RedoShelfModel", "isRevocation", "(II)Z"⟩ ∈ gW := gW_in (List.mem_append_left _ (List.mem_of_getElem? (i := 32) rfl)) rfl
theorem sw_33 : Cond.selects "RedoShelfModel" ⟨"RedoShelfModel", "say", "(IIII)V"⟩ ⟨"RedoShelfModel", "say", "(IIII)V"⟩ ∈ gW := gW_in (List.mem_append_left _ (List.mem_of_getElem? (i := 33) rfl)) rfl
theorem sw_34 : Cond.selects "RedoShelfModel" ⟨"RedoShelfModel", "commitAction", "(I)V"⟩ ⟨"RedoShelfModel", "commitAction", "(I)V"⟩ ∈ gW := gW_in (List.mem_append_left _ (List.mem_of_getElem? (i := 34) rfl)) rfl
theorem sw_35 : Cond.selects "RedoShelfModel" ⟨"RedoShelfModel", "body", "(I)V"⟩ ⟨"RedoShelfModel", "body", "(I)V"⟩ ∈ gW := gW_in (List.mem_append_left _ (List.mem_of_getElem? (i := 35) rfl)) rfl
theorem sw_36 : Cond.selects "RedoShelfModel" ⟨"RedoShelfModel", "revocationWord", "()I"⟩ ⟨"RedoShelfModel", "revocationWord", "()I"⟩ ∈ gW := gW_in (List.mem_append_left _ (List.mem_of_getElem? (i := 36) rfl)) rfl
theorem sw_37 : Cond.selects "RedoShelfModel" ⟨"RedoShelfModel", "groupWord", "(II)I"⟩ ⟨"RedoShelfModel", "groupWord", "(II)I"⟩ ∈ gW := gW_in (List.mem_append_left _ (List.mem_of_getElem? (i := 37) rfl)) rfl
theorem sw_38 : Cond.selects "RedoShelfModel" ⟨"RedoShelfModel", "imageBlock", "(I)I"⟩ ⟨"RedoShelfModel", "imageBlock", "(I)I"⟩ ∈ gW := gW_in (List.mem_append_left _ (List.mem_of_getElem? (i := 38) rfl)) rfl
theorem sw_39 : Cond.selects "RedoShelfModel" ⟨"RedoShelfModel", "sum", "(I)I"⟩ ⟨"RedoShelfModel", "sum", "(I)I"⟩ ∈ gW := gW_in (List.mem_append_left _ (List.mem_of_getElem? (i := 39) rfl)) rfl
theorem sw_4 : Cond.selects "RedoShelf$Row" ⟨"RedoShelf$Row", "addGroup", "(LRedoShelf$Images;II)V"⟩ ⟨"RedoShelf$Row", "addGroup", "(LRedoShelf$Images;II)V"⟩ ∈ gW := gW_in (List.mem_append_left _ (List.mem_of_getElem? (i := 4) rfl)) rfl
theorem sw_40 : Cond.selects "RedoShelfModel" ⟨"RedoShelfModel", "flush", "()V"⟩ ⟨"RedoShelfModel", "flush", "()V"⟩ ∈ gW := gW_in (List.mem_append_left _ (List.mem_of_getElem? (i := 40) rfl)) rfl
theorem sw_41 : Cond.selects "RedoShelfModel" ⟨"RedoShelfModel", "settle", "(II)V"⟩ ⟨"RedoShelfModel", "settle", "(II)V"⟩ ∈ gW := gW_in (List.mem_append_left _ (List.mem_of_getElem? (i := 41) rfl)) rfl
theorem sw_42 : Cond.selects "RedoShelfModel" ⟨"RedoShelfModel", "checkpointAction", "(I)V"⟩ ⟨"RedoShelfModel", "checkpointAction", "(I)V"⟩ ∈ gW := gW_in (List.mem_append_left _ (List.mem_of_getElem? (i := 42) rfl)) rfl
theorem sw_43 : Cond.selects "RedoShelfModel" ⟨"RedoShelfModel", "recoveryAction", "(I)V"⟩ ⟨"RedoShelfModel", "recoveryAction", "(I)V"⟩ ∈ gW := gW_in (List.mem_append_left _ (List.mem_of_getElem? (i := 43) rfl)) rfl
theorem sw_44 : Cond.selects "RedoShelfModel" ⟨"RedoShelfModel", "finish", "()V"⟩ ⟨"RedoShelfModel", "finish", "()V"⟩ ∈ gW := gW_in (List.mem_append_left _ (List.mem_of_getElem? (i := 44) rfl)) rfl
theorem sw_45 : Cond.selects "RedoShelfModel" ⟨"RedoShelfModel", "committed", "()V"⟩ ⟨"RedoShelfModel", "committed", "()V"⟩ ∈ gW := gW_in (List.mem_append_left _ (List.mem_of_getElem? (i := 45) rfl)) rfl
theorem sw_46 : Cond.selects "RedoShelfModel" ⟨"RedoShelfModel", "checkpointed", "()V"⟩ ⟨"RedoShelfModel", "checkpointed", "()V"⟩ ∈ gW := gW_in (List.mem_append_left _ (List.mem_of_getElem? (i := 46) rfl)) rfl
theorem sw_47 : Cond.selects "RedoShelfModel" ⟨"RedoShelfModel", "recovered", "()V"⟩ ⟨"RedoShelfModel", "recovered", "()V"⟩ ∈ gW := gW_in (List.mem_append_left _ (List.mem_of_getElem? (i := 47) rfl)) rfl
theorem sw_5 : Cond.selects "RedoShelf$Row" ⟨"RedoShelf$Row", "add", "(IIII)V"⟩ ⟨"RedoShelf$Row", "add", "(IIII)V"⟩ ∈ gW := gW_in (List.mem_append_left _ (List.mem_of_getElem? (i := 5) rfl)) rfl
theorem sw_6 : Cond.selects "RedoShelf" ⟨"RedoShelf", "planRowSector", "(I)V"⟩ ⟨"RedoShelf", "planRowSector", "(I)V"⟩ ∈ gW := gW_in (List.mem_append_left _ (List.mem_of_getElem? (i := 6) rfl)) rfl
theorem sw_7 : Cond.selects "RedoShelf" ⟨"RedoShelf", "planHead", "(II)V"⟩ ⟨"RedoShelf", "planHead", "(II)V"⟩ ∈ gW := gW_in (List.mem_append_left _ (List.mem_of_getElem? (i := 7) rfl)) rfl
theorem sw_8 : Cond.selects "RedoShelf$LogReader" ⟨"RedoShelf$LogReader", "takeHead", "(LRedoShelf$Device;)V"⟩ ⟨"RedoShelf$LogReader", "takeHead", "(LRedoShelf$Device;)V"⟩ ∈ gW := gW_in (List.mem_append_left _ (List.mem_of_getElem? (i := 8) rfl)) rfl
theorem sw_9 : Cond.selects "RedoShelf$LogReader" ⟨"RedoShelf$LogReader", "takeLog", "(LRedoShelf$Device;)V"⟩ ⟨"RedoShelf$LogReader", "takeLog", "(LRedoShelf$Device;)V"⟩ ∈ gW := gW_in (List.mem_append_left _ (List.mem_of_getElem? (i := 9) rfl)) rfl
end
section
/-! numbers, fields, calls -/
theorem c_bipush_10 : (Int8.ofInt (10)).toInt32 = nI 10 := by decide +kernel
theorem c_bipush_12 : (Int8.ofInt (12)).toInt32 = nI 12 := by decide +kernel
theorem c_bipush_15 : (Int8.ofInt (15)).toInt32 = nI 15 := by decide +kernel
theorem c_bipush_16 : (Int8.ofInt (16)).toInt32 = nI 16 := by decide +kernel
theorem c_bipush_17 : (Int8.ofInt (17)).toInt32 = nI 17 := by decide +kernel
theorem c_bipush_23 : (Int8.ofInt (23)).toInt32 = nI 23 := by decide +kernel
theorem c_bipush_24 : (Int8.ofInt (24)).toInt32 = nI 24 := by decide +kernel
theorem c_bipush_27 : (Int8.ofInt (27)).toInt32 = nI 27 := by decide +kernel
theorem c_bipush_28 : (Int8.ofInt (28)).toInt32 = nI 28 := by decide +kernel
theorem c_bipush_40 : (Int8.ofInt (40)).toInt32 = nI 40 := by decide +kernel
theorem c_bipush_41 : (Int8.ofInt (41)).toInt32 = nI 41 := by decide +kernel
theorem c_bipush_7 : (Int8.ofInt (7)).toInt32 = nI 7 := by decide +kernel
theorem c_bipush_8 : (Int8.ofInt (8)).toInt32 = nI 8 := by decide +kernel
theorem c_bipush_m2 : (Int8.ofInt (-2)).toInt32 = (-2) := by decide +kernel
theorem c_iconst_0 : Int32.ofInt (0) = nI 0 := by decide +kernel
theorem c_iconst_1 : Int32.ofInt (1) = nI 1 := by decide +kernel
theorem c_iconst_2 : Int32.ofInt (2) = nI 2 := by decide +kernel
theorem c_iconst_3 : Int32.ofInt (3) = nI 3 := by decide +kernel
theorem c_iconst_4 : Int32.ofInt (4) = nI 4 := by decide +kernel
theorem c_iconst_5 : Int32.ofInt (5) = nI 5 := by decide +kernel
theorem c_iconst_m1 : Int32.ofInt (-1) = (-1) := by decide +kernel
theorem c_inc_1 (x : Int32) : x + Int32.ofInt (1) = x + nI 1 := by
  rw [show Int32.ofInt (1) = nI 1 by decide +kernel]
theorem c_inc_m1 (x : Int32) : x + Int32.ofInt (-1) = x - nI 1 := by
  rw [show Int32.ofInt (-1) = - nI 1 by decide +kernel]
  exact (Int32.sub_eq_add_neg x (nI 1)).symm
theorem c_lit_40503 : (40503 : Int32) = nI 40503 := by decide +kernel
theorem c_lit_77001 : (77001 : Int32) = nI 77001 := by decide +kernel
theorem ig_RS : ∀ w ∈ u_ws "RedoShelf" T_RS 11, w ∈ gW := fun w h => gW_in (i_RS w h) (by
  obtain ⟨k, hk, rfl⟩ := List.mem_map.mp h
  unfold u_lay
  split <;> rfl)
theorem ig_DV : ∀ w ∈ u_ws "RedoShelf$Device" T_DV 4, w ∈ gW := fun w h => gW_in (i_DV w h) (by
  obtain ⟨k, hk, rfl⟩ := List.mem_map.mp h
  unfold u_lay
  split <;> rfl)
theorem ig_IM : ∀ w ∈ u_ws "RedoShelf$Images" T_IM 3, w ∈ gW := fun w h => gW_in (i_IM w h) (by
  obtain ⟨k, hk, rfl⟩ := List.mem_map.mp h
  unfold u_lay
  split <;> rfl)
theorem ig_RW : ∀ w ∈ u_ws "RedoShelf$Row" T_RW 4, w ∈ gW := fun w h => gW_in (i_RW w h) (by
  obtain ⟨k, hk, rfl⟩ := List.mem_map.mp h
  unfold u_lay
  split <;> rfl)
theorem ig_LR : ∀ w ∈ u_ws "RedoShelf$LogReader" T_LR 13, w ∈ gW := fun w h => gW_in (i_LR w h) (by
  obtain ⟨k, hk, rfl⟩ := List.mem_map.mp h
  unfold u_lay
  split <;> rfl)
theorem ig_JB : ∀ w ∈ u_ws "RedoShelf$Job" T_JB 5, w ∈ gW := fun w h => gW_in (i_JB w h) (by
  obtain ⟨k, hk, rfl⟩ := List.mem_map.mp h
  unfold u_lay
  split <;> rfl)
theorem ig_MD : ∀ w ∈ u_ws "RedoShelfModel" T_MD 23, w ∈ gW := fun w h => gW_in (i_MD w h) (by
  obtain ⟨k, hk, rfl⟩ := List.mem_map.mp h
  unfold u_lay
  split <;> rfl)
theorem fl_DV_15 : FL "RedoShelf$Device" 15 1 1 (.array .int) := ⟨"RedoShelf$Device", T_DV, 4, t_DV, rfl, by decide, ig_DV, rfl, by decide +kernel, t_DV_ok, n_DV, Or.inl gw_1_27⟩
theorem fl_DV_18 : FL "RedoShelf$Device" 18 1 2 (.array .int) := ⟨"RedoShelf$Device", T_DV, 4, t_DV, rfl, by decide, ig_DV, rfl, by decide +kernel, t_DV_ok, n_DV, Or.inl gw_1_28⟩
theorem fl_DV_21 : FL "RedoShelf$Device" 21 1 3 .int := ⟨"RedoShelf$Device", T_DV, 4, t_DV, rfl, by decide, ig_DV, rfl, by decide +kernel, t_DV_ok, n_DV, Or.inl gw_1_29⟩
theorem fl_DV_9 : FL "RedoShelf$Device" 9 1 0 (.array .int) := ⟨"RedoShelf$Device", T_DV, 4, t_DV, rfl, by decide, ig_DV, rfl, by decide +kernel, t_DV_ok, n_DV, Or.inl gw_1_26⟩
theorem fl_IM_15 : FL "RedoShelf$Images" 15 2 1 (.array .int) := ⟨"RedoShelf$Images", T_IM, 3, t_IM, rfl, by decide, ig_IM, rfl, by decide +kernel, t_IM_ok, n_IM, Or.inl gw_1_47⟩
theorem fl_IM_19 : FL "RedoShelf$Images" 19 2 2 .int := ⟨"RedoShelf$Images", T_IM, 3, t_IM, rfl, by decide, ig_IM, rfl, by decide +kernel, t_IM_ok, n_IM, Or.inl gw_1_48⟩
theorem fl_IM_9 : FL "RedoShelf$Images" 9 2 0 (.array .boolean) := ⟨"RedoShelf$Images", T_IM, 3, t_IM, rfl, by decide, ig_IM, rfl, by decide +kernel, t_IM_ok, n_IM, Or.inl gw_1_46⟩
theorem fl_JB_11 : FL "RedoShelf$Job" 11 5 0 (.array .int) := ⟨"RedoShelf$Job", T_JB, 5, t_JB, rfl, by decide, ig_JB, rfl, by decide +kernel, t_JB_ok, n_JB, Or.inl gw_1_128⟩
theorem fl_JB_15 : FL "RedoShelf$Job" 15 5 1 (.array .int) := ⟨"RedoShelf$Job", T_JB, 5, t_JB, rfl, by decide, ig_JB, rfl, by decide +kernel, t_JB_ok, n_JB, Or.inl gw_1_129⟩
theorem fl_JB_18 : FL "RedoShelf$Job" 18 5 2 .int := ⟨"RedoShelf$Job", T_JB, 5, t_JB, rfl, by decide, ig_JB, rfl, by decide +kernel, t_JB_ok, n_JB, Or.inl gw_1_130⟩
theorem fl_JB_22 : FL "RedoShelf$Job" 22 5 3 .int := ⟨"RedoShelf$Job", T_JB, 5, t_JB, rfl, by decide, ig_JB, rfl, by decide +kernel, t_JB_ok, n_JB, Or.inl gw_1_131⟩
theorem fl_JB_25 : FL "RedoShelf$Job" 25 5 4 .int := ⟨"RedoShelf$Job", T_JB, 5, t_JB, rfl, by decide, ig_JB, rfl, by decide +kernel, t_JB_ok, n_JB, Or.inl gw_1_132⟩
theorem fl_LR_15 : FL "RedoShelf$LogReader" 15 4 1 (.array .int) := ⟨"RedoShelf$LogReader", T_LR, 13, t_LR, rfl, by decide, ig_LR, rfl, by decide +kernel, t_LR_ok, n_LR, Or.inl gw_1_83⟩
theorem fl_LR_18 : FL "RedoShelf$LogReader" 18 4 2 (.array .int) := ⟨"RedoShelf$LogReader", T_LR, 13, t_LR, rfl, by decide, ig_LR, rfl, by decide +kernel, t_LR_ok, n_LR, Or.inl gw_1_84⟩
theorem fl_LR_21 : FL "RedoShelf$LogReader" 21 4 3 (.array .boolean) := ⟨"RedoShelf$LogReader", T_LR, 13, t_LR, rfl, by decide, ig_LR, rfl, by decide +kernel, t_LR_ok, n_LR, Or.inl gw_1_85⟩
theorem fl_LR_25 : FL "RedoShelf$LogReader" 25 4 4 (.array .int) := ⟨"RedoShelf$LogReader", T_LR, 13, t_LR, rfl, by decide, ig_LR, rfl, by decide +kernel, t_LR_ok, n_LR, Or.inl gw_1_86⟩
theorem fl_LR_28 : FL "RedoShelf$LogReader" 28 4 5 (.array .int) := ⟨"RedoShelf$LogReader", T_LR, 13, t_LR, rfl, by decide, ig_LR, rfl, by decide +kernel, t_LR_ok, n_LR, Or.inl gw_1_87⟩
theorem fl_LR_31 : FL "RedoShelf$LogReader" 31 4 6 .int := ⟨"RedoShelf$LogReader", T_LR, 13, t_LR, rfl, by decide, ig_LR, rfl, by decide +kernel, t_LR_ok, n_LR, Or.inl gw_1_88⟩
theorem fl_LR_35 : FL "RedoShelf$LogReader" 35 4 7 .int := ⟨"RedoShelf$LogReader", T_LR, 13, t_LR, rfl, by decide, ig_LR, rfl, by decide +kernel, t_LR_ok, n_LR, Or.inl gw_1_89⟩
theorem fl_LR_38 : FL "RedoShelf$LogReader" 38 4 8 .int := ⟨"RedoShelf$LogReader", T_LR, 13, t_LR, rfl, by decide, ig_LR, rfl, by decide +kernel, t_LR_ok, n_LR, Or.inl gw_1_90⟩
theorem fl_LR_41 : FL "RedoShelf$LogReader" 41 4 9 .int := ⟨"RedoShelf$LogReader", T_LR, 13, t_LR, rfl, by decide, ig_LR, rfl, by decide +kernel, t_LR_ok, n_LR, Or.inl gw_1_91⟩
theorem fl_LR_44 : FL "RedoShelf$LogReader" 44 4 10 .int := ⟨"RedoShelf$LogReader", T_LR, 13, t_LR, rfl, by decide, ig_LR, rfl, by decide +kernel, t_LR_ok, n_LR, Or.inl gw_1_92⟩
theorem fl_LR_47 : FL "RedoShelf$LogReader" 47 4 11 .int := ⟨"RedoShelf$LogReader", T_LR, 13, t_LR, rfl, by decide, ig_LR, rfl, by decide +kernel, t_LR_ok, n_LR, Or.inl gw_1_93⟩
theorem fl_LR_50 : FL "RedoShelf$LogReader" 50 4 12 .int := ⟨"RedoShelf$LogReader", T_LR, 13, t_LR, rfl, by decide, ig_LR, rfl, by decide +kernel, t_LR_ok, n_LR, Or.inl gw_1_94⟩
theorem fl_LR_9 : FL "RedoShelf$LogReader" 9 4 0 (.array .int) := ⟨"RedoShelf$LogReader", T_LR, 13, t_LR, rfl, by decide, ig_LR, rfl, by decide +kernel, t_LR_ok, n_LR, Or.inl gw_1_82⟩
theorem fl_MD_110 : FL "RedoShelfModel" 110 6 7 .int := ⟨"RedoShelfModel", T_MD, 23, t_MD, rfl, by decide, ig_MD, rfl, by decide +kernel, t_MD_ok, n_MD, Or.inl gw_3_37⟩
theorem fl_MD_113 : FL "RedoShelfModel" 113 6 13 .int := ⟨"RedoShelfModel", T_MD, 23, t_MD, rfl, by decide, ig_MD, rfl, by decide +kernel, t_MD_ok, n_MD, Or.inl gw_3_43⟩
theorem fl_MD_116 : FL "RedoShelfModel" 116 6 14 .int := ⟨"RedoShelfModel", T_MD, 23, t_MD, rfl, by decide, ig_MD, rfl, by decide +kernel, t_MD_ok, n_MD, Or.inl gw_3_44⟩
theorem fl_MD_119 : FL "RedoShelfModel" 119 6 6 .int := ⟨"RedoShelfModel", T_MD, 23, t_MD, rfl, by decide, ig_MD, rfl, by decide +kernel, t_MD_ok, n_MD, Or.inl gw_3_36⟩
theorem fl_MD_13 : FL "RedoShelfModel" 13 6 2 (.array .int) := ⟨"RedoShelfModel", T_MD, 23, t_MD, rfl, by decide, ig_MD, rfl, by decide +kernel, t_MD_ok, n_MD, Or.inl gw_3_32⟩
theorem fl_MD_131 : FL "RedoShelfModel" 131 6 16 .int := ⟨"RedoShelfModel", T_MD, 23, t_MD, rfl, by decide, ig_MD, rfl, by decide +kernel, t_MD_ok, n_MD, Or.inl gw_3_46⟩
theorem fl_MD_134 : FL "RedoShelfModel" 134 6 17 .int := ⟨"RedoShelfModel", T_MD, 23, t_MD, rfl, by decide, ig_MD, rfl, by decide +kernel, t_MD_ok, n_MD, Or.inl gw_3_47⟩
theorem fl_MD_143 : FL "RedoShelfModel" 143 6 18 .int := ⟨"RedoShelfModel", T_MD, 23, t_MD, rfl, by decide, ig_MD, rfl, by decide +kernel, t_MD_ok, n_MD, Or.inl gw_3_48⟩
theorem fl_MD_149 : FL "RedoShelfModel" 149 6 20 .int := ⟨"RedoShelfModel", T_MD, 23, t_MD, rfl, by decide, ig_MD, rfl, by decide +kernel, t_MD_ok, n_MD, Or.inl gw_3_50⟩
theorem fl_MD_152 : FL "RedoShelfModel" 152 6 19 .int := ⟨"RedoShelfModel", T_MD, 23, t_MD, rfl, by decide, ig_MD, rfl, by decide +kernel, t_MD_ok, n_MD, Or.inl gw_3_49⟩
theorem fl_MD_16 : FL "RedoShelfModel" 16 6 3 (.array .int) := ⟨"RedoShelfModel", T_MD, 23, t_MD, rfl, by decide, ig_MD, rfl, by decide +kernel, t_MD_ok, n_MD, Or.inl gw_3_33⟩
theorem fl_MD_19 : FL "RedoShelfModel" 19 6 4 .boolean := ⟨"RedoShelfModel", T_MD, 23, t_MD, rfl, by decide, ig_MD, rfl, by decide +kernel, t_MD_ok, n_MD, Or.inl gw_3_34⟩
theorem fl_MD_23 : FL "RedoShelfModel" 23 6 5 .int := ⟨"RedoShelfModel", T_MD, 23, t_MD, rfl, by decide, ig_MD, rfl, by decide +kernel, t_MD_ok, n_MD, Or.inl gw_3_35⟩
theorem fl_MD_27 : FL "RedoShelfModel" 27 6 8 (.array .int) := ⟨"RedoShelfModel", T_MD, 23, t_MD, rfl, by decide, ig_MD, rfl, by decide +kernel, t_MD_ok, n_MD, Or.inl gw_3_38⟩
theorem fl_MD_30 : FL "RedoShelfModel" 30 6 9 (.array .int) := ⟨"RedoShelfModel", T_MD, 23, t_MD, rfl, by decide, ig_MD, rfl, by decide +kernel, t_MD_ok, n_MD, Or.inl gw_3_39⟩
theorem fl_MD_33 : FL "RedoShelfModel" 33 6 10 (.array .boolean) := ⟨"RedoShelfModel", T_MD, 23, t_MD, rfl, by decide, ig_MD, rfl, by decide +kernel, t_MD_ok, n_MD, Or.inl gw_3_40⟩
theorem fl_MD_37 : FL "RedoShelfModel" 37 6 11 (.array .int) := ⟨"RedoShelfModel", T_MD, 23, t_MD, rfl, by decide, ig_MD, rfl, by decide +kernel, t_MD_ok, n_MD, Or.inl gw_3_41⟩
theorem fl_MD_40 : FL "RedoShelfModel" 40 6 15 (.array .int) := ⟨"RedoShelfModel", T_MD, 23, t_MD, rfl, by decide, ig_MD, rfl, by decide +kernel, t_MD_ok, n_MD, Or.inl gw_3_45⟩
theorem fl_MD_43 : FL "RedoShelfModel" 43 6 21 (.array .int) := ⟨"RedoShelfModel", T_MD, 23, t_MD, rfl, by decide, ig_MD, rfl, by decide +kernel, t_MD_ok, n_MD, Or.inl gw_3_51⟩
theorem fl_MD_46 : FL "RedoShelfModel" 46 6 22 (.array .boolean) := ⟨"RedoShelfModel", T_MD, 23, t_MD, rfl, by decide, ig_MD, rfl, by decide +kernel, t_MD_ok, n_MD, Or.inl gw_3_52⟩
theorem fl_MD_50 : FL "RedoShelfModel" 50 6 1 .int := ⟨"RedoShelfModel", T_MD, 23, t_MD, rfl, by decide, ig_MD, rfl, by decide +kernel, t_MD_ok, n_MD, Or.inl gw_3_31⟩
theorem fl_MD_69 : FL "RedoShelfModel" 69 6 12 .int := ⟨"RedoShelfModel", T_MD, 23, t_MD, rfl, by decide, ig_MD, rfl, by decide +kernel, t_MD_ok, n_MD, Or.inl gw_3_42⟩
theorem fl_MD_7 : FL "RedoShelfModel" 7 6 0 (.array .int) := ⟨"RedoShelfModel", T_MD, 23, t_MD, rfl, by decide, ig_MD, rfl, by decide +kernel, t_MD_ok, n_MD, Or.inl gw_3_30⟩
theorem fl_RS_12 : FL "RedoShelf" 12 0 0 (.object "RedoShelf$Device") := ⟨"RedoShelf", T_RS, 11, t_RS, rfl, by decide, ig_RS, rfl, by decide +kernel, t_RS_ok, n_RS, Or.inl gw_1_152⟩
theorem fl_RS_121 : FL "RedoShelf" 121 0 9 .int := ⟨"RedoShelf", T_RS, 11, t_RS, rfl, by decide, ig_RS, rfl, by decide +kernel, t_RS_ok, n_RS, Or.inl gw_1_161⟩
theorem fl_RS_127 : FL "RedoShelf" 127 0 6 .boolean := ⟨"RedoShelf", T_RS, 11, t_RS, rfl, by decide, ig_RS, rfl, by decide +kernel, t_RS_ok, n_RS, Or.inl gw_1_158⟩
theorem fl_RS_19 : FL "RedoShelf" 19 0 1 (.object "RedoShelf$Images") := ⟨"RedoShelf", T_RS, 11, t_RS, rfl, by decide, ig_RS, rfl, by decide +kernel, t_RS_ok, n_RS, Or.inl gw_1_153⟩
theorem fl_RS_23 : FL "RedoShelf" 23 0 2 (.object "RedoShelf$Images") := ⟨"RedoShelf", T_RS, 11, t_RS, rfl, by decide, ig_RS, rfl, by decide +kernel, t_RS_ok, n_RS, Or.inl gw_1_154⟩
theorem fl_RS_29 : FL "RedoShelf" 29 0 3 (.object "RedoShelf$Row") := ⟨"RedoShelf", T_RS, 11, t_RS, rfl, by decide, ig_RS, rfl, by decide +kernel, t_RS_ok, n_RS, Or.inl gw_1_155⟩
theorem fl_RS_36 : FL "RedoShelf" 36 0 4 (.object "RedoShelf$LogReader") := ⟨"RedoShelf", T_RS, 11, t_RS, rfl, by decide, ig_RS, rfl, by decide +kernel, t_RS_ok, n_RS, Or.inl gw_1_156⟩
theorem fl_RS_43 : FL "RedoShelf" 43 0 5 (.object "RedoShelf$Job") := ⟨"RedoShelf", T_RS, 11, t_RS, rfl, by decide, ig_RS, rfl, by decide +kernel, t_RS_ok, n_RS, Or.inl gw_1_157⟩
theorem fl_RS_81 : FL "RedoShelf" 81 0 7 .int := ⟨"RedoShelf", T_RS, 11, t_RS, rfl, by decide, ig_RS, rfl, by decide +kernel, t_RS_ok, n_RS, Or.inl gw_1_159⟩
theorem fl_RS_91 : FL "RedoShelf" 91 0 8 .int := ⟨"RedoShelf", T_RS, 11, t_RS, rfl, by decide, ig_RS, rfl, by decide +kernel, t_RS_ok, n_RS, Or.inl gw_1_160⟩
theorem fl_RS_98 : FL "RedoShelf" 98 0 10 .int := ⟨"RedoShelf", T_RS, 11, t_RS, rfl, by decide, ig_RS, rfl, by decide +kernel, t_RS_ok, n_RS, Or.inl gw_1_162⟩
theorem fl_RW_11 : FL "RedoShelf$Row" 11 3 0 (.array .int) := ⟨"RedoShelf$Row", T_RW, 4, t_RW, rfl, by decide, ig_RW, rfl, by decide +kernel, t_RW_ok, n_RW, Or.inl gw_1_63⟩
theorem fl_RW_15 : FL "RedoShelf$Row" 15 3 1 (.array .int) := ⟨"RedoShelf$Row", T_RW, 4, t_RW, rfl, by decide, ig_RW, rfl, by decide +kernel, t_RW_ok, n_RW, Or.inl gw_1_64⟩
theorem fl_RW_18 : FL "RedoShelf$Row" 18 3 2 .int := ⟨"RedoShelf$Row", T_RW, 4, t_RW, rfl, by decide, ig_RW, rfl, by decide +kernel, t_RW_ok, n_RW, Or.inl gw_1_65⟩
theorem fl_RW_22 : FL "RedoShelf$Row" 22 3 3 .int := ⟨"RedoShelf$Row", T_RW, 4, t_RW, rfl, by decide, ig_RW, rfl, by decide +kernel, t_RW_ok, n_RW, Or.inl gw_1_66⟩
theorem fm_DV_21 : FM "RedoShelf$Device" 21 1 3 .int := ⟨fl_DV_21, fun q hq => by cases hq; rfl⟩
theorem fm_IM_19 : FM "RedoShelf$Images" 19 2 2 .int := ⟨fl_IM_19, fun q hq => by cases hq; rfl⟩
theorem fm_JB_18 : FM "RedoShelf$Job" 18 5 2 .int := ⟨fl_JB_18, fun q hq => by cases hq; rfl⟩
theorem fm_JB_22 : FM "RedoShelf$Job" 22 5 3 .int := ⟨fl_JB_22, fun q hq => by cases hq; rfl⟩
theorem fm_JB_25 : FM "RedoShelf$Job" 25 5 4 .int := ⟨fl_JB_25, fun q hq => by cases hq; rfl⟩
theorem fm_LR_31 : FM "RedoShelf$LogReader" 31 4 6 .int := ⟨fl_LR_31, fun q hq => by cases hq; rfl⟩
theorem fm_LR_35 : FM "RedoShelf$LogReader" 35 4 7 .int := ⟨fl_LR_35, fun q hq => by cases hq; rfl⟩
theorem fm_LR_38 : FM "RedoShelf$LogReader" 38 4 8 .int := ⟨fl_LR_38, fun q hq => by cases hq; rfl⟩
theorem fm_LR_41 : FM "RedoShelf$LogReader" 41 4 9 .int := ⟨fl_LR_41, fun q hq => by cases hq; rfl⟩
theorem fm_LR_44 : FM "RedoShelf$LogReader" 44 4 10 .int := ⟨fl_LR_44, fun q hq => by cases hq; rfl⟩
theorem fm_LR_47 : FM "RedoShelf$LogReader" 47 4 11 .int := ⟨fl_LR_47, fun q hq => by cases hq; rfl⟩
theorem fm_LR_50 : FM "RedoShelf$LogReader" 50 4 12 .int := ⟨fl_LR_50, fun q hq => by cases hq; rfl⟩
theorem fm_MD_110 : FM "RedoShelfModel" 110 6 7 .int := ⟨fl_MD_110, fun q hq => by cases hq; rfl⟩
theorem fm_MD_113 : FM "RedoShelfModel" 113 6 13 .int := ⟨fl_MD_113, fun q hq => by cases hq; rfl⟩
theorem fm_MD_116 : FM "RedoShelfModel" 116 6 14 .int := ⟨fl_MD_116, fun q hq => by cases hq; rfl⟩
theorem fm_MD_119 : FM "RedoShelfModel" 119 6 6 .int := ⟨fl_MD_119, fun q hq => by cases hq; rfl⟩
theorem fm_MD_131 : FM "RedoShelfModel" 131 6 16 .int := ⟨fl_MD_131, fun q hq => by cases hq; rfl⟩
theorem fm_MD_134 : FM "RedoShelfModel" 134 6 17 .int := ⟨fl_MD_134, fun q hq => by cases hq; rfl⟩
theorem fm_MD_143 : FM "RedoShelfModel" 143 6 18 .int := ⟨fl_MD_143, fun q hq => by cases hq; rfl⟩
theorem fm_MD_149 : FM "RedoShelfModel" 149 6 20 .int := ⟨fl_MD_149, fun q hq => by cases hq; rfl⟩
theorem fm_MD_152 : FM "RedoShelfModel" 152 6 19 .int := ⟨fl_MD_152, fun q hq => by cases hq; rfl⟩
theorem fm_MD_19 : FM "RedoShelfModel" 19 6 4 .boolean := ⟨fl_MD_19, fun q hq => by cases hq; rfl⟩
theorem fm_MD_23 : FM "RedoShelfModel" 23 6 5 .int := ⟨fl_MD_23, fun q hq => by cases hq; rfl⟩
theorem fm_MD_50 : FM "RedoShelfModel" 50 6 1 .int := ⟨fl_MD_50, fun q hq => by cases hq; rfl⟩
theorem fm_MD_69 : FM "RedoShelfModel" 69 6 12 .int := ⟨fl_MD_69, fun q hq => by cases hq; rfl⟩
theorem fm_RS_121 : FM "RedoShelf" 121 0 9 .int := ⟨fl_RS_121, fun q hq => by cases hq; rfl⟩
theorem fm_RS_127 : FM "RedoShelf" 127 0 6 .boolean := ⟨fl_RS_127, fun q hq => by cases hq; rfl⟩
theorem fm_RS_81 : FM "RedoShelf" 81 0 7 .int := ⟨fl_RS_81, fun q hq => by cases hq; rfl⟩
theorem fm_RS_91 : FM "RedoShelf" 91 0 8 .int := ⟨fl_RS_91, fun q hq => by cases hq; rfl⟩
theorem fm_RS_98 : FM "RedoShelf" 98 0 10 .int := ⟨fl_RS_98, fun q hq => by cases hq; rfl⟩
theorem fm_RW_18 : FM "RedoShelf$Row" 18 3 2 .int := ⟨fl_RW_18, fun q hq => by cases hq; rfl⟩
theorem fm_RW_22 : FM "RedoShelf$Row" 22 3 3 .int := ⟨fl_RW_22, fun q hq => by cases hq; rfl⟩
theorem vb_DV_breakDown_39 : VB M_DV_breakDown M_DV_settle 39 2 := ⟨by decide +kernel, gw_2_177, gw_1_2, ⟨by decide +kernel, by decide +kernel, by decide +kernel⟩, ⟨by decide, by decide⟩, Or.inl gw_2_174⟩
theorem vb_DV_breakDown_43 : VB M_DV_breakDown M_DV_isKept 43 2 := ⟨by decide +kernel, gw_2_222, gw_1_2, ⟨by decide +kernel, by decide +kernel, by decide +kernel⟩, ⟨by decide, by decide⟩, Or.inl gw_2_220⟩
theorem vb_DV_flush_39 : VB M_DV_flush M_DV_settle 39 2 := ⟨by decide +kernel, gw_2_177, gw_1_2, ⟨by decide +kernel, by decide +kernel, by decide +kernel⟩, ⟨by decide, by decide⟩, Or.inl gw_2_174⟩
theorem vb_DV_newestWord_26 : VB M_DV_newestWord M_DV_ownWord 26 2 := ⟨by decide +kernel, gw_1_231, gw_1_2, ⟨by decide +kernel, by decide +kernel, by decide +kernel⟩, ⟨by decide, by decide⟩, Or.inl gw_1_228⟩
theorem vb_DV_writeChanged_36 : VB M_DV_writeChanged M_DV_newestWord 36 2 := ⟨by decide +kernel, gw_1_227, gw_1_2, ⟨by decide +kernel, by decide +kernel, by decide +kernel⟩, ⟨by decide, by decide⟩, Or.inl gw_2_20⟩
theorem vb_IM_copyFrom_29 : VB M_IM_copyFrom M_IM_hold 29 1 := ⟨by decide +kernel, gw_1_239, gw_1_3, ⟨by decide +kernel, by decide +kernel, by decide +kernel⟩, ⟨by decide, by decide⟩, Or.inl gw_2_207⟩
theorem vb_JB_doNext_32 : VB M_JB_doNext M_DV_flush 32 0 := ⟨by decide +kernel, gw_2_173, gw_1_2, ⟨by decide +kernel, by decide +kernel, by decide +kernel⟩, ⟨by decide, by decide⟩, Or.inl gw_2_170⟩
theorem vb_JB_doNext_37 : VB M_JB_doNext M_DV_write 37 3 := ⟨by decide +kernel, gw_2_184, gw_1_2, ⟨by decide +kernel, by decide +kernel, by decide +kernel⟩, ⟨by decide, by decide⟩, Or.inl gw_2_181⟩
theorem vb_JB_end_28 : VB M_JB_end M_JB_begin 28 1 := ⟨by decide +kernel, gw_2_51, gw_1_6, ⟨by decide +kernel, by decide +kernel, by decide +kernel⟩, ⟨by decide, by decide⟩, Or.inl gw_2_197⟩
theorem vb_LR_isOwn_54 : VB M_LR_isOwn M_LR_wordAt 54 2 := ⟨by decide +kernel, gw_2_117, gw_1_5, ⟨by decide +kernel, by decide +kernel, by decide +kernel⟩, ⟨by decide, by decide⟩, Or.inl gw_2_114⟩
theorem vb_LR_passGroups_54 : VB M_LR_passGroups M_LR_wordAt 54 2 := ⟨by decide +kernel, gw_2_117, gw_1_5, ⟨by decide +kernel, by decide +kernel, by decide +kernel⟩, ⟨by decide, by decide⟩, Or.inl gw_2_114⟩
theorem vb_LR_passGroups_92 : VB M_LR_passGroups M_LR_isOwn 92 1 := ⟨by decide +kernel, gw_2_113, gw_1_5, ⟨by decide +kernel, by decide +kernel, by decide +kernel⟩, ⟨by decide, by decide⟩, Or.inl gw_2_110⟩
theorem vb_LR_passGroups_95 : VB M_LR_passGroups M_LR_passSector 95 0 := ⟨by decide +kernel, gw_2_121, gw_1_5, ⟨by decide +kernel, by decide +kernel, by decide +kernel⟩, ⟨by decide, by decide⟩, Or.inl gw_2_118⟩
theorem vb_LR_passGroups_98 : VB M_LR_passGroups M_LR_noteImage 98 2 := ⟨by decide +kernel, gw_2_126, gw_1_5, ⟨by decide +kernel, by decide +kernel, by decide +kernel⟩, ⟨by decide, by decide⟩, Or.inl gw_2_123⟩
theorem vb_LR_passRevocations_54 : VB M_LR_passRevocations M_LR_wordAt 54 2 := ⟨by decide +kernel, gw_2_117, gw_1_5, ⟨by decide +kernel, by decide +kernel, by decide +kernel⟩, ⟨by decide, by decide⟩, Or.inl gw_2_114⟩
theorem vb_LR_passRevocations_92 : VB M_LR_passRevocations M_LR_isOwn 92 1 := ⟨by decide +kernel, gw_2_113, gw_1_5, ⟨by decide +kernel, by decide +kernel, by decide +kernel⟩, ⟨by decide, by decide⟩, Or.inl gw_2_110⟩
theorem vb_LR_passRevocations_95 : VB M_LR_passRevocations M_LR_passSector 95 0 := ⟨by decide +kernel, gw_2_121, gw_1_5, ⟨by decide +kernel, by decide +kernel, by decide +kernel⟩, ⟨by decide, by decide⟩, Or.inl gw_2_118⟩
theorem vb_LR_passSector_102 : VB M_LR_passSector M_RS_mix 102 2 := ⟨by decide +kernel, gw_2_42, gw_1_1, ⟨by decide +kernel, by decide +kernel, by decide +kernel⟩, ⟨by decide, by decide⟩, Or.inr ⟨_, nw_2_122⟩⟩
theorem vb_LR_passSector_54 : VB M_LR_passSector M_LR_wordAt 54 2 := ⟨by decide +kernel, gw_2_117, gw_1_5, ⟨by decide +kernel, by decide +kernel, by decide +kernel⟩, ⟨by decide, by decide⟩, Or.inl gw_2_114⟩
theorem vb_LR_scan_58 : VB M_LR_scan M_LR_takeHead 58 1 := ⟨by decide +kernel, gw_2_91, gw_1_5, ⟨by decide +kernel, by decide +kernel, by decide +kernel⟩, ⟨by decide, by decide⟩, Or.inl gw_2_88⟩
theorem vb_LR_scan_62 : VB M_LR_scan M_LR_takeLog 62 1 := ⟨by decide +kernel, gw_2_97, gw_1_5, ⟨by decide +kernel, by decide +kernel, by decide +kernel⟩, ⟨by decide, by decide⟩, Or.inl gw_2_94⟩
theorem vb_LR_scan_65 : VB M_LR_scan M_JA_fill 65 2 := ⟨by decide +kernel, gw_2_101, gw_1_8, ⟨by decide +kernel, by decide +kernel, by decide +kernel⟩, ⟨by decide, by decide⟩, Or.inl gw_2_99⟩
theorem vb_LR_scan_71 : VB M_LR_scan M_LR_takeTransaction 71 1 := ⟨by decide +kernel, gw_2_105, gw_1_5, ⟨by decide +kernel, by decide +kernel, by decide +kernel⟩, ⟨by decide, by decide⟩, Or.inl gw_2_102⟩
theorem vb_LR_takeHead_75 : VB M_LR_takeHead M_DV_newestWord 75 2 := ⟨by decide +kernel, gw_1_227, gw_1_2, ⟨by decide +kernel, by decide +kernel, by decide +kernel⟩, ⟨by decide, by decide⟩, Or.inl gw_2_92⟩
theorem vb_LR_takeLog_75 : VB M_LR_takeLog M_DV_newestWord 75 2 := ⟨by decide +kernel, gw_1_227, gw_1_2, ⟨by decide +kernel, by decide +kernel, by decide +kernel⟩, ⟨by decide, by decide⟩, Or.inl gw_2_92⟩
theorem vb_LR_takeLog_80 : VB M_LR_takeLog M_RS_logSector 80 1 := ⟨by decide +kernel, gw_2_58, gw_1_1, ⟨by decide +kernel, by decide +kernel, by decide +kernel⟩, ⟨by decide, by decide⟩, Or.inr ⟨_, nw_2_98⟩⟩
theorem vb_LR_takeTransaction_54 : VB M_LR_takeTransaction M_LR_wordAt 54 2 := ⟨by decide +kernel, gw_2_117, gw_1_5, ⟨by decide +kernel, by decide +kernel, by decide +kernel⟩, ⟨by decide, by decide⟩, Or.inl gw_2_114⟩
theorem vb_LR_takeTransaction_84 : VB M_LR_takeTransaction M_LR_passGroups 84 1 := ⟨by decide +kernel, gw_2_109, gw_1_5, ⟨by decide +kernel, by decide +kernel, by decide +kernel⟩, ⟨by decide, by decide⟩, Or.inl gw_2_106⟩
theorem vb_LR_takeTransaction_88 : VB M_LR_takeTransaction M_LR_passRevocations 88 0 := ⟨by decide +kernel, gw_2_130, gw_1_5, ⟨by decide +kernel, by decide +kernel, by decide +kernel⟩, ⟨by decide, by decide⟩, Or.inl gw_2_127⟩
theorem vb_LR_takeTransaction_92 : VB M_LR_takeTransaction M_LR_isOwn 92 1 := ⟨by decide +kernel, gw_2_113, gw_1_5, ⟨by decide +kernel, by decide +kernel, by decide +kernel⟩, ⟨by decide, by decide⟩, Or.inl gw_2_110⟩
theorem vb_LR_word_54 : VB M_LR_word M_LR_wordAt 54 2 := ⟨by decide +kernel, gw_2_117, gw_1_5, ⟨by decide +kernel, by decide +kernel, by decide +kernel⟩, ⟨by decide, by decide⟩, Or.inl gw_2_114⟩
theorem vb_MD_body_76 : VB M_MD_body M_MD_countOf 76 1 := ⟨by decide +kernel, gw_3_134, gw_1_7, ⟨by decide +kernel, by decide +kernel, by decide +kernel⟩, ⟨by decide, by decide⟩, Or.inl gw_3_131⟩
theorem vb_MD_body_87 : VB M_MD_body M_MD_imageBlock 87 1 := ⟨by decide +kernel, gw_3_231, gw_1_7, ⟨by decide +kernel, by decide +kernel, by decide +kernel⟩, ⟨by decide, by decide⟩, Or.inl gw_3_228⟩
theorem vb_MD_body_90 : VB M_MD_body M_MD_revocationWord 90 0 := ⟨by decide +kernel, gw_3_223, gw_1_7, ⟨by decide +kernel, by decide +kernel, by decide +kernel⟩, ⟨by decide, by decide⟩, Or.inl gw_3_220⟩
theorem vb_MD_body_94 : VB M_MD_body M_MD_say 94 4 := ⟨by decide +kernel, gw_3_207, gw_1_7, ⟨by decide +kernel, by decide +kernel, by decide +kernel⟩, ⟨by decide, by decide⟩, Or.inl gw_3_204⟩
theorem vb_MD_body_98 : VB M_MD_body M_MD_groupWord 98 2 := ⟨by decide +kernel, gw_3_227, gw_1_7, ⟨by decide +kernel, by decide +kernel, by decide +kernel⟩, ⟨by decide, by decide⟩, Or.inl gw_3_224⟩
theorem vb_MD_changed_58 : VB M_MD_changed M_MD_isBlock 58 1 := ⟨by decide +kernel, gw_3_118, gw_1_7, ⟨by decide +kernel, by decide +kernel, by decide +kernel⟩, ⟨by decide, by decide⟩, Or.inl gw_3_116⟩
theorem vb_MD_checkpointAction_125 : VB M_MD_checkpointAction M_MD_flush 125 0 := ⟨by decide +kernel, gw_3_239, gw_1_7, ⟨by decide +kernel, by decide +kernel, by decide +kernel⟩, ⟨by decide, by decide⟩, Or.inl gw_3_236⟩
theorem vb_MD_checkpointAction_83 : VB M_MD_checkpointAction M_MD_writeOut 83 1 := ⟨by decide +kernel, gw_3_147, gw_1_7, ⟨by decide +kernel, by decide +kernel, by decide +kernel⟩, ⟨by decide, by decide⟩, Or.inl gw_3_144⟩
theorem vb_MD_checkpointAction_94 : VB M_MD_checkpointAction M_MD_say 94 4 := ⟨by decide +kernel, gw_3_207, gw_1_7, ⟨by decide +kernel, by decide +kernel, by decide +kernel⟩, ⟨by decide, by decide⟩, Or.inl gw_3_204⟩
theorem vb_MD_checkpoint_128 : VB M_MD_checkpoint M_MD_countPending 128 0 := ⟨by decide +kernel, gw_3_167, gw_1_7, ⟨by decide +kernel, by decide +kernel, by decide +kernel⟩, ⟨by decide, by decide⟩, Or.inl gw_3_164⟩
theorem vb_MD_checkpoint_72 : VB M_MD_checkpoint M_MD_idle 72 0 := ⟨by decide +kernel, gw_3_130, gw_1_7, ⟨by decide +kernel, by decide +kernel, by decide +kernel⟩, ⟨by decide, by decide⟩, Or.inl gw_3_127⟩
theorem vb_MD_commitAction_101 : VB M_MD_commitAction M_MD_body 101 1 := ⟨by decide +kernel, gw_3_219, gw_1_7, ⟨by decide +kernel, by decide +kernel, by decide +kernel⟩, ⟨by decide, by decide⟩, Or.inl gw_3_216⟩
theorem vb_MD_commitAction_122 : VB M_MD_commitAction M_MD_sum 122 1 := ⟨by decide +kernel, gw_3_235, gw_1_7, ⟨by decide +kernel, by decide +kernel, by decide +kernel⟩, ⟨by decide, by decide⟩, Or.inl gw_3_232⟩
theorem vb_MD_commitAction_125 : VB M_MD_commitAction M_MD_flush 125 0 := ⟨by decide +kernel, gw_3_239, gw_1_7, ⟨by decide +kernel, by decide +kernel, by decide +kernel⟩, ⟨by decide, by decide⟩, Or.inl gw_3_236⟩
theorem vb_MD_commitAction_83 : VB M_MD_commitAction M_MD_writeOut 83 1 := ⟨by decide +kernel, gw_3_147, gw_1_7, ⟨by decide +kernel, by decide +kernel, by decide +kernel⟩, ⟨by decide, by decide⟩, Or.inl gw_3_144⟩
theorem vb_MD_commitAction_94 : VB M_MD_commitAction M_MD_say 94 4 := ⟨by decide +kernel, gw_3_207, gw_1_7, ⟨by decide +kernel, by decide +kernel, by decide +kernel⟩, ⟨by decide, by decide⟩, Or.inl gw_3_204⟩
theorem vb_MD_commit_107 : VB M_MD_commit M_MD_rowLength 107 0 := ⟨by decide +kernel, gw_3_159, gw_1_7, ⟨by decide +kernel, by decide +kernel, by decide +kernel⟩, ⟨by decide, by decide⟩, Or.inl gw_3_156⟩
theorem vb_MD_commit_72 : VB M_MD_commit M_MD_idle 72 0 := ⟨by decide +kernel, gw_3_130, gw_1_7, ⟨by decide +kernel, by decide +kernel, by decide +kernel⟩, ⟨by decide, by decide⟩, Or.inl gw_3_127⟩
theorem vb_MD_commit_76 : VB M_MD_commit M_MD_countOf 76 1 := ⟨by decide +kernel, gw_3_134, gw_1_7, ⟨by decide +kernel, by decide +kernel, by decide +kernel⟩, ⟨by decide, by decide⟩, Or.inl gw_3_131⟩
theorem vb_MD_crash_53 : VB M_MD_crash M_MD_settle 53 2 := ⟨by decide +kernel, gw_4_3, gw_1_7, ⟨by decide +kernel, by decide +kernel, by decide +kernel⟩, ⟨by decide, by decide⟩, Or.inl gw_4_0⟩
theorem vb_MD_direct_58 : VB M_MD_direct M_MD_isBlock 58 1 := ⟨by decide +kernel, gw_3_118, gw_1_7, ⟨by decide +kernel, by decide +kernel, by decide +kernel⟩, ⟨by decide, by decide⟩, Or.inl gw_3_116⟩
theorem vb_MD_direct_62 : VB M_MD_direct M_MD_isWord 62 1 := ⟨by decide +kernel, gw_3_121, gw_1_7, ⟨by decide +kernel, by decide +kernel, by decide +kernel⟩, ⟨by decide, by decide⟩, Or.inl gw_3_119⟩
theorem vb_MD_direct_65 : VB M_MD_direct M_MD_read 65 2 := ⟨by decide +kernel, gw_3_103, gw_1_7, ⟨by decide +kernel, by decide +kernel, by decide +kernel⟩, ⟨by decide, by decide⟩, Or.inl gw_3_122⟩
theorem vb_MD_direct_72 : VB M_MD_direct M_MD_idle 72 0 := ⟨by decide +kernel, gw_3_130, gw_1_7, ⟨by decide +kernel, by decide +kernel, by decide +kernel⟩, ⟨by decide, by decide⟩, Or.inl gw_3_127⟩
theorem vb_MD_direct_83 : VB M_MD_direct M_MD_writeOut 83 1 := ⟨by decide +kernel, gw_3_147, gw_1_7, ⟨by decide +kernel, by decide +kernel, by decide +kernel⟩, ⟨by decide, by decide⟩, Or.inl gw_3_144⟩
theorem vb_MD_findHead_65 : VB M_MD_findHead M_MD_read 65 2 := ⟨by decide +kernel, gw_3_103, gw_1_7, ⟨by decide +kernel, by decide +kernel, by decide +kernel⟩, ⟨by decide, by decide⟩, Or.inl gw_3_122⟩
theorem vb_MD_findRevocations_137 : VB M_MD_findRevocations M_MD_logWord 137 2 := ⟨by decide +kernel, gw_3_191, gw_1_7, ⟨by decide +kernel, by decide +kernel, by decide +kernel⟩, ⟨by decide, by decide⟩, Or.inl gw_3_188⟩
theorem vb_MD_findRevocations_146 : VB M_MD_findRevocations M_MD_findHead 146 0 := ⟨by decide +kernel, gw_3_183, gw_1_7, ⟨by decide +kernel, by decide +kernel, by decide +kernel⟩, ⟨by decide, by decide⟩, Or.inl gw_3_180⟩
theorem vb_MD_findRevocations_155 : VB M_MD_findRevocations M_MD_validAt 155 2 := ⟨by decide +kernel, gw_3_187, gw_1_7, ⟨by decide +kernel, by decide +kernel, by decide +kernel⟩, ⟨by decide, by decide⟩, Or.inl gw_3_184⟩
theorem vb_MD_findRevocations_158 : VB M_MD_findRevocations M_MD_isRevocation 158 2 := ⟨by decide +kernel, gw_3_203, gw_1_7, ⟨by decide +kernel, by decide +kernel, by decide +kernel⟩, ⟨by decide, by decide⟩, Or.inl gw_3_200⟩
theorem vb_MD_finish_168 : VB M_MD_finish M_MD_committed 168 0 := ⟨by decide +kernel, gw_4_19, gw_1_7, ⟨by decide +kernel, by decide +kernel, by decide +kernel⟩, ⟨by decide, by decide⟩, Or.inl gw_4_16⟩
theorem vb_MD_finish_171 : VB M_MD_finish M_MD_checkpointed 171 0 := ⟨by decide +kernel, gw_4_23, gw_1_7, ⟨by decide +kernel, by decide +kernel, by decide +kernel⟩, ⟨by decide, by decide⟩, Or.inl gw_4_20⟩
theorem vb_MD_finish_174 : VB M_MD_finish M_MD_recovered 174 0 := ⟨by decide +kernel, gw_4_27, gw_1_7, ⟨by decide +kernel, by decide +kernel, by decide +kernel⟩, ⟨by decide, by decide⟩, Or.inl gw_4_24⟩
theorem vb_MD_flush_53 : VB M_MD_flush M_MD_settle 53 2 := ⟨by decide +kernel, gw_4_3, gw_1_7, ⟨by decide +kernel, by decide +kernel, by decide +kernel⟩, ⟨by decide, by decide⟩, Or.inl gw_4_0⟩
theorem vb_MD_get_58 : VB M_MD_get M_MD_isBlock 58 1 := ⟨by decide +kernel, gw_3_118, gw_1_7, ⟨by decide +kernel, by decide +kernel, by decide +kernel⟩, ⟨by decide, by decide⟩, Or.inl gw_3_116⟩
theorem vb_MD_get_62 : VB M_MD_get M_MD_isWord 62 1 := ⟨by decide +kernel, gw_3_121, gw_1_7, ⟨by decide +kernel, by decide +kernel, by decide +kernel⟩, ⟨by decide, by decide⟩, Or.inl gw_3_119⟩
theorem vb_MD_get_65 : VB M_MD_get M_MD_read 65 2 := ⟨by decide +kernel, gw_3_103, gw_1_7, ⟨by decide +kernel, by decide +kernel, by decide +kernel⟩, ⟨by decide, by decide⟩, Or.inl gw_3_122⟩
theorem vb_MD_groupWord_87 : VB M_MD_groupWord M_MD_imageBlock 87 1 := ⟨by decide +kernel, gw_3_231, gw_1_7, ⟨by decide +kernel, by decide +kernel, by decide +kernel⟩, ⟨by decide, by decide⟩, Or.inl gw_3_228⟩
theorem vb_MD_isRevocation_137 : VB M_MD_isRevocation M_MD_logWord 137 2 := ⟨by decide +kernel, gw_3_191, gw_1_7, ⟨by decide +kernel, by decide +kernel, by decide +kernel⟩, ⟨by decide, by decide⟩, Or.inl gw_3_188⟩
theorem vb_MD_logWord_65 : VB M_MD_logWord M_MD_read 65 2 := ⟨by decide +kernel, gw_3_103, gw_1_7, ⟨by decide +kernel, by decide +kernel, by decide +kernel⟩, ⟨by decide, by decide⟩, Or.inl gw_3_122⟩
theorem vb_MD_mixSector_104 : VB M_MD_mixSector M_MD_mix 104 2 := ⟨by decide +kernel, gw_3_198, gw_1_7, ⟨by decide +kernel, by decide +kernel, by decide +kernel⟩, ⟨by decide, by decide⟩, Or.inl gw_3_196⟩
theorem vb_MD_mixSector_137 : VB M_MD_mixSector M_MD_logWord 137 2 := ⟨by decide +kernel, gw_3_191, gw_1_7, ⟨by decide +kernel, by decide +kernel, by decide +kernel⟩, ⟨by decide, by decide⟩, Or.inl gw_3_188⟩
theorem vb_MD_put_58 : VB M_MD_put M_MD_isBlock 58 1 := ⟨by decide +kernel, gw_3_118, gw_1_7, ⟨by decide +kernel, by decide +kernel, by decide +kernel⟩, ⟨by decide, by decide⟩, Or.inl gw_3_116⟩
theorem vb_MD_put_62 : VB M_MD_put M_MD_isWord 62 1 := ⟨by decide +kernel, gw_3_121, gw_1_7, ⟨by decide +kernel, by decide +kernel, by decide +kernel⟩, ⟨by decide, by decide⟩, Or.inl gw_3_119⟩
theorem vb_MD_put_72 : VB M_MD_put M_MD_idle 72 0 := ⟨by decide +kernel, gw_3_130, gw_1_7, ⟨by decide +kernel, by decide +kernel, by decide +kernel⟩, ⟨by decide, by decide⟩, Or.inl gw_3_127⟩
theorem vb_MD_put_76 : VB M_MD_put M_MD_countOf 76 1 := ⟨by decide +kernel, gw_3_134, gw_1_7, ⟨by decide +kernel, by decide +kernel, by decide +kernel⟩, ⟨by decide, by decide⟩, Or.inl gw_3_131⟩
theorem vb_MD_put_80 : VB M_MD_put M_MD_get 80 2 := ⟨by decide +kernel, gw_3_115, gw_1_7, ⟨by decide +kernel, by decide +kernel, by decide +kernel⟩, ⟨by decide, by decide⟩, Or.inl gw_3_135⟩
theorem vb_MD_recover_165 : VB M_MD_recover M_MD_replay 165 1 := ⟨by decide +kernel, gw_3_175, gw_1_7, ⟨by decide +kernel, by decide +kernel, by decide +kernel⟩, ⟨by decide, by decide⟩, Or.inl gw_3_172⟩
theorem vb_MD_recovered_65 : VB M_MD_recovered M_MD_read 65 2 := ⟨by decide +kernel, gw_3_103, gw_1_7, ⟨by decide +kernel, by decide +kernel, by decide +kernel⟩, ⟨by decide, by decide⟩, Or.inl gw_3_122⟩
theorem vb_MD_recoveryAction_125 : VB M_MD_recoveryAction M_MD_flush 125 0 := ⟨by decide +kernel, gw_3_239, gw_1_7, ⟨by decide +kernel, by decide +kernel, by decide +kernel⟩, ⟨by decide, by decide⟩, Or.inl gw_3_236⟩
theorem vb_MD_recoveryAction_162 : VB M_MD_recoveryAction M_MD_findRevocations 162 0 := ⟨by decide +kernel, gw_3_179, gw_1_7, ⟨by decide +kernel, by decide +kernel, by decide +kernel⟩, ⟨by decide, by decide⟩, Or.inl gw_3_176⟩
theorem vb_MD_recoveryAction_165 : VB M_MD_recoveryAction M_MD_replay 165 1 := ⟨by decide +kernel, gw_3_175, gw_1_7, ⟨by decide +kernel, by decide +kernel, by decide +kernel⟩, ⟨by decide, by decide⟩, Or.inl gw_3_172⟩
theorem vb_MD_recoveryAction_83 : VB M_MD_recoveryAction M_MD_writeOut 83 1 := ⟨by decide +kernel, gw_3_147, gw_1_7, ⟨by decide +kernel, by decide +kernel, by decide +kernel⟩, ⟨by decide, by decide⟩, Or.inl gw_3_144⟩
theorem vb_MD_recoveryAction_94 : VB M_MD_recoveryAction M_MD_say 94 4 := ⟨by decide +kernel, gw_3_207, gw_1_7, ⟨by decide +kernel, by decide +kernel, by decide +kernel⟩, ⟨by decide, by decide⟩, Or.inl gw_3_204⟩
theorem vb_MD_replay_137 : VB M_MD_replay M_MD_logWord 137 2 := ⟨by decide +kernel, gw_3_191, gw_1_7, ⟨by decide +kernel, by decide +kernel, by decide +kernel⟩, ⟨by decide, by decide⟩, Or.inl gw_3_188⟩
theorem vb_MD_replay_162 : VB M_MD_replay M_MD_findRevocations 162 0 := ⟨by decide +kernel, gw_3_179, gw_1_7, ⟨by decide +kernel, by decide +kernel, by decide +kernel⟩, ⟨by decide, by decide⟩, Or.inl gw_3_176⟩
theorem vb_MD_replay_94 : VB M_MD_replay M_MD_say 94 4 := ⟨by decide +kernel, gw_3_207, gw_1_7, ⟨by decide +kernel, by decide +kernel, by decide +kernel⟩, ⟨by decide, by decide⟩, Or.inl gw_3_204⟩
theorem vb_MD_revoke_58 : VB M_MD_revoke M_MD_isBlock 58 1 := ⟨by decide +kernel, gw_3_118, gw_1_7, ⟨by decide +kernel, by decide +kernel, by decide +kernel⟩, ⟨by decide, by decide⟩, Or.inl gw_3_116⟩
theorem vb_MD_revoke_72 : VB M_MD_revoke M_MD_idle 72 0 := ⟨by decide +kernel, gw_3_130, gw_1_7, ⟨by decide +kernel, by decide +kernel, by decide +kernel⟩, ⟨by decide, by decide⟩, Or.inl gw_3_127⟩
theorem vb_MD_rowLength_76 : VB M_MD_rowLength M_MD_countOf 76 1 := ⟨by decide +kernel, gw_3_134, gw_1_7, ⟨by decide +kernel, by decide +kernel, by decide +kernel⟩, ⟨by decide, by decide⟩, Or.inl gw_3_131⟩
theorem vb_MD_step_177 : VB M_MD_step M_MD_commitAction 177 1 := ⟨by decide +kernel, gw_3_215, gw_1_7, ⟨by decide +kernel, by decide +kernel, by decide +kernel⟩, ⟨by decide, by decide⟩, Or.inl gw_3_212⟩
theorem vb_MD_step_180 : VB M_MD_step M_MD_checkpointAction 180 1 := ⟨by decide +kernel, gw_4_7, gw_1_7, ⟨by decide +kernel, by decide +kernel, by decide +kernel⟩, ⟨by decide, by decide⟩, Or.inl gw_4_4⟩
theorem vb_MD_step_183 : VB M_MD_step M_MD_recoveryAction 183 1 := ⟨by decide +kernel, gw_4_11, gw_1_7, ⟨by decide +kernel, by decide +kernel, by decide +kernel⟩, ⟨by decide, by decide⟩, Or.inl gw_4_8⟩
theorem vb_MD_step_186 : VB M_MD_step M_MD_finish 186 0 := ⟨by decide +kernel, gw_4_15, gw_1_7, ⟨by decide +kernel, by decide +kernel, by decide +kernel⟩, ⟨by decide, by decide⟩, Or.inl gw_4_12⟩
theorem vb_MD_sum_101 : VB M_MD_sum M_MD_body 101 1 := ⟨by decide +kernel, gw_3_219, gw_1_7, ⟨by decide +kernel, by decide +kernel, by decide +kernel⟩, ⟨by decide, by decide⟩, Or.inl gw_3_216⟩
theorem vb_MD_sum_104 : VB M_MD_sum M_MD_mix 104 2 := ⟨by decide +kernel, gw_3_198, gw_1_7, ⟨by decide +kernel, by decide +kernel, by decide +kernel⟩, ⟨by decide, by decide⟩, Or.inl gw_3_196⟩
theorem vb_MD_validAt_137 : VB M_MD_validAt M_MD_logWord 137 2 := ⟨by decide +kernel, gw_3_191, gw_1_7, ⟨by decide +kernel, by decide +kernel, by decide +kernel⟩, ⟨by decide, by decide⟩, Or.inl gw_3_188⟩
theorem vb_MD_validAt_140 : VB M_MD_validAt M_MD_mixSector 140 2 := ⟨by decide +kernel, gw_3_195, gw_1_7, ⟨by decide +kernel, by decide +kernel, by decide +kernel⟩, ⟨by decide, by decide⟩, Or.inl gw_3_192⟩
theorem vb_RS_beginImage_173 : VB M_RS_beginImage M_RS_volumeWord 173 2 := ⟨by decide +kernel, gw_1_219, gw_1_1, ⟨by decide +kernel, by decide +kernel, by decide +kernel⟩, ⟨by decide, by decide⟩, Or.inl gw_1_216⟩
theorem vb_RS_beginImage_192 : VB M_RS_beginImage M_IM_hold 192 1 := ⟨by decide +kernel, gw_1_239, gw_1_3, ⟨by decide +kernel, by decide +kernel, by decide +kernel⟩, ⟨by decide, by decide⟩, Or.inl gw_1_236⟩
theorem vb_RS_beginImage_71 : VB M_RS_beginImage M_IM_setWord 71 3 := ⟨by decide +kernel, gw_1_235, gw_1_3, ⟨by decide +kernel, by decide +kernel, by decide +kernel⟩, ⟨by decide, by decide⟩, Or.inl gw_1_232⟩
theorem vb_RS_cached_85 : VB M_RS_cached M_DV_waiting 85 0 := ⟨by decide +kernel, gw_2_15, gw_1_2, ⟨by decide +kernel, by decide +kernel, by decide +kernel⟩, ⟨by decide, by decide⟩, Or.inl gw_2_12⟩
theorem vb_RS_changed_188 : VB M_RS_changed M_RS_isRevoked 188 1 := ⟨by decide +kernel, gw_2_211, gw_1_1, ⟨by decide +kernel, by decide +kernel, by decide +kernel⟩, ⟨by decide, by decide⟩, Or.inl gw_2_208⟩
theorem vb_RS_changed_59 : VB M_RS_changed M_IM_holds 59 1 := ⟨by decide +kernel, gw_1_207, gw_1_3, ⟨by decide +kernel, by decide +kernel, by decide +kernel⟩, ⟨by decide, by decide⟩, Or.inl gw_1_204⟩
theorem vb_RS_changed_75 : VB M_RS_changed M_RS_isBlock 75 1 := ⟨by decide +kernel, gw_1_203, gw_1_1, ⟨by decide +kernel, by decide +kernel, by decide +kernel⟩, ⟨by decide, by decide⟩, Or.inl gw_1_201⟩
theorem vb_RS_checkpoint_104 : VB M_RS_checkpoint M_JB_begin 104 1 := ⟨by decide +kernel, gw_2_51, gw_1_6, ⟨by decide +kernel, by decide +kernel, by decide +kernel⟩, ⟨by decide, by decide⟩, Or.inl gw_2_48⟩
theorem vb_RS_checkpoint_113 : VB M_RS_checkpoint M_IM_word 113 2 := ⟨by decide +kernel, gw_1_223, gw_1_3, ⟨by decide +kernel, by decide +kernel, by decide +kernel⟩, ⟨by decide, by decide⟩, Or.inl gw_1_220⟩
theorem vb_RS_checkpoint_117 : VB M_RS_checkpoint M_JB_addWrite 117 5 := ⟨by decide +kernel, gw_2_66, gw_1_6, ⟨by decide +kernel, by decide +kernel, by decide +kernel⟩, ⟨by decide, by decide⟩, Or.inl gw_2_63⟩
theorem vb_RS_checkpoint_124 : VB M_RS_checkpoint M_RS_planHead 124 2 := ⟨by decide +kernel, gw_2_78, gw_1_1, ⟨by decide +kernel, by decide +kernel, by decide +kernel⟩, ⟨by decide, by decide⟩, Or.inl gw_2_75⟩
theorem vb_RS_checkpoint_51 : VB M_RS_checkpoint M_RS_isIdle 51 0 := ⟨by decide +kernel, gw_1_193, gw_1_1, ⟨by decide +kernel, by decide +kernel, by decide +kernel⟩, ⟨by decide, by decide⟩, Or.inl gw_1_190⟩
theorem vb_RS_checkpoint_59 : VB M_RS_checkpoint M_IM_holds 59 1 := ⟨by decide +kernel, gw_1_207, gw_1_3, ⟨by decide +kernel, by decide +kernel, by decide +kernel⟩, ⟨by decide, by decide⟩, Or.inl gw_1_204⟩
theorem vb_RS_checkpoint_63 : VB M_RS_checkpoint M_IM_size 63 0 := ⟨by decide +kernel, gw_1_211, gw_1_3, ⟨by decide +kernel, by decide +kernel, by decide +kernel⟩, ⟨by decide, by decide⟩, Or.inl gw_1_208⟩
theorem vb_RS_comeUp_203 : VB M_RS_comeUp M_IM_clear 203 0 := ⟨by decide +kernel, gw_1_151, gw_1_3, ⟨by decide +kernel, by decide +kernel, by decide +kernel⟩, ⟨by decide, by decide⟩, Or.inl gw_1_148⟩
theorem vb_RS_commit_101 : VB M_RS_commit M_RW_length 101 0 := ⟨by decide +kernel, gw_2_47, gw_1_4, ⟨by decide +kernel, by decide +kernel, by decide +kernel⟩, ⟨by decide, by decide⟩, Or.inl gw_2_44⟩
theorem vb_RS_commit_104 : VB M_RS_commit M_JB_begin 104 1 := ⟨by decide +kernel, gw_2_51, gw_1_6, ⟨by decide +kernel, by decide +kernel, by decide +kernel⟩, ⟨by decide, by decide⟩, Or.inl gw_2_48⟩
theorem vb_RS_commit_107 : VB M_RS_commit M_RS_planRowSector 107 1 := ⟨by decide +kernel, gw_2_55, gw_1_1, ⟨by decide +kernel, by decide +kernel, by decide +kernel⟩, ⟨by decide, by decide⟩, Or.inl gw_2_52⟩
theorem vb_RS_commit_110 : VB M_RS_commit M_JB_addFlush 110 0 := ⟨by decide +kernel, gw_2_70, gw_1_6, ⟨by decide +kernel, by decide +kernel, by decide +kernel⟩, ⟨by decide, by decide⟩, Or.inl gw_2_67⟩
theorem vb_RS_commit_51 : VB M_RS_commit M_RS_isIdle 51 0 := ⟨by decide +kernel, gw_1_193, gw_1_1, ⟨by decide +kernel, by decide +kernel, by decide +kernel⟩, ⟨by decide, by decide⟩, Or.inl gw_1_190⟩
theorem vb_RS_commit_63 : VB M_RS_commit M_IM_size 63 0 := ⟨by decide +kernel, gw_1_211, gw_1_3, ⟨by decide +kernel, by decide +kernel, by decide +kernel⟩, ⟨by decide, by decide⟩, Or.inl gw_1_208⟩
theorem vb_RS_commit_94 : VB M_RS_commit M_RW_build 94 3 := ⟨by decide +kernel, gw_2_28, gw_1_4, ⟨by decide +kernel, by decide +kernel, by decide +kernel⟩, ⟨by decide, by decide⟩, Or.inl gw_2_25⟩
theorem vb_RS_crash_167 : VB M_RS_crash M_JB_end 167 0 := ⟨by decide +kernel, gw_2_196, gw_1_6, ⟨by decide +kernel, by decide +kernel, by decide +kernel⟩, ⟨by decide, by decide⟩, Or.inl gw_2_193⟩
theorem vb_RS_crash_170 : VB M_RS_crash M_DV_breakDown 170 2 := ⟨by decide +kernel, gw_2_219, gw_1_2, ⟨by decide +kernel, by decide +kernel, by decide +kernel⟩, ⟨by decide, by decide⟩, Or.inl gw_2_216⟩
theorem vb_RS_direct_51 : VB M_RS_direct M_RS_isIdle 51 0 := ⟨by decide +kernel, gw_1_193, gw_1_1, ⟨by decide +kernel, by decide +kernel, by decide +kernel⟩, ⟨by decide, by decide⟩, Or.inl gw_1_190⟩
theorem vb_RS_direct_55 : VB M_RS_direct M_RS_isBlockWord 55 2 := ⟨by decide +kernel, gw_1_200, gw_1_1, ⟨by decide +kernel, by decide +kernel, by decide +kernel⟩, ⟨by decide, by decide⟩, Or.inl gw_1_198⟩
theorem vb_RS_direct_59 : VB M_RS_direct M_IM_holds 59 1 := ⟨by decide +kernel, gw_1_207, gw_1_3, ⟨by decide +kernel, by decide +kernel, by decide +kernel⟩, ⟨by decide, by decide⟩, Or.inl gw_1_204⟩
theorem vb_RS_direct_85 : VB M_RS_direct M_DV_waiting 85 0 := ⟨by decide +kernel, gw_2_15, gw_1_2, ⟨by decide +kernel, by decide +kernel, by decide +kernel⟩, ⟨by decide, by decide⟩, Or.inl gw_2_12⟩
theorem vb_RS_direct_88 : VB M_RS_direct M_DV_writeChanged 88 3 := ⟨by decide +kernel, gw_2_19, gw_1_2, ⟨by decide +kernel, by decide +kernel, by decide +kernel⟩, ⟨by decide, by decide⟩, Or.inl gw_2_16⟩
theorem vb_RS_finishCommit_101 : VB M_RS_finishCommit M_RW_length 101 0 := ⟨by decide +kernel, gw_2_47, gw_1_4, ⟨by decide +kernel, by decide +kernel, by decide +kernel⟩, ⟨by decide, by decide⟩, Or.inl gw_2_44⟩
theorem vb_RS_finishCommit_188 : VB M_RS_finishCommit M_RS_isRevoked 188 1 := ⟨by decide +kernel, gw_2_211, gw_1_1, ⟨by decide +kernel, by decide +kernel, by decide +kernel⟩, ⟨by decide, by decide⟩, Or.inl gw_2_208⟩
theorem vb_RS_finishCommit_203 : VB M_RS_finishCommit M_IM_clear 203 0 := ⟨by decide +kernel, gw_1_151, gw_1_3, ⟨by decide +kernel, by decide +kernel, by decide +kernel⟩, ⟨by decide, by decide⟩, Or.inl gw_1_148⟩
theorem vb_RS_finishCommit_206 : VB M_RS_finishCommit M_IM_copyFrom 206 2 := ⟨by decide +kernel, gw_2_205, gw_1_3, ⟨by decide +kernel, by decide +kernel, by decide +kernel⟩, ⟨by decide, by decide⟩, Or.inl gw_2_202⟩
theorem vb_RS_finishCommit_59 : VB M_RS_finishCommit M_IM_holds 59 1 := ⟨by decide +kernel, gw_1_207, gw_1_3, ⟨by decide +kernel, by decide +kernel, by decide +kernel⟩, ⟨by decide, by decide⟩, Or.inl gw_1_204⟩
theorem vb_RS_finishCommit_78 : VB M_RS_finishCommit M_IM_drop 78 1 := ⟨by decide +kernel, gw_2_7, gw_1_3, ⟨by decide +kernel, by decide +kernel, by decide +kernel⟩, ⟨by decide, by decide⟩, Or.inl gw_2_4⟩
theorem vb_RS_finishJob_147 : VB M_RS_finishJob M_LR_numberBehind 147 0 := ⟨by decide +kernel, gw_2_150, gw_1_5, ⟨by decide +kernel, by decide +kernel, by decide +kernel⟩, ⟨by decide, by decide⟩, Or.inl gw_2_147⟩
theorem vb_RS_finishJob_150 : VB M_RS_finishJob M_LR_placeBehind 150 0 := ⟨by decide +kernel, gw_2_154, gw_1_5, ⟨by decide +kernel, by decide +kernel, by decide +kernel⟩, ⟨by decide, by decide⟩, Or.inl gw_2_151⟩
theorem vb_RS_finishJob_167 : VB M_RS_finishJob M_JB_end 167 0 := ⟨by decide +kernel, gw_2_196, gw_1_6, ⟨by decide +kernel, by decide +kernel, by decide +kernel⟩, ⟨by decide, by decide⟩, Or.inl gw_2_193⟩
theorem vb_RS_finishJob_185 : VB M_RS_finishJob M_JB_kind 185 0 := ⟨by decide +kernel, gw_2_192, gw_1_6, ⟨by decide +kernel, by decide +kernel, by decide +kernel⟩, ⟨by decide, by decide⟩, Or.inl gw_2_189⟩
theorem vb_RS_finishJob_200 : VB M_RS_finishJob M_RS_finishCommit 200 0 := ⟨by decide +kernel, gw_2_201, gw_1_1, ⟨by decide +kernel, by decide +kernel, by decide +kernel⟩, ⟨by decide, by decide⟩, Or.inl gw_2_198⟩
theorem vb_RS_finishJob_203 : VB M_RS_finishJob M_IM_clear 203 0 := ⟨by decide +kernel, gw_1_151, gw_1_3, ⟨by decide +kernel, by decide +kernel, by decide +kernel⟩, ⟨by decide, by decide⟩, Or.inl gw_1_148⟩
theorem vb_RS_finishJob_47 : VB M_RS_finishJob M_RS_comeUp 47 2 := ⟨by decide +kernel, gw_1_147, gw_1_1, ⟨by decide +kernel, by decide +kernel, by decide +kernel⟩, ⟨by decide, by decide⟩, Or.inl gw_1_144⟩
theorem vb_RS_get_173 : VB M_RS_get M_RS_volumeWord 173 2 := ⟨by decide +kernel, gw_1_219, gw_1_1, ⟨by decide +kernel, by decide +kernel, by decide +kernel⟩, ⟨by decide, by decide⟩, Or.inl gw_1_216⟩
theorem vb_RS_get_55 : VB M_RS_get M_RS_isBlockWord 55 2 := ⟨by decide +kernel, gw_1_200, gw_1_1, ⟨by decide +kernel, by decide +kernel, by decide +kernel⟩, ⟨by decide, by decide⟩, Or.inl gw_1_198⟩
theorem vb_RS_isBlockWord_75 : VB M_RS_isBlockWord M_RS_isBlock 75 1 := ⟨by decide +kernel, gw_1_203, gw_1_1, ⟨by decide +kernel, by decide +kernel, by decide +kernel⟩, ⟨by decide, by decide⟩, Or.inl gw_1_201⟩
theorem vb_RS_isIdle_131 : VB M_RS_isIdle M_JB_isRunning 131 0 := ⟨by decide +kernel, gw_1_197, gw_1_6, ⟨by decide +kernel, by decide +kernel, by decide +kernel⟩, ⟨by decide, by decide⟩, Or.inl gw_1_194⟩
theorem vb_RS_left_153 : VB M_RS_left M_JB_remaining 153 0 := ⟨by decide +kernel, gw_2_162, gw_1_6, ⟨by decide +kernel, by decide +kernel, by decide +kernel⟩, ⟨by decide, by decide⟩, Or.inl gw_2_159⟩
theorem vb_RS_planHead_110 : VB M_RS_planHead M_JB_addFlush 110 0 := ⟨by decide +kernel, gw_2_70, gw_1_6, ⟨by decide +kernel, by decide +kernel, by decide +kernel⟩, ⟨by decide, by decide⟩, Or.inl gw_2_67⟩
theorem vb_RS_planHead_117 : VB M_RS_planHead M_JB_addWrite 117 5 := ⟨by decide +kernel, gw_2_66, gw_1_6, ⟨by decide +kernel, by decide +kernel, by decide +kernel⟩, ⟨by decide, by decide⟩, Or.inl gw_2_63⟩
theorem vb_RS_planRowSector_117 : VB M_RS_planRowSector M_JB_addWrite 117 5 := ⟨by decide +kernel, gw_2_66, gw_1_6, ⟨by decide +kernel, by decide +kernel, by decide +kernel⟩, ⟨by decide, by decide⟩, Or.inl gw_2_63⟩
theorem vb_RS_planRowSector_195 : VB M_RS_planRowSector M_RS_logSector 195 1 := ⟨by decide +kernel, gw_2_58, gw_1_1, ⟨by decide +kernel, by decide +kernel, by decide +kernel⟩, ⟨by decide, by decide⟩, Or.inl gw_2_56⟩
theorem vb_RS_planRowSector_198 : VB M_RS_planRowSector M_RW_word 198 2 := ⟨by decide +kernel, gw_2_62, gw_1_4, ⟨by decide +kernel, by decide +kernel, by decide +kernel⟩, ⟨by decide, by decide⟩, Or.inl gw_2_59⟩
theorem vb_RS_put_51 : VB M_RS_put M_RS_isIdle 51 0 := ⟨by decide +kernel, gw_1_193, gw_1_1, ⟨by decide +kernel, by decide +kernel, by decide +kernel⟩, ⟨by decide, by decide⟩, Or.inl gw_1_190⟩
theorem vb_RS_put_55 : VB M_RS_put M_RS_isBlockWord 55 2 := ⟨by decide +kernel, gw_1_200, gw_1_1, ⟨by decide +kernel, by decide +kernel, by decide +kernel⟩, ⟨by decide, by decide⟩, Or.inl gw_1_198⟩
theorem vb_RS_put_59 : VB M_RS_put M_IM_holds 59 1 := ⟨by decide +kernel, gw_1_207, gw_1_3, ⟨by decide +kernel, by decide +kernel, by decide +kernel⟩, ⟨by decide, by decide⟩, Or.inl gw_1_204⟩
theorem vb_RS_put_63 : VB M_RS_put M_IM_size 63 0 := ⟨by decide +kernel, gw_1_211, gw_1_3, ⟨by decide +kernel, by decide +kernel, by decide +kernel⟩, ⟨by decide, by decide⟩, Or.inl gw_1_208⟩
theorem vb_RS_put_67 : VB M_RS_put M_RS_beginImage 67 1 := ⟨by decide +kernel, gw_1_215, gw_1_1, ⟨by decide +kernel, by decide +kernel, by decide +kernel⟩, ⟨by decide, by decide⟩, Or.inl gw_1_212⟩
theorem vb_RS_put_71 : VB M_RS_put M_IM_setWord 71 3 := ⟨by decide +kernel, gw_1_235, gw_1_3, ⟨by decide +kernel, by decide +kernel, by decide +kernel⟩, ⟨by decide, by decide⟩, Or.inl gw_1_232⟩
theorem vb_RS_read_176 : VB M_RS_read M_RS_isSectorWord 176 2 := ⟨by decide +kernel, gw_2_233, gw_1_1, ⟨by decide +kernel, by decide +kernel, by decide +kernel⟩, ⟨by decide, by decide⟩, Or.inl gw_2_231⟩
theorem vb_RS_read_179 : VB M_RS_read M_DV_newestWord 179 2 := ⟨by decide +kernel, gw_1_227, gw_1_2, ⟨by decide +kernel, by decide +kernel, by decide +kernel⟩, ⟨by decide, by decide⟩, Or.inl gw_1_224⟩
theorem vb_RS_recover_104 : VB M_RS_recover M_JB_begin 104 1 := ⟨by decide +kernel, gw_2_51, gw_1_6, ⟨by decide +kernel, by decide +kernel, by decide +kernel⟩, ⟨by decide, by decide⟩, Or.inl gw_2_48⟩
theorem vb_RS_recover_117 : VB M_RS_recover M_JB_addWrite 117 5 := ⟨by decide +kernel, gw_2_66, gw_1_6, ⟨by decide +kernel, by decide +kernel, by decide +kernel⟩, ⟨by decide, by decide⟩, Or.inl gw_2_63⟩
theorem vb_RS_recover_124 : VB M_RS_recover M_RS_planHead 124 2 := ⟨by decide +kernel, gw_2_78, gw_1_1, ⟨by decide +kernel, by decide +kernel, by decide +kernel⟩, ⟨by decide, by decide⟩, Or.inl gw_2_75⟩
theorem vb_RS_recover_131 : VB M_RS_recover M_JB_isRunning 131 0 := ⟨by decide +kernel, gw_1_197, gw_1_6, ⟨by decide +kernel, by decide +kernel, by decide +kernel⟩, ⟨by decide, by decide⟩, Or.inl gw_1_194⟩
theorem vb_RS_recover_134 : VB M_RS_recover M_LR_scan 134 1 := ⟨by decide +kernel, gw_2_87, gw_1_5, ⟨by decide +kernel, by decide +kernel, by decide +kernel⟩, ⟨by decide, by decide⟩, Or.inl gw_2_84⟩
theorem vb_RS_recover_138 : VB M_RS_recover M_LR_size 138 0 := ⟨by decide +kernel, gw_2_134, gw_1_5, ⟨by decide +kernel, by decide +kernel, by decide +kernel⟩, ⟨by decide, by decide⟩, Or.inl gw_2_131⟩
theorem vb_RS_recover_139 : VB M_RS_recover M_LR_isToReplay 139 1 := ⟨by decide +kernel, gw_2_138, gw_1_5, ⟨by decide +kernel, by decide +kernel, by decide +kernel⟩, ⟨by decide, by decide⟩, Or.inl gw_2_135⟩
theorem vb_RS_recover_142 : VB M_RS_recover M_LR_block 142 1 := ⟨by decide +kernel, gw_2_142, gw_1_5, ⟨by decide +kernel, by decide +kernel, by decide +kernel⟩, ⟨by decide, by decide⟩, Or.inl gw_2_139⟩
theorem vb_RS_recover_146 : VB M_RS_recover M_LR_word 146 2 := ⟨by decide +kernel, gw_2_146, gw_1_5, ⟨by decide +kernel, by decide +kernel, by decide +kernel⟩, ⟨by decide, by decide⟩, Or.inl gw_2_143⟩
theorem vb_RS_recover_147 : VB M_RS_recover M_LR_numberBehind 147 0 := ⟨by decide +kernel, gw_2_150, gw_1_5, ⟨by decide +kernel, by decide +kernel, by decide +kernel⟩, ⟨by decide, by decide⟩, Or.inl gw_2_147⟩
theorem vb_RS_recover_150 : VB M_RS_recover M_LR_placeBehind 150 0 := ⟨by decide +kernel, gw_2_154, gw_1_5, ⟨by decide +kernel, by decide +kernel, by decide +kernel⟩, ⟨by decide, by decide⟩, Or.inl gw_2_151⟩
theorem vb_RS_revoke_51 : VB M_RS_revoke M_RS_isIdle 51 0 := ⟨by decide +kernel, gw_1_193, gw_1_1, ⟨by decide +kernel, by decide +kernel, by decide +kernel⟩, ⟨by decide, by decide⟩, Or.inl gw_1_190⟩
theorem vb_RS_revoke_75 : VB M_RS_revoke M_RS_isBlock 75 1 := ⟨by decide +kernel, gw_1_203, gw_1_1, ⟨by decide +kernel, by decide +kernel, by decide +kernel⟩, ⟨by decide, by decide⟩, Or.inl gw_1_201⟩
theorem vb_RS_revoke_78 : VB M_RS_revoke M_IM_drop 78 1 := ⟨by decide +kernel, gw_2_7, gw_1_3, ⟨by decide +kernel, by decide +kernel, by decide +kernel⟩, ⟨by decide, by decide⟩, Or.inl gw_2_4⟩
theorem vb_RS_state_131 : VB M_RS_state M_JB_isRunning 131 0 := ⟨by decide +kernel, gw_1_197, gw_1_6, ⟨by decide +kernel, by decide +kernel, by decide +kernel⟩, ⟨by decide, by decide⟩, Or.inl gw_1_194⟩
theorem vb_RS_state_185 : VB M_RS_state M_JB_kind 185 0 := ⟨by decide +kernel, gw_2_192, gw_1_6, ⟨by decide +kernel, by decide +kernel, by decide +kernel⟩, ⟨by decide, by decide⟩, Or.inl gw_2_189⟩
theorem vb_RS_step_131 : VB M_RS_step M_JB_isRunning 131 0 := ⟨by decide +kernel, gw_1_197, gw_1_6, ⟨by decide +kernel, by decide +kernel, by decide +kernel⟩, ⟨by decide, by decide⟩, Or.inl gw_1_194⟩
theorem vb_RS_step_153 : VB M_RS_step M_JB_remaining 153 0 := ⟨by decide +kernel, gw_2_162, gw_1_6, ⟨by decide +kernel, by decide +kernel, by decide +kernel⟩, ⟨by decide, by decide⟩, Or.inl gw_2_159⟩
theorem vb_RS_step_161 : VB M_RS_step M_JB_doNext 161 1 := ⟨by decide +kernel, gw_2_169, gw_1_6, ⟨by decide +kernel, by decide +kernel, by decide +kernel⟩, ⟨by decide, by decide⟩, Or.inl gw_2_166⟩
theorem vb_RS_step_164 : VB M_RS_step M_RS_finishJob 164 0 := ⟨by decide +kernel, gw_2_188, gw_1_1, ⟨by decide +kernel, by decide +kernel, by decide +kernel⟩, ⟨by decide, by decide⟩, Or.inl gw_2_185⟩
theorem vb_RS_stored_176 : VB M_RS_stored M_RS_isSectorWord 176 2 := ⟨by decide +kernel, gw_2_233, gw_1_1, ⟨by decide +kernel, by decide +kernel, by decide +kernel⟩, ⟨by decide, by decide⟩, Or.inl gw_2_231⟩
theorem vb_RS_stored_182 : VB M_RS_stored M_DV_ownWord 182 2 := ⟨by decide +kernel, gw_1_231, gw_1_2, ⟨by decide +kernel, by decide +kernel, by decide +kernel⟩, ⟨by decide, by decide⟩, Or.inl gw_2_238⟩
theorem vb_RS_volumeWord_113 : VB M_RS_volumeWord M_IM_word 113 2 := ⟨by decide +kernel, gw_1_223, gw_1_3, ⟨by decide +kernel, by decide +kernel, by decide +kernel⟩, ⟨by decide, by decide⟩, Or.inl gw_1_220⟩
theorem vb_RS_volumeWord_179 : VB M_RS_volumeWord M_DV_newestWord 179 2 := ⟨by decide +kernel, gw_1_227, gw_1_2, ⟨by decide +kernel, by decide +kernel, by decide +kernel⟩, ⟨by decide, by decide⟩, Or.inl gw_1_224⟩
theorem vb_RS_volumeWord_59 : VB M_RS_volumeWord M_IM_holds 59 1 := ⟨by decide +kernel, gw_1_207, gw_1_3, ⟨by decide +kernel, by decide +kernel, by decide +kernel⟩, ⟨by decide, by decide⟩, Or.inl gw_1_204⟩
theorem vb_RW_addGroup_36 : VB M_RW_addGroup M_RW_add 36 4 := ⟨by decide +kernel, gw_2_39, gw_1_4, ⟨by decide +kernel, by decide +kernel, by decide +kernel⟩, ⟨by decide, by decide⟩, Or.inl gw_2_36⟩
theorem vb_RW_addGroup_40 : VB M_RW_addGroup M_IM_word 40 2 := ⟨by decide +kernel, gw_1_223, gw_1_3, ⟨by decide +kernel, by decide +kernel, by decide +kernel⟩, ⟨by decide, by decide⟩, Or.inl gw_2_34⟩
theorem vb_RW_add_44 : VB M_RW_add M_RS_mix 44 2 := ⟨by decide +kernel, gw_2_42, gw_1_1, ⟨by decide +kernel, by decide +kernel, by decide +kernel⟩, ⟨by decide, by decide⟩, Or.inr ⟨_, nw_2_40⟩⟩
theorem vb_RW_build_25 : VB M_RW_build M_IM_holds 25 1 := ⟨by decide +kernel, gw_1_207, gw_1_3, ⟨by decide +kernel, by decide +kernel, by decide +kernel⟩, ⟨by decide, by decide⟩, Or.inl gw_2_29⟩
theorem vb_RW_build_31 : VB M_RW_build M_RW_addGroup 31 3 := ⟨by decide +kernel, gw_2_33, gw_1_4, ⟨by decide +kernel, by decide +kernel, by decide +kernel⟩, ⟨by decide, by decide⟩, Or.inl gw_2_30⟩
theorem vb_RW_build_36 : VB M_RW_build M_RW_add 36 4 := ⟨by decide +kernel, gw_2_39, gw_1_4, ⟨by decide +kernel, by decide +kernel, by decide +kernel⟩, ⟨by decide, by decide⟩, Or.inl gw_2_36⟩
end
section
theorem d_JA_fill_0 : decode M_JA_fill.2.1 0 = .ok (.iconst (0), 1) := by decide +kernel
theorem d_JA_fill_1 : decode M_JA_fill.2.1 1 = .ok (.istore_n 2, 1) := by decide +kernel
theorem d_JA_fill_2 : decode M_JA_fill.2.1 2 = .ok (.aload_n 0, 1) := by decide +kernel
theorem d_JA_fill_3 : decode M_JA_fill.2.1 3 = .ok (.arraylength, 1) := by decide +kernel
theorem d_JA_fill_4 : decode M_JA_fill.2.1 4 = .ok (.istore_n 3, 1) := by decide +kernel
theorem d_JA_fill_5 : decode M_JA_fill.2.1 5 = .ok (.iload_n 2, 1) := by decide +kernel
theorem d_JA_fill_6 : decode M_JA_fill.2.1 6 = .ok (.iload_n 3, 1) := by decide +kernel
theorem d_JA_fill_7 : decode M_JA_fill.2.1 7 = .ok (.if_icmp .ge (13), 3) := by decide +kernel
theorem d_JA_fill_10 : decode M_JA_fill.2.1 10 = .ok (.aload_n 0, 1) := by decide +kernel
theorem d_JA_fill_11 : decode M_JA_fill.2.1 11 = .ok (.iload_n 2, 1) := by decide +kernel
theorem d_JA_fill_12 : decode M_JA_fill.2.1 12 = .ok (.iload_n 1, 1) := by decide +kernel
theorem d_JA_fill_13 : decode M_JA_fill.2.1 13 = .ok (.iastore, 1) := by decide +kernel
theorem d_JA_fill_14 : decode M_JA_fill.2.1 14 = .ok (.iinc 2 (1), 3) := by decide +kernel
theorem d_JA_fill_17 : decode M_JA_fill.2.1 17 = .ok (.goto (-12), 3) := by decide +kernel
theorem d_JA_fill_20 : decode M_JA_fill.2.1 20 = .ok (.return_, 1) := by decide +kernel
end
section
theorem d_DV_newestWord_0 : decode M_DV_newestWord.2.1 0 = .ok (.aload_n 0, 1) := by decide +kernel
theorem d_DV_newestWord_1 : decode M_DV_newestWord.2.1 1 = .ok (.getfield 21, 3) := by decide +kernel
theorem d_DV_newestWord_4 : decode M_DV_newestWord.2.1 4 = .ok (.iconst (1), 1) := by decide +kernel
theorem d_DV_newestWord_5 : decode M_DV_newestWord.2.1 5 = .ok (.isub, 1) := by decide +kernel
theorem d_DV_newestWord_6 : decode M_DV_newestWord.2.1 6 = .ok (.istore_n 3, 1) := by decide +kernel
theorem d_DV_newestWord_7 : decode M_DV_newestWord.2.1 7 = .ok (.iload_n 3, 1) := by decide +kernel
theorem d_DV_newestWord_8 : decode M_DV_newestWord.2.1 8 = .ok (.ifCond .lt (30), 3) := by decide +kernel
theorem d_DV_newestWord_11 : decode M_DV_newestWord.2.1 11 = .ok (.aload_n 0, 1) := by decide +kernel
theorem d_DV_newestWord_12 : decode M_DV_newestWord.2.1 12 = .ok (.getfield 15, 3) := by decide +kernel
theorem d_DV_newestWord_15 : decode M_DV_newestWord.2.1 15 = .ok (.iload_n 3, 1) := by decide +kernel
theorem d_DV_newestWord_16 : decode M_DV_newestWord.2.1 16 = .ok (.iaload, 1) := by decide +kernel
theorem d_DV_newestWord_17 : decode M_DV_newestWord.2.1 17 = .ok (.iload_n 1, 1) := by decide +kernel
theorem d_DV_newestWord_18 : decode M_DV_newestWord.2.1 18 = .ok (.if_icmp .ne (14), 3) := by decide +kernel
theorem d_DV_newestWord_21 : decode M_DV_newestWord.2.1 21 = .ok (.aload_n 0, 1) := by decide +kernel
theorem d_DV_newestWord_22 : decode M_DV_newestWord.2.1 22 = .ok (.getfield 18, 3) := by decide +kernel
theorem d_DV_newestWord_25 : decode M_DV_newestWord.2.1 25 = .ok (.iload_n 3, 1) := by decide +kernel
theorem d_DV_newestWord_26 : decode M_DV_newestWord.2.1 26 = .ok (.iconst (4), 1) := by decide +kernel
theorem d_DV_newestWord_27 : decode M_DV_newestWord.2.1 27 = .ok (.imul, 1) := by decide +kernel
theorem d_DV_newestWord_28 : decode M_DV_newestWord.2.1 28 = .ok (.iload_n 2, 1) := by decide +kernel
theorem d_DV_newestWord_29 : decode M_DV_newestWord.2.1 29 = .ok (.iadd, 1) := by decide +kernel
theorem d_DV_newestWord_30 : decode M_DV_newestWord.2.1 30 = .ok (.iaload, 1) := by decide +kernel
theorem d_DV_newestWord_31 : decode M_DV_newestWord.2.1 31 = .ok (.ireturn, 1) := by decide +kernel
theorem d_DV_newestWord_32 : decode M_DV_newestWord.2.1 32 = .ok (.iinc 3 (-1), 3) := by decide +kernel
theorem d_DV_newestWord_35 : decode M_DV_newestWord.2.1 35 = .ok (.goto (-28), 3) := by decide +kernel
theorem d_DV_newestWord_38 : decode M_DV_newestWord.2.1 38 = .ok (.aload_n 0, 1) := by decide +kernel
theorem d_DV_newestWord_39 : decode M_DV_newestWord.2.1 39 = .ok (.iload_n 1, 1) := by decide +kernel
theorem d_DV_newestWord_40 : decode M_DV_newestWord.2.1 40 = .ok (.iload_n 2, 1) := by decide +kernel
theorem d_DV_newestWord_41 : decode M_DV_newestWord.2.1 41 = .ok (.invokevirtual 26, 3) := by decide +kernel
theorem d_DV_newestWord_44 : decode M_DV_newestWord.2.1 44 = .ok (.ireturn, 1) := by decide +kernel
theorem d_DV_ownWord_0 : decode M_DV_ownWord.2.1 0 = .ok (.aload_n 0, 1) := by decide +kernel
theorem d_DV_ownWord_1 : decode M_DV_ownWord.2.1 1 = .ok (.getfield 9, 3) := by decide +kernel
theorem d_DV_ownWord_4 : decode M_DV_ownWord.2.1 4 = .ok (.iload_n 1, 1) := by decide +kernel
theorem d_DV_ownWord_5 : decode M_DV_ownWord.2.1 5 = .ok (.iconst (4), 1) := by decide +kernel
theorem d_DV_ownWord_6 : decode M_DV_ownWord.2.1 6 = .ok (.imul, 1) := by decide +kernel
theorem d_DV_ownWord_7 : decode M_DV_ownWord.2.1 7 = .ok (.iload_n 2, 1) := by decide +kernel
theorem d_DV_ownWord_8 : decode M_DV_ownWord.2.1 8 = .ok (.iadd, 1) := by decide +kernel
theorem d_DV_ownWord_9 : decode M_DV_ownWord.2.1 9 = .ok (.iaload, 1) := by decide +kernel
theorem d_DV_ownWord_10 : decode M_DV_ownWord.2.1 10 = .ok (.ireturn, 1) := by decide +kernel
theorem d_DV_write_0 : decode M_DV_write.2.1 0 = .ok (.aload_n 0, 1) := by decide +kernel
theorem d_DV_write_1 : decode M_DV_write.2.1 1 = .ok (.getfield 21, 3) := by decide +kernel
theorem d_DV_write_4 : decode M_DV_write.2.1 4 = .ok (.bipush (28), 2) := by decide +kernel
theorem d_DV_write_6 : decode M_DV_write.2.1 6 = .ok (.if_icmp .lt (4), 3) := by decide +kernel
theorem d_DV_write_9 : decode M_DV_write.2.1 9 = .ok (.return_, 1) := by decide +kernel
theorem d_DV_write_10 : decode M_DV_write.2.1 10 = .ok (.aload_n 2, 1) := by decide +kernel
theorem d_DV_write_11 : decode M_DV_write.2.1 11 = .ok (.iload_n 3, 1) := by decide +kernel
theorem d_DV_write_12 : decode M_DV_write.2.1 12 = .ok (.aload_n 0, 1) := by decide +kernel
theorem d_DV_write_13 : decode M_DV_write.2.1 13 = .ok (.getfield 18, 3) := by decide +kernel
theorem d_DV_write_16 : decode M_DV_write.2.1 16 = .ok (.aload_n 0, 1) := by decide +kernel
theorem d_DV_write_17 : decode M_DV_write.2.1 17 = .ok (.getfield 21, 3) := by decide +kernel
theorem d_DV_write_20 : decode M_DV_write.2.1 20 = .ok (.iconst (4), 1) := by decide +kernel
theorem d_DV_write_21 : decode M_DV_write.2.1 21 = .ok (.imul, 1) := by decide +kernel
theorem d_DV_write_22 : decode M_DV_write.2.1 22 = .ok (.iconst (4), 1) := by decide +kernel
theorem d_DV_write_23 : decode M_DV_write.2.1 23 = .ok (.invokestatic 30, 3) := by decide +kernel
theorem d_DV_write_26 : decode M_DV_write.2.1 26 = .ok (.aload_n 0, 1) := by decide +kernel
theorem d_DV_write_27 : decode M_DV_write.2.1 27 = .ok (.getfield 15, 3) := by decide +kernel
theorem d_DV_write_30 : decode M_DV_write.2.1 30 = .ok (.aload_n 0, 1) := by decide +kernel
theorem d_DV_write_31 : decode M_DV_write.2.1 31 = .ok (.getfield 21, 3) := by decide +kernel
theorem d_DV_write_34 : decode M_DV_write.2.1 34 = .ok (.iload_n 1, 1) := by decide +kernel
theorem d_DV_write_35 : decode M_DV_write.2.1 35 = .ok (.iastore, 1) := by decide +kernel
theorem d_DV_write_36 : decode M_DV_write.2.1 36 = .ok (.aload_n 0, 1) := by decide +kernel
theorem d_DV_write_37 : decode M_DV_write.2.1 37 = .ok (.dup, 1) := by decide +kernel
theorem d_DV_write_38 : decode M_DV_write.2.1 38 = .ok (.getfield 21, 3) := by decide +kernel
theorem d_DV_write_41 : decode M_DV_write.2.1 41 = .ok (.iconst (1), 1) := by decide +kernel
theorem d_DV_write_42 : decode M_DV_write.2.1 42 = .ok (.iadd, 1) := by decide +kernel
theorem d_DV_write_43 : decode M_DV_write.2.1 43 = .ok (.putfield 21, 3) := by decide +kernel
theorem d_DV_write_46 : decode M_DV_write.2.1 46 = .ok (.return_, 1) := by decide +kernel
theorem d_DV_writeChanged_0 : decode M_DV_writeChanged.2.1 0 = .ok (.aload_n 0, 1) := by decide +kernel
theorem d_DV_writeChanged_1 : decode M_DV_writeChanged.2.1 1 = .ok (.getfield 21, 3) := by decide +kernel
theorem d_DV_writeChanged_4 : decode M_DV_writeChanged.2.1 4 = .ok (.bipush (28), 2) := by decide +kernel
theorem d_DV_writeChanged_6 : decode M_DV_writeChanged.2.1 6 = .ok (.if_icmp .lt (4), 3) := by decide +kernel
theorem d_DV_writeChanged_9 : decode M_DV_writeChanged.2.1 9 = .ok (.return_, 1) := by decide +kernel
theorem d_DV_writeChanged_10 : decode M_DV_writeChanged.2.1 10 = .ok (.aload_n 0, 1) := by decide +kernel
theorem d_DV_writeChanged_11 : decode M_DV_writeChanged.2.1 11 = .ok (.getfield 21, 3) := by decide +kernel
theorem d_DV_writeChanged_14 : decode M_DV_writeChanged.2.1 14 = .ok (.iconst (4), 1) := by decide +kernel
theorem d_DV_writeChanged_15 : decode M_DV_writeChanged.2.1 15 = .ok (.imul, 1) := by decide +kernel
theorem d_DV_writeChanged_16 : decode M_DV_writeChanged.2.1 16 = .ok (.istore 4, 2) := by decide +kernel
theorem d_DV_writeChanged_18 : decode M_DV_writeChanged.2.1 18 = .ok (.iconst (0), 1) := by decide +kernel
theorem d_DV_writeChanged_19 : decode M_DV_writeChanged.2.1 19 = .ok (.istore 5, 2) := by decide +kernel
theorem d_DV_writeChanged_21 : decode M_DV_writeChanged.2.1 21 = .ok (.iload 5, 2) := by decide +kernel
theorem d_DV_writeChanged_23 : decode M_DV_writeChanged.2.1 23 = .ok (.iconst (4), 1) := by decide +kernel
theorem d_DV_writeChanged_24 : decode M_DV_writeChanged.2.1 24 = .ok (.if_icmp .ge (36), 3) := by decide +kernel
theorem d_DV_writeChanged_27 : decode M_DV_writeChanged.2.1 27 = .ok (.aload_n 0, 1) := by decide +kernel
theorem d_DV_writeChanged_28 : decode M_DV_writeChanged.2.1 28 = .ok (.getfield 18, 3) := by decide +kernel
theorem d_DV_writeChanged_31 : decode M_DV_writeChanged.2.1 31 = .ok (.iload 4, 2) := by decide +kernel
theorem d_DV_writeChanged_33 : decode M_DV_writeChanged.2.1 33 = .ok (.iload 5, 2) := by decide +kernel
theorem d_DV_writeChanged_35 : decode M_DV_writeChanged.2.1 35 = .ok (.iadd, 1) := by decide +kernel
theorem d_DV_writeChanged_36 : decode M_DV_writeChanged.2.1 36 = .ok (.iload 5, 2) := by decide +kernel
theorem d_DV_writeChanged_38 : decode M_DV_writeChanged.2.1 38 = .ok (.iload_n 2, 1) := by decide +kernel
theorem d_DV_writeChanged_39 : decode M_DV_writeChanged.2.1 39 = .ok (.if_icmp .ne (7), 3) := by decide +kernel
theorem d_DV_writeChanged_42 : decode M_DV_writeChanged.2.1 42 = .ok (.iload_n 3, 1) := by decide +kernel
theorem d_DV_writeChanged_43 : decode M_DV_writeChanged.2.1 43 = .ok (.goto (10), 3) := by decide +kernel
theorem d_DV_writeChanged_46 : decode M_DV_writeChanged.2.1 46 = .ok (.aload_n 0, 1) := by decide +kernel
theorem d_DV_writeChanged_47 : decode M_DV_writeChanged.2.1 47 = .ok (.iload_n 1, 1) := by decide +kernel
theorem d_DV_writeChanged_48 : decode M_DV_writeChanged.2.1 48 = .ok (.iload 5, 2) := by decide +kernel
theorem d_DV_writeChanged_50 : decode M_DV_writeChanged.2.1 50 = .ok (.invokevirtual 36, 3) := by decide +kernel
theorem d_DV_writeChanged_53 : decode M_DV_writeChanged.2.1 53 = .ok (.iastore, 1) := by decide +kernel
theorem d_DV_writeChanged_54 : decode M_DV_writeChanged.2.1 54 = .ok (.iinc 5 (1), 3) := by decide +kernel
theorem d_DV_writeChanged_57 : decode M_DV_writeChanged.2.1 57 = .ok (.goto (-36), 3) := by decide +kernel
theorem d_DV_writeChanged_60 : decode M_DV_writeChanged.2.1 60 = .ok (.aload_n 0, 1) := by decide +kernel
theorem d_DV_writeChanged_61 : decode M_DV_writeChanged.2.1 61 = .ok (.getfield 15, 3) := by decide +kernel
theorem d_DV_writeChanged_64 : decode M_DV_writeChanged.2.1 64 = .ok (.aload_n 0, 1) := by decide +kernel
theorem d_DV_writeChanged_65 : decode M_DV_writeChanged.2.1 65 = .ok (.getfield 21, 3) := by decide +kernel
theorem d_DV_writeChanged_68 : decode M_DV_writeChanged.2.1 68 = .ok (.iload_n 1, 1) := by decide +kernel
theorem d_DV_writeChanged_69 : decode M_DV_writeChanged.2.1 69 = .ok (.iastore, 1) := by decide +kernel
theorem d_DV_writeChanged_70 : decode M_DV_writeChanged.2.1 70 = .ok (.aload_n 0, 1) := by decide +kernel
theorem d_DV_writeChanged_71 : decode M_DV_writeChanged.2.1 71 = .ok (.dup, 1) := by decide +kernel
theorem d_DV_writeChanged_72 : decode M_DV_writeChanged.2.1 72 = .ok (.getfield 21, 3) := by decide +kernel
theorem d_DV_writeChanged_75 : decode M_DV_writeChanged.2.1 75 = .ok (.iconst (1), 1) := by decide +kernel
theorem d_DV_writeChanged_76 : decode M_DV_writeChanged.2.1 76 = .ok (.iadd, 1) := by decide +kernel
theorem d_DV_writeChanged_77 : decode M_DV_writeChanged.2.1 77 = .ok (.putfield 21, 3) := by decide +kernel
theorem d_DV_writeChanged_80 : decode M_DV_writeChanged.2.1 80 = .ok (.return_, 1) := by decide +kernel
theorem d_DV_flush_0 : decode M_DV_flush.2.1 0 = .ok (.iconst (0), 1) := by decide +kernel
theorem d_DV_flush_1 : decode M_DV_flush.2.1 1 = .ok (.istore_n 1, 1) := by decide +kernel
theorem d_DV_flush_2 : decode M_DV_flush.2.1 2 = .ok (.iload_n 1, 1) := by decide +kernel
theorem d_DV_flush_3 : decode M_DV_flush.2.1 3 = .ok (.aload_n 0, 1) := by decide +kernel
theorem d_DV_flush_4 : decode M_DV_flush.2.1 4 = .ok (.getfield 21, 3) := by decide +kernel
theorem d_DV_flush_7 : decode M_DV_flush.2.1 7 = .ok (.if_icmp .ge (15), 3) := by decide +kernel
theorem d_DV_flush_10 : decode M_DV_flush.2.1 10 = .ok (.aload_n 0, 1) := by decide +kernel
theorem d_DV_flush_11 : decode M_DV_flush.2.1 11 = .ok (.iload_n 1, 1) := by decide +kernel
theorem d_DV_flush_12 : decode M_DV_flush.2.1 12 = .ok (.iconst (4), 1) := by decide +kernel
theorem d_DV_flush_13 : decode M_DV_flush.2.1 13 = .ok (.invokevirtual 39, 3) := by decide +kernel
theorem d_DV_flush_16 : decode M_DV_flush.2.1 16 = .ok (.iinc 1 (1), 3) := by decide +kernel
theorem d_DV_flush_19 : decode M_DV_flush.2.1 19 = .ok (.goto (-17), 3) := by decide +kernel
theorem d_DV_flush_22 : decode M_DV_flush.2.1 22 = .ok (.aload_n 0, 1) := by decide +kernel
theorem d_DV_flush_23 : decode M_DV_flush.2.1 23 = .ok (.iconst (0), 1) := by decide +kernel
theorem d_DV_flush_24 : decode M_DV_flush.2.1 24 = .ok (.putfield 21, 3) := by decide +kernel
theorem d_DV_flush_27 : decode M_DV_flush.2.1 27 = .ok (.return_, 1) := by decide +kernel
theorem d_DV_breakDown_0 : decode M_DV_breakDown.2.1 0 = .ok (.iconst (0), 1) := by decide +kernel
theorem d_DV_breakDown_1 : decode M_DV_breakDown.2.1 1 = .ok (.istore_n 3, 1) := by decide +kernel
theorem d_DV_breakDown_2 : decode M_DV_breakDown.2.1 2 = .ok (.iconst (-1), 1) := by decide +kernel
theorem d_DV_breakDown_3 : decode M_DV_breakDown.2.1 3 = .ok (.istore 4, 2) := by decide +kernel
theorem d_DV_breakDown_5 : decode M_DV_breakDown.2.1 5 = .ok (.iconst (0), 1) := by decide +kernel
theorem d_DV_breakDown_6 : decode M_DV_breakDown.2.1 6 = .ok (.istore 5, 2) := by decide +kernel
theorem d_DV_breakDown_8 : decode M_DV_breakDown.2.1 8 = .ok (.iload 5, 2) := by decide +kernel
theorem d_DV_breakDown_10 : decode M_DV_breakDown.2.1 10 = .ok (.aload_n 0, 1) := by decide +kernel
theorem d_DV_breakDown_11 : decode M_DV_breakDown.2.1 11 = .ok (.getfield 21, 3) := by decide +kernel
theorem d_DV_breakDown_14 : decode M_DV_breakDown.2.1 14 = .ok (.if_icmp .ge (28), 3) := by decide +kernel
theorem d_DV_breakDown_17 : decode M_DV_breakDown.2.1 17 = .ok (.iload_n 1, 1) := by decide +kernel
theorem d_DV_breakDown_18 : decode M_DV_breakDown.2.1 18 = .ok (.iload 5, 2) := by decide +kernel
theorem d_DV_breakDown_20 : decode M_DV_breakDown.2.1 20 = .ok (.invokestatic 43, 3) := by decide +kernel
theorem d_DV_breakDown_23 : decode M_DV_breakDown.2.1 23 = .ok (.ifCond .eq (10), 3) := by decide +kernel
theorem d_DV_breakDown_26 : decode M_DV_breakDown.2.1 26 = .ok (.iload 5, 2) := by decide +kernel
theorem d_DV_breakDown_28 : decode M_DV_breakDown.2.1 28 = .ok (.istore 4, 2) := by decide +kernel
theorem d_DV_breakDown_30 : decode M_DV_breakDown.2.1 30 = .ok (.goto (6), 3) := by decide +kernel
theorem d_DV_breakDown_33 : decode M_DV_breakDown.2.1 33 = .ok (.iinc 3 (1), 3) := by decide +kernel
theorem d_DV_breakDown_36 : decode M_DV_breakDown.2.1 36 = .ok (.iinc 5 (1), 3) := by decide +kernel
theorem d_DV_breakDown_39 : decode M_DV_breakDown.2.1 39 = .ok (.goto (-31), 3) := by decide +kernel
theorem d_DV_breakDown_42 : decode M_DV_breakDown.2.1 42 = .ok (.iload_n 2, 1) := by decide +kernel
theorem d_DV_breakDown_43 : decode M_DV_breakDown.2.1 43 = .ok (.ifCond .lt (12), 3) := by decide +kernel
theorem d_DV_breakDown_46 : decode M_DV_breakDown.2.1 46 = .ok (.iload_n 2, 1) := by decide +kernel
theorem d_DV_breakDown_47 : decode M_DV_breakDown.2.1 47 = .ok (.iconst (4), 1) := by decide +kernel
theorem d_DV_breakDown_48 : decode M_DV_breakDown.2.1 48 = .ok (.if_icmp .ge (7), 3) := by decide +kernel
theorem d_DV_breakDown_51 : decode M_DV_breakDown.2.1 51 = .ok (.iconst (1), 1) := by decide +kernel
theorem d_DV_breakDown_52 : decode M_DV_breakDown.2.1 52 = .ok (.goto (4), 3) := by decide +kernel
theorem d_DV_breakDown_55 : decode M_DV_breakDown.2.1 55 = .ok (.iconst (0), 1) := by decide +kernel
theorem d_DV_breakDown_56 : decode M_DV_breakDown.2.1 56 = .ok (.istore 5, 2) := by decide +kernel
theorem d_DV_breakDown_58 : decode M_DV_breakDown.2.1 58 = .ok (.iconst (0), 1) := by decide +kernel
theorem d_DV_breakDown_59 : decode M_DV_breakDown.2.1 59 = .ok (.istore 6, 2) := by decide +kernel
theorem d_DV_breakDown_61 : decode M_DV_breakDown.2.1 61 = .ok (.iload 6, 2) := by decide +kernel
theorem d_DV_breakDown_63 : decode M_DV_breakDown.2.1 63 = .ok (.iload 4, 2) := by decide +kernel
theorem d_DV_breakDown_65 : decode M_DV_breakDown.2.1 65 = .ok (.if_icmp .gt (41), 3) := by decide +kernel
theorem d_DV_breakDown_68 : decode M_DV_breakDown.2.1 68 = .ok (.iload_n 1, 1) := by decide +kernel
theorem d_DV_breakDown_69 : decode M_DV_breakDown.2.1 69 = .ok (.iload 6, 2) := by decide +kernel
theorem d_DV_breakDown_71 : decode M_DV_breakDown.2.1 71 = .ok (.invokestatic 43, 3) := by decide +kernel
theorem d_DV_breakDown_74 : decode M_DV_breakDown.2.1 74 = .ok (.ifCond .eq (26), 3) := by decide +kernel
theorem d_DV_breakDown_77 : decode M_DV_breakDown.2.1 77 = .ok (.aload_n 0, 1) := by decide +kernel
theorem d_DV_breakDown_78 : decode M_DV_breakDown.2.1 78 = .ok (.iload 6, 2) := by decide +kernel
theorem d_DV_breakDown_80 : decode M_DV_breakDown.2.1 80 = .ok (.iload 5, 2) := by decide +kernel
theorem d_DV_breakDown_82 : decode M_DV_breakDown.2.1 82 = .ok (.ifCond .eq (14), 3) := by decide +kernel
theorem d_DV_breakDown_85 : decode M_DV_breakDown.2.1 85 = .ok (.iload 6, 2) := by decide +kernel
theorem d_DV_breakDown_87 : decode M_DV_breakDown.2.1 87 = .ok (.iload 4, 2) := by decide +kernel
theorem d_DV_breakDown_89 : decode M_DV_breakDown.2.1 89 = .ok (.if_icmp .ne (7), 3) := by decide +kernel
theorem d_DV_breakDown_92 : decode M_DV_breakDown.2.1 92 = .ok (.iload_n 2, 1) := by decide +kernel
theorem d_DV_breakDown_93 : decode M_DV_breakDown.2.1 93 = .ok (.goto (4), 3) := by decide +kernel
theorem d_DV_breakDown_96 : decode M_DV_breakDown.2.1 96 = .ok (.iconst (4), 1) := by decide +kernel
theorem d_DV_breakDown_97 : decode M_DV_breakDown.2.1 97 = .ok (.invokevirtual 39, 3) := by decide +kernel
theorem d_DV_breakDown_100 : decode M_DV_breakDown.2.1 100 = .ok (.iinc 6 (1), 3) := by decide +kernel
theorem d_DV_breakDown_103 : decode M_DV_breakDown.2.1 103 = .ok (.goto (-42), 3) := by decide +kernel
theorem d_DV_breakDown_106 : decode M_DV_breakDown.2.1 106 = .ok (.aload_n 0, 1) := by decide +kernel
theorem d_DV_breakDown_107 : decode M_DV_breakDown.2.1 107 = .ok (.iconst (0), 1) := by decide +kernel
theorem d_DV_breakDown_108 : decode M_DV_breakDown.2.1 108 = .ok (.putfield 21, 3) := by decide +kernel
theorem d_DV_breakDown_111 : decode M_DV_breakDown.2.1 111 = .ok (.iload_n 3, 1) := by decide +kernel
theorem d_DV_breakDown_112 : decode M_DV_breakDown.2.1 112 = .ok (.ireturn, 1) := by decide +kernel
theorem d_DV_isKept_0 : decode M_DV_isKept.2.1 0 = .ok (.iload_n 0, 1) := by decide +kernel
theorem d_DV_isKept_1 : decode M_DV_isKept.2.1 1 = .ok (.iload_n 1, 1) := by decide +kernel
theorem d_DV_isKept_2 : decode M_DV_isKept.2.1 2 = .ok (.iushr, 1) := by decide +kernel
theorem d_DV_isKept_3 : decode M_DV_isKept.2.1 3 = .ok (.iconst (1), 1) := by decide +kernel
theorem d_DV_isKept_4 : decode M_DV_isKept.2.1 4 = .ok (.iand, 1) := by decide +kernel
theorem d_DV_isKept_5 : decode M_DV_isKept.2.1 5 = .ok (.iconst (1), 1) := by decide +kernel
theorem d_DV_isKept_6 : decode M_DV_isKept.2.1 6 = .ok (.if_icmp .ne (7), 3) := by decide +kernel
theorem d_DV_isKept_9 : decode M_DV_isKept.2.1 9 = .ok (.iconst (1), 1) := by decide +kernel
theorem d_DV_isKept_10 : decode M_DV_isKept.2.1 10 = .ok (.goto (4), 3) := by decide +kernel
theorem d_DV_isKept_13 : decode M_DV_isKept.2.1 13 = .ok (.iconst (0), 1) := by decide +kernel
theorem d_DV_isKept_14 : decode M_DV_isKept.2.1 14 = .ok (.ireturn, 1) := by decide +kernel
theorem d_DV_settle_0 : decode M_DV_settle.2.1 0 = .ok (.aload_n 0, 1) := by decide +kernel
theorem d_DV_settle_1 : decode M_DV_settle.2.1 1 = .ok (.getfield 18, 3) := by decide +kernel
theorem d_DV_settle_4 : decode M_DV_settle.2.1 4 = .ok (.iload_n 1, 1) := by decide +kernel
theorem d_DV_settle_5 : decode M_DV_settle.2.1 5 = .ok (.iconst (4), 1) := by decide +kernel
theorem d_DV_settle_6 : decode M_DV_settle.2.1 6 = .ok (.imul, 1) := by decide +kernel
theorem d_DV_settle_7 : decode M_DV_settle.2.1 7 = .ok (.aload_n 0, 1) := by decide +kernel
theorem d_DV_settle_8 : decode M_DV_settle.2.1 8 = .ok (.getfield 9, 3) := by decide +kernel
theorem d_DV_settle_11 : decode M_DV_settle.2.1 11 = .ok (.aload_n 0, 1) := by decide +kernel
theorem d_DV_settle_12 : decode M_DV_settle.2.1 12 = .ok (.getfield 15, 3) := by decide +kernel
theorem d_DV_settle_15 : decode M_DV_settle.2.1 15 = .ok (.iload_n 1, 1) := by decide +kernel
theorem d_DV_settle_16 : decode M_DV_settle.2.1 16 = .ok (.iaload, 1) := by decide +kernel
theorem d_DV_settle_17 : decode M_DV_settle.2.1 17 = .ok (.iconst (4), 1) := by decide +kernel
theorem d_DV_settle_18 : decode M_DV_settle.2.1 18 = .ok (.imul, 1) := by decide +kernel
theorem d_DV_settle_19 : decode M_DV_settle.2.1 19 = .ok (.iload_n 2, 1) := by decide +kernel
theorem d_DV_settle_20 : decode M_DV_settle.2.1 20 = .ok (.invokestatic 30, 3) := by decide +kernel
theorem d_DV_settle_23 : decode M_DV_settle.2.1 23 = .ok (.return_, 1) := by decide +kernel
theorem d_DV_waiting_0 : decode M_DV_waiting.2.1 0 = .ok (.aload_n 0, 1) := by decide +kernel
theorem d_DV_waiting_1 : decode M_DV_waiting.2.1 1 = .ok (.getfield 21, 3) := by decide +kernel
theorem d_DV_waiting_4 : decode M_DV_waiting.2.1 4 = .ok (.ireturn, 1) := by decide +kernel
end
section
theorem d_IM_hold_0 : decode M_IM_hold.2.1 0 = .ok (.aload_n 0, 1) := by decide +kernel
theorem d_IM_hold_1 : decode M_IM_hold.2.1 1 = .ok (.getfield 9, 3) := by decide +kernel
theorem d_IM_hold_4 : decode M_IM_hold.2.1 4 = .ok (.iload_n 1, 1) := by decide +kernel
theorem d_IM_hold_5 : decode M_IM_hold.2.1 5 = .ok (.baload, 1) := by decide +kernel
theorem d_IM_hold_6 : decode M_IM_hold.2.1 6 = .ok (.ifCond .ne (20), 3) := by decide +kernel
theorem d_IM_hold_9 : decode M_IM_hold.2.1 9 = .ok (.aload_n 0, 1) := by decide +kernel
theorem d_IM_hold_10 : decode M_IM_hold.2.1 10 = .ok (.getfield 9, 3) := by decide +kernel
theorem d_IM_hold_13 : decode M_IM_hold.2.1 13 = .ok (.iload_n 1, 1) := by decide +kernel
theorem d_IM_hold_14 : decode M_IM_hold.2.1 14 = .ok (.iconst (1), 1) := by decide +kernel
theorem d_IM_hold_15 : decode M_IM_hold.2.1 15 = .ok (.bastore, 1) := by decide +kernel
theorem d_IM_hold_16 : decode M_IM_hold.2.1 16 = .ok (.aload_n 0, 1) := by decide +kernel
theorem d_IM_hold_17 : decode M_IM_hold.2.1 17 = .ok (.dup, 1) := by decide +kernel
theorem d_IM_hold_18 : decode M_IM_hold.2.1 18 = .ok (.getfield 19, 3) := by decide +kernel
theorem d_IM_hold_21 : decode M_IM_hold.2.1 21 = .ok (.iconst (1), 1) := by decide +kernel
theorem d_IM_hold_22 : decode M_IM_hold.2.1 22 = .ok (.iadd, 1) := by decide +kernel
theorem d_IM_hold_23 : decode M_IM_hold.2.1 23 = .ok (.putfield 19, 3) := by decide +kernel
theorem d_IM_hold_26 : decode M_IM_hold.2.1 26 = .ok (.return_, 1) := by decide +kernel
theorem d_IM_drop_0 : decode M_IM_drop.2.1 0 = .ok (.aload_n 0, 1) := by decide +kernel
theorem d_IM_drop_1 : decode M_IM_drop.2.1 1 = .ok (.getfield 9, 3) := by decide +kernel
theorem d_IM_drop_4 : decode M_IM_drop.2.1 4 = .ok (.iload_n 1, 1) := by decide +kernel
theorem d_IM_drop_5 : decode M_IM_drop.2.1 5 = .ok (.baload, 1) := by decide +kernel
theorem d_IM_drop_6 : decode M_IM_drop.2.1 6 = .ok (.ifCond .eq (20), 3) := by decide +kernel
theorem d_IM_drop_9 : decode M_IM_drop.2.1 9 = .ok (.aload_n 0, 1) := by decide +kernel
theorem d_IM_drop_10 : decode M_IM_drop.2.1 10 = .ok (.getfield 9, 3) := by decide +kernel
theorem d_IM_drop_13 : decode M_IM_drop.2.1 13 = .ok (.iload_n 1, 1) := by decide +kernel
theorem d_IM_drop_14 : decode M_IM_drop.2.1 14 = .ok (.iconst (0), 1) := by decide +kernel
theorem d_IM_drop_15 : decode M_IM_drop.2.1 15 = .ok (.bastore, 1) := by decide +kernel
theorem d_IM_drop_16 : decode M_IM_drop.2.1 16 = .ok (.aload_n 0, 1) := by decide +kernel
theorem d_IM_drop_17 : decode M_IM_drop.2.1 17 = .ok (.dup, 1) := by decide +kernel
theorem d_IM_drop_18 : decode M_IM_drop.2.1 18 = .ok (.getfield 19, 3) := by decide +kernel
theorem d_IM_drop_21 : decode M_IM_drop.2.1 21 = .ok (.iconst (1), 1) := by decide +kernel
theorem d_IM_drop_22 : decode M_IM_drop.2.1 22 = .ok (.isub, 1) := by decide +kernel
theorem d_IM_drop_23 : decode M_IM_drop.2.1 23 = .ok (.putfield 19, 3) := by decide +kernel
theorem d_IM_drop_26 : decode M_IM_drop.2.1 26 = .ok (.return_, 1) := by decide +kernel
theorem d_IM_clear_0 : decode M_IM_clear.2.1 0 = .ok (.iconst (0), 1) := by decide +kernel
theorem d_IM_clear_1 : decode M_IM_clear.2.1 1 = .ok (.istore_n 1, 1) := by decide +kernel
theorem d_IM_clear_2 : decode M_IM_clear.2.1 2 = .ok (.iload_n 1, 1) := by decide +kernel
theorem d_IM_clear_3 : decode M_IM_clear.2.1 3 = .ok (.bipush (16), 2) := by decide +kernel
theorem d_IM_clear_5 : decode M_IM_clear.2.1 5 = .ok (.if_icmp .ge (16), 3) := by decide +kernel
theorem d_IM_clear_8 : decode M_IM_clear.2.1 8 = .ok (.aload_n 0, 1) := by decide +kernel
theorem d_IM_clear_9 : decode M_IM_clear.2.1 9 = .ok (.getfield 9, 3) := by decide +kernel
theorem d_IM_clear_12 : decode M_IM_clear.2.1 12 = .ok (.iload_n 1, 1) := by decide +kernel
theorem d_IM_clear_13 : decode M_IM_clear.2.1 13 = .ok (.iconst (0), 1) := by decide +kernel
theorem d_IM_clear_14 : decode M_IM_clear.2.1 14 = .ok (.bastore, 1) := by decide +kernel
theorem d_IM_clear_15 : decode M_IM_clear.2.1 15 = .ok (.iinc 1 (1), 3) := by decide +kernel
theorem d_IM_clear_18 : decode M_IM_clear.2.1 18 = .ok (.goto (-16), 3) := by decide +kernel
theorem d_IM_clear_21 : decode M_IM_clear.2.1 21 = .ok (.aload_n 0, 1) := by decide +kernel
theorem d_IM_clear_22 : decode M_IM_clear.2.1 22 = .ok (.iconst (0), 1) := by decide +kernel
theorem d_IM_clear_23 : decode M_IM_clear.2.1 23 = .ok (.putfield 19, 3) := by decide +kernel
theorem d_IM_clear_26 : decode M_IM_clear.2.1 26 = .ok (.return_, 1) := by decide +kernel
theorem d_IM_copyFrom_0 : decode M_IM_copyFrom.2.1 0 = .ok (.aload_n 1, 1) := by decide +kernel
theorem d_IM_copyFrom_1 : decode M_IM_copyFrom.2.1 1 = .ok (.getfield 15, 3) := by decide +kernel
theorem d_IM_copyFrom_4 : decode M_IM_copyFrom.2.1 4 = .ok (.iload_n 2, 1) := by decide +kernel
theorem d_IM_copyFrom_5 : decode M_IM_copyFrom.2.1 5 = .ok (.iconst (4), 1) := by decide +kernel
theorem d_IM_copyFrom_6 : decode M_IM_copyFrom.2.1 6 = .ok (.imul, 1) := by decide +kernel
theorem d_IM_copyFrom_7 : decode M_IM_copyFrom.2.1 7 = .ok (.aload_n 0, 1) := by decide +kernel
theorem d_IM_copyFrom_8 : decode M_IM_copyFrom.2.1 8 = .ok (.getfield 15, 3) := by decide +kernel
theorem d_IM_copyFrom_11 : decode M_IM_copyFrom.2.1 11 = .ok (.iload_n 2, 1) := by decide +kernel
theorem d_IM_copyFrom_12 : decode M_IM_copyFrom.2.1 12 = .ok (.iconst (4), 1) := by decide +kernel
theorem d_IM_copyFrom_13 : decode M_IM_copyFrom.2.1 13 = .ok (.imul, 1) := by decide +kernel
theorem d_IM_copyFrom_14 : decode M_IM_copyFrom.2.1 14 = .ok (.iconst (4), 1) := by decide +kernel
theorem d_IM_copyFrom_15 : decode M_IM_copyFrom.2.1 15 = .ok (.invokestatic 23, 3) := by decide +kernel
theorem d_IM_copyFrom_18 : decode M_IM_copyFrom.2.1 18 = .ok (.aload_n 0, 1) := by decide +kernel
theorem d_IM_copyFrom_19 : decode M_IM_copyFrom.2.1 19 = .ok (.iload_n 2, 1) := by decide +kernel
theorem d_IM_copyFrom_20 : decode M_IM_copyFrom.2.1 20 = .ok (.invokevirtual 29, 3) := by decide +kernel
theorem d_IM_copyFrom_23 : decode M_IM_copyFrom.2.1 23 = .ok (.return_, 1) := by decide +kernel
theorem d_IM_holds_0 : decode M_IM_holds.2.1 0 = .ok (.aload_n 0, 1) := by decide +kernel
theorem d_IM_holds_1 : decode M_IM_holds.2.1 1 = .ok (.getfield 9, 3) := by decide +kernel
theorem d_IM_holds_4 : decode M_IM_holds.2.1 4 = .ok (.iload_n 1, 1) := by decide +kernel
theorem d_IM_holds_5 : decode M_IM_holds.2.1 5 = .ok (.baload, 1) := by decide +kernel
theorem d_IM_holds_6 : decode M_IM_holds.2.1 6 = .ok (.ireturn, 1) := by decide +kernel
theorem d_IM_word_0 : decode M_IM_word.2.1 0 = .ok (.aload_n 0, 1) := by decide +kernel
theorem d_IM_word_1 : decode M_IM_word.2.1 1 = .ok (.getfield 15, 3) := by decide +kernel
theorem d_IM_word_4 : decode M_IM_word.2.1 4 = .ok (.iload_n 1, 1) := by decide +kernel
theorem d_IM_word_5 : decode M_IM_word.2.1 5 = .ok (.iconst (4), 1) := by decide +kernel
theorem d_IM_word_6 : decode M_IM_word.2.1 6 = .ok (.imul, 1) := by decide +kernel
theorem d_IM_word_7 : decode M_IM_word.2.1 7 = .ok (.iload_n 2, 1) := by decide +kernel
theorem d_IM_word_8 : decode M_IM_word.2.1 8 = .ok (.iadd, 1) := by decide +kernel
theorem d_IM_word_9 : decode M_IM_word.2.1 9 = .ok (.iaload, 1) := by decide +kernel
theorem d_IM_word_10 : decode M_IM_word.2.1 10 = .ok (.ireturn, 1) := by decide +kernel
theorem d_IM_setWord_0 : decode M_IM_setWord.2.1 0 = .ok (.aload_n 0, 1) := by decide +kernel
theorem d_IM_setWord_1 : decode M_IM_setWord.2.1 1 = .ok (.getfield 15, 3) := by decide +kernel
theorem d_IM_setWord_4 : decode M_IM_setWord.2.1 4 = .ok (.iload_n 1, 1) := by decide +kernel
theorem d_IM_setWord_5 : decode M_IM_setWord.2.1 5 = .ok (.iconst (4), 1) := by decide +kernel
theorem d_IM_setWord_6 : decode M_IM_setWord.2.1 6 = .ok (.imul, 1) := by decide +kernel
theorem d_IM_setWord_7 : decode M_IM_setWord.2.1 7 = .ok (.iload_n 2, 1) := by decide +kernel
theorem d_IM_setWord_8 : decode M_IM_setWord.2.1 8 = .ok (.iadd, 1) := by decide +kernel
theorem d_IM_setWord_9 : decode M_IM_setWord.2.1 9 = .ok (.iload_n 3, 1) := by decide +kernel
theorem d_IM_setWord_10 : decode M_IM_setWord.2.1 10 = .ok (.iastore, 1) := by decide +kernel
theorem d_IM_setWord_11 : decode M_IM_setWord.2.1 11 = .ok (.return_, 1) := by decide +kernel
theorem d_IM_size_0 : decode M_IM_size.2.1 0 = .ok (.aload_n 0, 1) := by decide +kernel
theorem d_IM_size_1 : decode M_IM_size.2.1 1 = .ok (.getfield 19, 3) := by decide +kernel
theorem d_IM_size_4 : decode M_IM_size.2.1 4 = .ok (.ireturn, 1) := by decide +kernel
end
section
theorem d_RW_build_0 : decode M_RW_build.2.1 0 = .ok (.aload_n 0, 1) := by decide +kernel
theorem d_RW_build_1 : decode M_RW_build.2.1 1 = .ok (.iconst (0), 1) := by decide +kernel
theorem d_RW_build_2 : decode M_RW_build.2.1 2 = .ok (.putfield 18, 3) := by decide +kernel
theorem d_RW_build_5 : decode M_RW_build.2.1 5 = .ok (.aload_n 0, 1) := by decide +kernel
theorem d_RW_build_6 : decode M_RW_build.2.1 6 = .ok (.iload_n 3, 1) := by decide +kernel
theorem d_RW_build_7 : decode M_RW_build.2.1 7 = .ok (.putfield 22, 3) := by decide +kernel
theorem d_RW_build_10 : decode M_RW_build.2.1 10 = .ok (.iconst (0), 1) := by decide +kernel
theorem d_RW_build_11 : decode M_RW_build.2.1 11 = .ok (.istore 4, 2) := by decide +kernel
theorem d_RW_build_13 : decode M_RW_build.2.1 13 = .ok (.iconst (0), 1) := by decide +kernel
theorem d_RW_build_14 : decode M_RW_build.2.1 14 = .ok (.istore 5, 2) := by decide +kernel
theorem d_RW_build_16 : decode M_RW_build.2.1 16 = .ok (.iload 5, 2) := by decide +kernel
theorem d_RW_build_18 : decode M_RW_build.2.1 18 = .ok (.bipush (16), 2) := by decide +kernel
theorem d_RW_build_20 : decode M_RW_build.2.1 20 = .ok (.if_icmp .ge (47), 3) := by decide +kernel
theorem d_RW_build_23 : decode M_RW_build.2.1 23 = .ok (.aload_n 1, 1) := by decide +kernel
theorem d_RW_build_24 : decode M_RW_build.2.1 24 = .ok (.iload 5, 2) := by decide +kernel
theorem d_RW_build_26 : decode M_RW_build.2.1 26 = .ok (.invokevirtual 25, 3) := by decide +kernel
theorem d_RW_build_29 : decode M_RW_build.2.1 29 = .ok (.ifCond .eq (15), 3) := by decide +kernel
theorem d_RW_build_32 : decode M_RW_build.2.1 32 = .ok (.aload_n 0, 1) := by decide +kernel
theorem d_RW_build_33 : decode M_RW_build.2.1 33 = .ok (.getfield 15, 3) := by decide +kernel
theorem d_RW_build_36 : decode M_RW_build.2.1 36 = .ok (.iload 4, 2) := by decide +kernel
theorem d_RW_build_38 : decode M_RW_build.2.1 38 = .ok (.iload 5, 2) := by decide +kernel
theorem d_RW_build_40 : decode M_RW_build.2.1 40 = .ok (.iastore, 1) := by decide +kernel
theorem d_RW_build_41 : decode M_RW_build.2.1 41 = .ok (.iinc 4 (1), 3) := by decide +kernel
theorem d_RW_build_44 : decode M_RW_build.2.1 44 = .ok (.iload 4, 2) := by decide +kernel
theorem d_RW_build_46 : decode M_RW_build.2.1 46 = .ok (.iconst (4), 1) := by decide +kernel
theorem d_RW_build_47 : decode M_RW_build.2.1 47 = .ok (.if_icmp .ne (14), 3) := by decide +kernel
theorem d_RW_build_50 : decode M_RW_build.2.1 50 = .ok (.aload_n 0, 1) := by decide +kernel
theorem d_RW_build_51 : decode M_RW_build.2.1 51 = .ok (.aload_n 1, 1) := by decide +kernel
theorem d_RW_build_52 : decode M_RW_build.2.1 52 = .ok (.iload 4, 2) := by decide +kernel
theorem d_RW_build_54 : decode M_RW_build.2.1 54 = .ok (.iload_n 3, 1) := by decide +kernel
theorem d_RW_build_55 : decode M_RW_build.2.1 55 = .ok (.invokevirtual 31, 3) := by decide +kernel
theorem d_RW_build_58 : decode M_RW_build.2.1 58 = .ok (.iconst (0), 1) := by decide +kernel
theorem d_RW_build_59 : decode M_RW_build.2.1 59 = .ok (.istore 4, 2) := by decide +kernel
theorem d_RW_build_61 : decode M_RW_build.2.1 61 = .ok (.iinc 5 (1), 3) := by decide +kernel
theorem d_RW_build_64 : decode M_RW_build.2.1 64 = .ok (.goto (-48), 3) := by decide +kernel
theorem d_RW_build_67 : decode M_RW_build.2.1 67 = .ok (.iload 4, 2) := by decide +kernel
theorem d_RW_build_69 : decode M_RW_build.2.1 69 = .ok (.ifCond .le (11), 3) := by decide +kernel
theorem d_RW_build_72 : decode M_RW_build.2.1 72 = .ok (.aload_n 0, 1) := by decide +kernel
theorem d_RW_build_73 : decode M_RW_build.2.1 73 = .ok (.aload_n 1, 1) := by decide +kernel
theorem d_RW_build_74 : decode M_RW_build.2.1 74 = .ok (.iload 4, 2) := by decide +kernel
theorem d_RW_build_76 : decode M_RW_build.2.1 76 = .ok (.iload_n 3, 1) := by decide +kernel
theorem d_RW_build_77 : decode M_RW_build.2.1 77 = .ok (.invokevirtual 31, 3) := by decide +kernel
theorem d_RW_build_80 : decode M_RW_build.2.1 80 = .ok (.iload_n 2, 1) := by decide +kernel
theorem d_RW_build_81 : decode M_RW_build.2.1 81 = .ok (.ifCond .eq (12), 3) := by decide +kernel
theorem d_RW_build_84 : decode M_RW_build.2.1 84 = .ok (.aload_n 0, 1) := by decide +kernel
theorem d_RW_build_85 : decode M_RW_build.2.1 85 = .ok (.ldc 35, 2) := by decide +kernel
theorem d_RW_build_87 : decode M_RW_build.2.1 87 = .ok (.iconst (2), 1) := by decide +kernel
theorem d_RW_build_88 : decode M_RW_build.2.1 88 = .ok (.iload_n 3, 1) := by decide +kernel
theorem d_RW_build_89 : decode M_RW_build.2.1 89 = .ok (.iload_n 2, 1) := by decide +kernel
theorem d_RW_build_90 : decode M_RW_build.2.1 90 = .ok (.invokevirtual 36, 3) := by decide +kernel
theorem d_RW_build_93 : decode M_RW_build.2.1 93 = .ok (.aload_n 0, 1) := by decide +kernel
theorem d_RW_build_94 : decode M_RW_build.2.1 94 = .ok (.ldc 35, 2) := by decide +kernel
theorem d_RW_build_96 : decode M_RW_build.2.1 96 = .ok (.iconst (3), 1) := by decide +kernel
theorem d_RW_build_97 : decode M_RW_build.2.1 97 = .ok (.iload_n 3, 1) := by decide +kernel
theorem d_RW_build_98 : decode M_RW_build.2.1 98 = .ok (.aload_n 0, 1) := by decide +kernel
theorem d_RW_build_99 : decode M_RW_build.2.1 99 = .ok (.getfield 22, 3) := by decide +kernel
theorem d_RW_build_102 : decode M_RW_build.2.1 102 = .ok (.invokevirtual 36, 3) := by decide +kernel
theorem d_RW_build_105 : decode M_RW_build.2.1 105 = .ok (.return_, 1) := by decide +kernel
theorem d_RW_addGroup_0 : decode M_RW_addGroup.2.1 0 = .ok (.iload_n 2, 1) := by decide +kernel
theorem d_RW_addGroup_1 : decode M_RW_addGroup.2.1 1 = .ok (.istore 4, 2) := by decide +kernel
theorem d_RW_addGroup_3 : decode M_RW_addGroup.2.1 3 = .ok (.iconst (0), 1) := by decide +kernel
theorem d_RW_addGroup_4 : decode M_RW_addGroup.2.1 4 = .ok (.istore 5, 2) := by decide +kernel
theorem d_RW_addGroup_6 : decode M_RW_addGroup.2.1 6 = .ok (.iload 5, 2) := by decide +kernel
theorem d_RW_addGroup_8 : decode M_RW_addGroup.2.1 8 = .ok (.iload_n 2, 1) := by decide +kernel
theorem d_RW_addGroup_9 : decode M_RW_addGroup.2.1 9 = .ok (.if_icmp .ge (56), 3) := by decide +kernel
theorem d_RW_addGroup_12 : decode M_RW_addGroup.2.1 12 = .ok (.aload_n 1, 1) := by decide +kernel
theorem d_RW_addGroup_13 : decode M_RW_addGroup.2.1 13 = .ok (.aload_n 0, 1) := by decide +kernel
theorem d_RW_addGroup_14 : decode M_RW_addGroup.2.1 14 = .ok (.getfield 15, 3) := by decide +kernel
theorem d_RW_addGroup_17 : decode M_RW_addGroup.2.1 17 = .ok (.iload 5, 2) := by decide +kernel
theorem d_RW_addGroup_19 : decode M_RW_addGroup.2.1 19 = .ok (.iaload, 1) := by decide +kernel
theorem d_RW_addGroup_20 : decode M_RW_addGroup.2.1 20 = .ok (.iconst (0), 1) := by decide +kernel
theorem d_RW_addGroup_21 : decode M_RW_addGroup.2.1 21 = .ok (.invokevirtual 40, 3) := by decide +kernel
theorem d_RW_addGroup_24 : decode M_RW_addGroup.2.1 24 = .ok (.ldc 35, 2) := by decide +kernel
theorem d_RW_addGroup_26 : decode M_RW_addGroup.2.1 26 = .ok (.if_icmp .ne (8), 3) := by decide +kernel
theorem d_RW_addGroup_29 : decode M_RW_addGroup.2.1 29 = .ok (.bipush (16), 2) := by decide +kernel
theorem d_RW_addGroup_31 : decode M_RW_addGroup.2.1 31 = .ok (.goto (4), 3) := by decide +kernel
theorem d_RW_addGroup_34 : decode M_RW_addGroup.2.1 34 = .ok (.iconst (0), 1) := by decide +kernel
theorem d_RW_addGroup_35 : decode M_RW_addGroup.2.1 35 = .ok (.istore 6, 2) := by decide +kernel
theorem d_RW_addGroup_37 : decode M_RW_addGroup.2.1 37 = .ok (.iload 4, 2) := by decide +kernel
theorem d_RW_addGroup_39 : decode M_RW_addGroup.2.1 39 = .ok (.aload_n 0, 1) := by decide +kernel
theorem d_RW_addGroup_40 : decode M_RW_addGroup.2.1 40 = .ok (.getfield 15, 3) := by decide +kernel
theorem d_RW_addGroup_43 : decode M_RW_addGroup.2.1 43 = .ok (.iload 5, 2) := by decide +kernel
theorem d_RW_addGroup_45 : decode M_RW_addGroup.2.1 45 = .ok (.iaload, 1) := by decide +kernel
theorem d_RW_addGroup_46 : decode M_RW_addGroup.2.1 46 = .ok (.iload 6, 2) := by decide +kernel
theorem d_RW_addGroup_48 : decode M_RW_addGroup.2.1 48 = .ok (.iadd, 1) := by decide +kernel
theorem d_RW_addGroup_49 : decode M_RW_addGroup.2.1 49 = .ok (.iconst (3), 1) := by decide +kernel
theorem d_RW_addGroup_50 : decode M_RW_addGroup.2.1 50 = .ok (.iconst (5), 1) := by decide +kernel
theorem d_RW_addGroup_51 : decode M_RW_addGroup.2.1 51 = .ok (.iload 5, 2) := by decide +kernel
theorem d_RW_addGroup_53 : decode M_RW_addGroup.2.1 53 = .ok (.imul, 1) := by decide +kernel
theorem d_RW_addGroup_54 : decode M_RW_addGroup.2.1 54 = .ok (.iadd, 1) := by decide +kernel
theorem d_RW_addGroup_55 : decode M_RW_addGroup.2.1 55 = .ok (.ishl, 1) := by decide +kernel
theorem d_RW_addGroup_56 : decode M_RW_addGroup.2.1 56 = .ok (.iadd, 1) := by decide +kernel
theorem d_RW_addGroup_57 : decode M_RW_addGroup.2.1 57 = .ok (.istore 4, 2) := by decide +kernel
theorem d_RW_addGroup_59 : decode M_RW_addGroup.2.1 59 = .ok (.iinc 5 (1), 3) := by decide +kernel
theorem d_RW_addGroup_62 : decode M_RW_addGroup.2.1 62 = .ok (.goto (-56), 3) := by decide +kernel
theorem d_RW_addGroup_65 : decode M_RW_addGroup.2.1 65 = .ok (.aload_n 0, 1) := by decide +kernel
theorem d_RW_addGroup_66 : decode M_RW_addGroup.2.1 66 = .ok (.ldc 35, 2) := by decide +kernel
theorem d_RW_addGroup_68 : decode M_RW_addGroup.2.1 68 = .ok (.iconst (1), 1) := by decide +kernel
theorem d_RW_addGroup_69 : decode M_RW_addGroup.2.1 69 = .ok (.iload_n 3, 1) := by decide +kernel
theorem d_RW_addGroup_70 : decode M_RW_addGroup.2.1 70 = .ok (.iload 4, 2) := by decide +kernel
theorem d_RW_addGroup_72 : decode M_RW_addGroup.2.1 72 = .ok (.invokevirtual 36, 3) := by decide +kernel
theorem d_RW_addGroup_75 : decode M_RW_addGroup.2.1 75 = .ok (.iconst (0), 1) := by decide +kernel
theorem d_RW_addGroup_76 : decode M_RW_addGroup.2.1 76 = .ok (.istore 5, 2) := by decide +kernel
theorem d_RW_addGroup_78 : decode M_RW_addGroup.2.1 78 = .ok (.iload 5, 2) := by decide +kernel
theorem d_RW_addGroup_80 : decode M_RW_addGroup.2.1 80 = .ok (.iload_n 2, 1) := by decide +kernel
theorem d_RW_addGroup_81 : decode M_RW_addGroup.2.1 81 = .ok (.if_icmp .ge (65), 3) := by decide +kernel
theorem d_RW_addGroup_84 : decode M_RW_addGroup.2.1 84 = .ok (.aload_n 0, 1) := by decide +kernel
theorem d_RW_addGroup_85 : decode M_RW_addGroup.2.1 85 = .ok (.getfield 15, 3) := by decide +kernel
theorem d_RW_addGroup_88 : decode M_RW_addGroup.2.1 88 = .ok (.iload 5, 2) := by decide +kernel
theorem d_RW_addGroup_90 : decode M_RW_addGroup.2.1 90 = .ok (.iaload, 1) := by decide +kernel
theorem d_RW_addGroup_91 : decode M_RW_addGroup.2.1 91 = .ok (.istore 6, 2) := by decide +kernel
theorem d_RW_addGroup_93 : decode M_RW_addGroup.2.1 93 = .ok (.aload_n 1, 1) := by decide +kernel
theorem d_RW_addGroup_94 : decode M_RW_addGroup.2.1 94 = .ok (.iload 6, 2) := by decide +kernel
theorem d_RW_addGroup_96 : decode M_RW_addGroup.2.1 96 = .ok (.iconst (0), 1) := by decide +kernel
theorem d_RW_addGroup_97 : decode M_RW_addGroup.2.1 97 = .ok (.invokevirtual 40, 3) := by decide +kernel
theorem d_RW_addGroup_100 : decode M_RW_addGroup.2.1 100 = .ok (.istore 7, 2) := by decide +kernel
theorem d_RW_addGroup_102 : decode M_RW_addGroup.2.1 102 = .ok (.aload_n 0, 1) := by decide +kernel
theorem d_RW_addGroup_103 : decode M_RW_addGroup.2.1 103 = .ok (.iload 7, 2) := by decide +kernel
theorem d_RW_addGroup_105 : decode M_RW_addGroup.2.1 105 = .ok (.ldc 35, 2) := by decide +kernel
theorem d_RW_addGroup_107 : decode M_RW_addGroup.2.1 107 = .ok (.if_icmp .ne (7), 3) := by decide +kernel
theorem d_RW_addGroup_110 : decode M_RW_addGroup.2.1 110 = .ok (.iconst (0), 1) := by decide +kernel
theorem d_RW_addGroup_111 : decode M_RW_addGroup.2.1 111 = .ok (.goto (5), 3) := by decide +kernel
theorem d_RW_addGroup_114 : decode M_RW_addGroup.2.1 114 = .ok (.iload 7, 2) := by decide +kernel
theorem d_RW_addGroup_116 : decode M_RW_addGroup.2.1 116 = .ok (.aload_n 1, 1) := by decide +kernel
theorem d_RW_addGroup_117 : decode M_RW_addGroup.2.1 117 = .ok (.iload 6, 2) := by decide +kernel
theorem d_RW_addGroup_119 : decode M_RW_addGroup.2.1 119 = .ok (.iconst (1), 1) := by decide +kernel
theorem d_RW_addGroup_120 : decode M_RW_addGroup.2.1 120 = .ok (.invokevirtual 40, 3) := by decide +kernel
theorem d_RW_addGroup_123 : decode M_RW_addGroup.2.1 123 = .ok (.aload_n 1, 1) := by decide +kernel
theorem d_RW_addGroup_124 : decode M_RW_addGroup.2.1 124 = .ok (.iload 6, 2) := by decide +kernel
theorem d_RW_addGroup_126 : decode M_RW_addGroup.2.1 126 = .ok (.iconst (2), 1) := by decide +kernel
theorem d_RW_addGroup_127 : decode M_RW_addGroup.2.1 127 = .ok (.invokevirtual 40, 3) := by decide +kernel
theorem d_RW_addGroup_130 : decode M_RW_addGroup.2.1 130 = .ok (.aload_n 1, 1) := by decide +kernel
theorem d_RW_addGroup_131 : decode M_RW_addGroup.2.1 131 = .ok (.iload 6, 2) := by decide +kernel
theorem d_RW_addGroup_133 : decode M_RW_addGroup.2.1 133 = .ok (.iconst (3), 1) := by decide +kernel
theorem d_RW_addGroup_134 : decode M_RW_addGroup.2.1 134 = .ok (.invokevirtual 40, 3) := by decide +kernel
theorem d_RW_addGroup_137 : decode M_RW_addGroup.2.1 137 = .ok (.invokevirtual 36, 3) := by decide +kernel
theorem d_RW_addGroup_140 : decode M_RW_addGroup.2.1 140 = .ok (.iinc 5 (1), 3) := by decide +kernel
theorem d_RW_addGroup_143 : decode M_RW_addGroup.2.1 143 = .ok (.goto (-65), 3) := by decide +kernel
theorem d_RW_addGroup_146 : decode M_RW_addGroup.2.1 146 = .ok (.return_, 1) := by decide +kernel
theorem d_RW_add_0 : decode M_RW_add.2.1 0 = .ok (.aload_n 0, 1) := by decide +kernel
theorem d_RW_add_1 : decode M_RW_add.2.1 1 = .ok (.getfield 18, 3) := by decide +kernel
theorem d_RW_add_4 : decode M_RW_add.2.1 4 = .ok (.bipush (12), 2) := by decide +kernel
theorem d_RW_add_6 : decode M_RW_add.2.1 6 = .ok (.if_icmp .lt (4), 3) := by decide +kernel
theorem d_RW_add_9 : decode M_RW_add.2.1 9 = .ok (.return_, 1) := by decide +kernel
theorem d_RW_add_10 : decode M_RW_add.2.1 10 = .ok (.aload_n 0, 1) := by decide +kernel
theorem d_RW_add_11 : decode M_RW_add.2.1 11 = .ok (.getfield 18, 3) := by decide +kernel
theorem d_RW_add_14 : decode M_RW_add.2.1 14 = .ok (.iconst (4), 1) := by decide +kernel
theorem d_RW_add_15 : decode M_RW_add.2.1 15 = .ok (.imul, 1) := by decide +kernel
theorem d_RW_add_16 : decode M_RW_add.2.1 16 = .ok (.istore 5, 2) := by decide +kernel
theorem d_RW_add_18 : decode M_RW_add.2.1 18 = .ok (.aload_n 0, 1) := by decide +kernel
theorem d_RW_add_19 : decode M_RW_add.2.1 19 = .ok (.getfield 11, 3) := by decide +kernel
theorem d_RW_add_22 : decode M_RW_add.2.1 22 = .ok (.iload 5, 2) := by decide +kernel
theorem d_RW_add_24 : decode M_RW_add.2.1 24 = .ok (.iload_n 1, 1) := by decide +kernel
theorem d_RW_add_25 : decode M_RW_add.2.1 25 = .ok (.iastore, 1) := by decide +kernel
theorem d_RW_add_26 : decode M_RW_add.2.1 26 = .ok (.aload_n 0, 1) := by decide +kernel
theorem d_RW_add_27 : decode M_RW_add.2.1 27 = .ok (.getfield 11, 3) := by decide +kernel
theorem d_RW_add_30 : decode M_RW_add.2.1 30 = .ok (.iload 5, 2) := by decide +kernel
theorem d_RW_add_32 : decode M_RW_add.2.1 32 = .ok (.iconst (1), 1) := by decide +kernel
theorem d_RW_add_33 : decode M_RW_add.2.1 33 = .ok (.iadd, 1) := by decide +kernel
theorem d_RW_add_34 : decode M_RW_add.2.1 34 = .ok (.iload_n 2, 1) := by decide +kernel
theorem d_RW_add_35 : decode M_RW_add.2.1 35 = .ok (.iastore, 1) := by decide +kernel
theorem d_RW_add_36 : decode M_RW_add.2.1 36 = .ok (.aload_n 0, 1) := by decide +kernel
theorem d_RW_add_37 : decode M_RW_add.2.1 37 = .ok (.getfield 11, 3) := by decide +kernel
theorem d_RW_add_40 : decode M_RW_add.2.1 40 = .ok (.iload 5, 2) := by decide +kernel
theorem d_RW_add_42 : decode M_RW_add.2.1 42 = .ok (.iconst (2), 1) := by decide +kernel
theorem d_RW_add_43 : decode M_RW_add.2.1 43 = .ok (.iadd, 1) := by decide +kernel
theorem d_RW_add_44 : decode M_RW_add.2.1 44 = .ok (.iload_n 3, 1) := by decide +kernel
theorem d_RW_add_45 : decode M_RW_add.2.1 45 = .ok (.iastore, 1) := by decide +kernel
theorem d_RW_add_46 : decode M_RW_add.2.1 46 = .ok (.aload_n 0, 1) := by decide +kernel
theorem d_RW_add_47 : decode M_RW_add.2.1 47 = .ok (.getfield 11, 3) := by decide +kernel
theorem d_RW_add_50 : decode M_RW_add.2.1 50 = .ok (.iload 5, 2) := by decide +kernel
theorem d_RW_add_52 : decode M_RW_add.2.1 52 = .ok (.iconst (3), 1) := by decide +kernel
theorem d_RW_add_53 : decode M_RW_add.2.1 53 = .ok (.iadd, 1) := by decide +kernel
theorem d_RW_add_54 : decode M_RW_add.2.1 54 = .ok (.iload 4, 2) := by decide +kernel
theorem d_RW_add_56 : decode M_RW_add.2.1 56 = .ok (.iastore, 1) := by decide +kernel
theorem d_RW_add_57 : decode M_RW_add.2.1 57 = .ok (.aload_n 0, 1) := by decide +kernel
theorem d_RW_add_58 : decode M_RW_add.2.1 58 = .ok (.aload_n 0, 1) := by decide +kernel
theorem d_RW_add_59 : decode M_RW_add.2.1 59 = .ok (.getfield 22, 3) := by decide +kernel
theorem d_RW_add_62 : decode M_RW_add.2.1 62 = .ok (.iload_n 1, 1) := by decide +kernel
theorem d_RW_add_63 : decode M_RW_add.2.1 63 = .ok (.invokestatic 44, 3) := by decide +kernel
theorem d_RW_add_66 : decode M_RW_add.2.1 66 = .ok (.iload_n 2, 1) := by decide +kernel
theorem d_RW_add_67 : decode M_RW_add.2.1 67 = .ok (.invokestatic 44, 3) := by decide +kernel
theorem d_RW_add_70 : decode M_RW_add.2.1 70 = .ok (.iload_n 3, 1) := by decide +kernel
theorem d_RW_add_71 : decode M_RW_add.2.1 71 = .ok (.invokestatic 44, 3) := by decide +kernel
theorem d_RW_add_74 : decode M_RW_add.2.1 74 = .ok (.iload 4, 2) := by decide +kernel
theorem d_RW_add_76 : decode M_RW_add.2.1 76 = .ok (.invokestatic 44, 3) := by decide +kernel
theorem d_RW_add_79 : decode M_RW_add.2.1 79 = .ok (.putfield 22, 3) := by decide +kernel
theorem d_RW_add_82 : decode M_RW_add.2.1 82 = .ok (.aload_n 0, 1) := by decide +kernel
theorem d_RW_add_83 : decode M_RW_add.2.1 83 = .ok (.dup, 1) := by decide +kernel
theorem d_RW_add_84 : decode M_RW_add.2.1 84 = .ok (.getfield 18, 3) := by decide +kernel
theorem d_RW_add_87 : decode M_RW_add.2.1 87 = .ok (.iconst (1), 1) := by decide +kernel
theorem d_RW_add_88 : decode M_RW_add.2.1 88 = .ok (.iadd, 1) := by decide +kernel
theorem d_RW_add_89 : decode M_RW_add.2.1 89 = .ok (.putfield 18, 3) := by decide +kernel
theorem d_RW_add_92 : decode M_RW_add.2.1 92 = .ok (.return_, 1) := by decide +kernel
theorem d_RW_length_0 : decode M_RW_length.2.1 0 = .ok (.aload_n 0, 1) := by decide +kernel
theorem d_RW_length_1 : decode M_RW_length.2.1 1 = .ok (.getfield 18, 3) := by decide +kernel
theorem d_RW_length_4 : decode M_RW_length.2.1 4 = .ok (.ireturn, 1) := by decide +kernel
theorem d_RW_word_0 : decode M_RW_word.2.1 0 = .ok (.aload_n 0, 1) := by decide +kernel
theorem d_RW_word_1 : decode M_RW_word.2.1 1 = .ok (.getfield 11, 3) := by decide +kernel
theorem d_RW_word_4 : decode M_RW_word.2.1 4 = .ok (.iload_n 1, 1) := by decide +kernel
theorem d_RW_word_5 : decode M_RW_word.2.1 5 = .ok (.iconst (4), 1) := by decide +kernel
theorem d_RW_word_6 : decode M_RW_word.2.1 6 = .ok (.imul, 1) := by decide +kernel
theorem d_RW_word_7 : decode M_RW_word.2.1 7 = .ok (.iload_n 2, 1) := by decide +kernel
theorem d_RW_word_8 : decode M_RW_word.2.1 8 = .ok (.iadd, 1) := by decide +kernel
theorem d_RW_word_9 : decode M_RW_word.2.1 9 = .ok (.iaload, 1) := by decide +kernel
theorem d_RW_word_10 : decode M_RW_word.2.1 10 = .ok (.ireturn, 1) := by decide +kernel
end
section
theorem d_JB_addFlush_0 : decode M_JB_addFlush.2.1 0 = .ok (.aload_n 0, 1) := by decide +kernel
theorem d_JB_addFlush_1 : decode M_JB_addFlush.2.1 1 = .ok (.getfield 22, 3) := by decide +kernel
theorem d_JB_addFlush_4 : decode M_JB_addFlush.2.1 4 = .ok (.bipush (27), 2) := by decide +kernel
theorem d_JB_addFlush_6 : decode M_JB_addFlush.2.1 6 = .ok (.if_icmp .ge (23), 3) := by decide +kernel
theorem d_JB_addFlush_9 : decode M_JB_addFlush.2.1 9 = .ok (.aload_n 0, 1) := by decide +kernel
theorem d_JB_addFlush_10 : decode M_JB_addFlush.2.1 10 = .ok (.getfield 11, 3) := by decide +kernel
theorem d_JB_addFlush_13 : decode M_JB_addFlush.2.1 13 = .ok (.aload_n 0, 1) := by decide +kernel
theorem d_JB_addFlush_14 : decode M_JB_addFlush.2.1 14 = .ok (.getfield 22, 3) := by decide +kernel
theorem d_JB_addFlush_17 : decode M_JB_addFlush.2.1 17 = .ok (.iconst (-1), 1) := by decide +kernel
theorem d_JB_addFlush_18 : decode M_JB_addFlush.2.1 18 = .ok (.iastore, 1) := by decide +kernel
theorem d_JB_addFlush_19 : decode M_JB_addFlush.2.1 19 = .ok (.aload_n 0, 1) := by decide +kernel
theorem d_JB_addFlush_20 : decode M_JB_addFlush.2.1 20 = .ok (.dup, 1) := by decide +kernel
theorem d_JB_addFlush_21 : decode M_JB_addFlush.2.1 21 = .ok (.getfield 22, 3) := by decide +kernel
theorem d_JB_addFlush_24 : decode M_JB_addFlush.2.1 24 = .ok (.iconst (1), 1) := by decide +kernel
theorem d_JB_addFlush_25 : decode M_JB_addFlush.2.1 25 = .ok (.iadd, 1) := by decide +kernel
theorem d_JB_addFlush_26 : decode M_JB_addFlush.2.1 26 = .ok (.putfield 22, 3) := by decide +kernel
theorem d_JB_addFlush_29 : decode M_JB_addFlush.2.1 29 = .ok (.return_, 1) := by decide +kernel
theorem d_JB_addWrite_0 : decode M_JB_addWrite.2.1 0 = .ok (.aload_n 0, 1) := by decide +kernel
theorem d_JB_addWrite_1 : decode M_JB_addWrite.2.1 1 = .ok (.getfield 22, 3) := by decide +kernel
theorem d_JB_addWrite_4 : decode M_JB_addWrite.2.1 4 = .ok (.bipush (27), 2) := by decide +kernel
theorem d_JB_addWrite_6 : decode M_JB_addWrite.2.1 6 = .ok (.if_icmp .lt (4), 3) := by decide +kernel
theorem d_JB_addWrite_9 : decode M_JB_addWrite.2.1 9 = .ok (.return_, 1) := by decide +kernel
theorem d_JB_addWrite_10 : decode M_JB_addWrite.2.1 10 = .ok (.aload_n 0, 1) := by decide +kernel
theorem d_JB_addWrite_11 : decode M_JB_addWrite.2.1 11 = .ok (.getfield 22, 3) := by decide +kernel
theorem d_JB_addWrite_14 : decode M_JB_addWrite.2.1 14 = .ok (.iconst (4), 1) := by decide +kernel
theorem d_JB_addWrite_15 : decode M_JB_addWrite.2.1 15 = .ok (.imul, 1) := by decide +kernel
theorem d_JB_addWrite_16 : decode M_JB_addWrite.2.1 16 = .ok (.istore 6, 2) := by decide +kernel
theorem d_JB_addWrite_18 : decode M_JB_addWrite.2.1 18 = .ok (.aload_n 0, 1) := by decide +kernel
theorem d_JB_addWrite_19 : decode M_JB_addWrite.2.1 19 = .ok (.getfield 15, 3) := by decide +kernel
theorem d_JB_addWrite_22 : decode M_JB_addWrite.2.1 22 = .ok (.iload 6, 2) := by decide +kernel
theorem d_JB_addWrite_24 : decode M_JB_addWrite.2.1 24 = .ok (.iload_n 2, 1) := by decide +kernel
theorem d_JB_addWrite_25 : decode M_JB_addWrite.2.1 25 = .ok (.iastore, 1) := by decide +kernel
theorem d_JB_addWrite_26 : decode M_JB_addWrite.2.1 26 = .ok (.aload_n 0, 1) := by decide +kernel
theorem d_JB_addWrite_27 : decode M_JB_addWrite.2.1 27 = .ok (.getfield 15, 3) := by decide +kernel
theorem d_JB_addWrite_30 : decode M_JB_addWrite.2.1 30 = .ok (.iload 6, 2) := by decide +kernel
theorem d_JB_addWrite_32 : decode M_JB_addWrite.2.1 32 = .ok (.iconst (1), 1) := by decide +kernel
theorem d_JB_addWrite_33 : decode M_JB_addWrite.2.1 33 = .ok (.iadd, 1) := by decide +kernel
theorem d_JB_addWrite_34 : decode M_JB_addWrite.2.1 34 = .ok (.iload_n 3, 1) := by decide +kernel
theorem d_JB_addWrite_35 : decode M_JB_addWrite.2.1 35 = .ok (.iastore, 1) := by decide +kernel
theorem d_JB_addWrite_36 : decode M_JB_addWrite.2.1 36 = .ok (.aload_n 0, 1) := by decide +kernel
theorem d_JB_addWrite_37 : decode M_JB_addWrite.2.1 37 = .ok (.getfield 15, 3) := by decide +kernel
theorem d_JB_addWrite_40 : decode M_JB_addWrite.2.1 40 = .ok (.iload 6, 2) := by decide +kernel
theorem d_JB_addWrite_42 : decode M_JB_addWrite.2.1 42 = .ok (.iconst (2), 1) := by decide +kernel
theorem d_JB_addWrite_43 : decode M_JB_addWrite.2.1 43 = .ok (.iadd, 1) := by decide +kernel
theorem d_JB_addWrite_44 : decode M_JB_addWrite.2.1 44 = .ok (.iload 4, 2) := by decide +kernel
theorem d_JB_addWrite_46 : decode M_JB_addWrite.2.1 46 = .ok (.iastore, 1) := by decide +kernel
theorem d_JB_addWrite_47 : decode M_JB_addWrite.2.1 47 = .ok (.aload_n 0, 1) := by decide +kernel
theorem d_JB_addWrite_48 : decode M_JB_addWrite.2.1 48 = .ok (.getfield 15, 3) := by decide +kernel
theorem d_JB_addWrite_51 : decode M_JB_addWrite.2.1 51 = .ok (.iload 6, 2) := by decide +kernel
theorem d_JB_addWrite_53 : decode M_JB_addWrite.2.1 53 = .ok (.iconst (3), 1) := by decide +kernel
theorem d_JB_addWrite_54 : decode M_JB_addWrite.2.1 54 = .ok (.iadd, 1) := by decide +kernel
theorem d_JB_addWrite_55 : decode M_JB_addWrite.2.1 55 = .ok (.iload 5, 2) := by decide +kernel
theorem d_JB_addWrite_57 : decode M_JB_addWrite.2.1 57 = .ok (.iastore, 1) := by decide +kernel
theorem d_JB_addWrite_58 : decode M_JB_addWrite.2.1 58 = .ok (.aload_n 0, 1) := by decide +kernel
theorem d_JB_addWrite_59 : decode M_JB_addWrite.2.1 59 = .ok (.getfield 11, 3) := by decide +kernel
theorem d_JB_addWrite_62 : decode M_JB_addWrite.2.1 62 = .ok (.aload_n 0, 1) := by decide +kernel
theorem d_JB_addWrite_63 : decode M_JB_addWrite.2.1 63 = .ok (.getfield 22, 3) := by decide +kernel
theorem d_JB_addWrite_66 : decode M_JB_addWrite.2.1 66 = .ok (.iload_n 1, 1) := by decide +kernel
theorem d_JB_addWrite_67 : decode M_JB_addWrite.2.1 67 = .ok (.iastore, 1) := by decide +kernel
theorem d_JB_addWrite_68 : decode M_JB_addWrite.2.1 68 = .ok (.aload_n 0, 1) := by decide +kernel
theorem d_JB_addWrite_69 : decode M_JB_addWrite.2.1 69 = .ok (.dup, 1) := by decide +kernel
theorem d_JB_addWrite_70 : decode M_JB_addWrite.2.1 70 = .ok (.getfield 22, 3) := by decide +kernel
theorem d_JB_addWrite_73 : decode M_JB_addWrite.2.1 73 = .ok (.iconst (1), 1) := by decide +kernel
theorem d_JB_addWrite_74 : decode M_JB_addWrite.2.1 74 = .ok (.iadd, 1) := by decide +kernel
theorem d_JB_addWrite_75 : decode M_JB_addWrite.2.1 75 = .ok (.putfield 22, 3) := by decide +kernel
theorem d_JB_addWrite_78 : decode M_JB_addWrite.2.1 78 = .ok (.return_, 1) := by decide +kernel
theorem d_JB_doNext_0 : decode M_JB_doNext.2.1 0 = .ok (.aload_n 0, 1) := by decide +kernel
theorem d_JB_doNext_1 : decode M_JB_doNext.2.1 1 = .ok (.getfield 25, 3) := by decide +kernel
theorem d_JB_doNext_4 : decode M_JB_doNext.2.1 4 = .ok (.aload_n 0, 1) := by decide +kernel
theorem d_JB_doNext_5 : decode M_JB_doNext.2.1 5 = .ok (.getfield 22, 3) := by decide +kernel
theorem d_JB_doNext_8 : decode M_JB_doNext.2.1 8 = .ok (.if_icmp .lt (4), 3) := by decide +kernel
theorem d_JB_doNext_11 : decode M_JB_doNext.2.1 11 = .ok (.return_, 1) := by decide +kernel
theorem d_JB_doNext_12 : decode M_JB_doNext.2.1 12 = .ok (.aload_n 0, 1) := by decide +kernel
theorem d_JB_doNext_13 : decode M_JB_doNext.2.1 13 = .ok (.getfield 11, 3) := by decide +kernel
theorem d_JB_doNext_16 : decode M_JB_doNext.2.1 16 = .ok (.aload_n 0, 1) := by decide +kernel
theorem d_JB_doNext_17 : decode M_JB_doNext.2.1 17 = .ok (.getfield 25, 3) := by decide +kernel
theorem d_JB_doNext_20 : decode M_JB_doNext.2.1 20 = .ok (.iaload, 1) := by decide +kernel
theorem d_JB_doNext_21 : decode M_JB_doNext.2.1 21 = .ok (.iconst (-1), 1) := by decide +kernel
theorem d_JB_doNext_22 : decode M_JB_doNext.2.1 22 = .ok (.if_icmp .ne (10), 3) := by decide +kernel
theorem d_JB_doNext_25 : decode M_JB_doNext.2.1 25 = .ok (.aload_n 1, 1) := by decide +kernel
theorem d_JB_doNext_26 : decode M_JB_doNext.2.1 26 = .ok (.invokevirtual 32, 3) := by decide +kernel
theorem d_JB_doNext_29 : decode M_JB_doNext.2.1 29 = .ok (.goto (26), 3) := by decide +kernel
theorem d_JB_doNext_32 : decode M_JB_doNext.2.1 32 = .ok (.aload_n 1, 1) := by decide +kernel
theorem d_JB_doNext_33 : decode M_JB_doNext.2.1 33 = .ok (.aload_n 0, 1) := by decide +kernel
theorem d_JB_doNext_34 : decode M_JB_doNext.2.1 34 = .ok (.getfield 11, 3) := by decide +kernel
theorem d_JB_doNext_37 : decode M_JB_doNext.2.1 37 = .ok (.aload_n 0, 1) := by decide +kernel
theorem d_JB_doNext_38 : decode M_JB_doNext.2.1 38 = .ok (.getfield 25, 3) := by decide +kernel
theorem d_JB_doNext_41 : decode M_JB_doNext.2.1 41 = .ok (.iaload, 1) := by decide +kernel
theorem d_JB_doNext_42 : decode M_JB_doNext.2.1 42 = .ok (.aload_n 0, 1) := by decide +kernel
theorem d_JB_doNext_43 : decode M_JB_doNext.2.1 43 = .ok (.getfield 15, 3) := by decide +kernel
theorem d_JB_doNext_46 : decode M_JB_doNext.2.1 46 = .ok (.aload_n 0, 1) := by decide +kernel
theorem d_JB_doNext_47 : decode M_JB_doNext.2.1 47 = .ok (.getfield 25, 3) := by decide +kernel
theorem d_JB_doNext_50 : decode M_JB_doNext.2.1 50 = .ok (.iconst (4), 1) := by decide +kernel
theorem d_JB_doNext_51 : decode M_JB_doNext.2.1 51 = .ok (.imul, 1) := by decide +kernel
theorem d_JB_doNext_52 : decode M_JB_doNext.2.1 52 = .ok (.invokevirtual 37, 3) := by decide +kernel
theorem d_JB_doNext_55 : decode M_JB_doNext.2.1 55 = .ok (.aload_n 0, 1) := by decide +kernel
theorem d_JB_doNext_56 : decode M_JB_doNext.2.1 56 = .ok (.dup, 1) := by decide +kernel
theorem d_JB_doNext_57 : decode M_JB_doNext.2.1 57 = .ok (.getfield 25, 3) := by decide +kernel
theorem d_JB_doNext_60 : decode M_JB_doNext.2.1 60 = .ok (.iconst (1), 1) := by decide +kernel
theorem d_JB_doNext_61 : decode M_JB_doNext.2.1 61 = .ok (.iadd, 1) := by decide +kernel
theorem d_JB_doNext_62 : decode M_JB_doNext.2.1 62 = .ok (.putfield 25, 3) := by decide +kernel
theorem d_JB_doNext_65 : decode M_JB_doNext.2.1 65 = .ok (.return_, 1) := by decide +kernel
theorem d_JB_isRunning_0 : decode M_JB_isRunning.2.1 0 = .ok (.aload_n 0, 1) := by decide +kernel
theorem d_JB_isRunning_1 : decode M_JB_isRunning.2.1 1 = .ok (.getfield 18, 3) := by decide +kernel
theorem d_JB_isRunning_4 : decode M_JB_isRunning.2.1 4 = .ok (.ifCond .eq (7), 3) := by decide +kernel
theorem d_JB_isRunning_7 : decode M_JB_isRunning.2.1 7 = .ok (.iconst (1), 1) := by decide +kernel
theorem d_JB_isRunning_8 : decode M_JB_isRunning.2.1 8 = .ok (.goto (4), 3) := by decide +kernel
theorem d_JB_isRunning_11 : decode M_JB_isRunning.2.1 11 = .ok (.iconst (0), 1) := by decide +kernel
theorem d_JB_isRunning_12 : decode M_JB_isRunning.2.1 12 = .ok (.ireturn, 1) := by decide +kernel
theorem d_JB_begin_0 : decode M_JB_begin.2.1 0 = .ok (.aload_n 0, 1) := by decide +kernel
theorem d_JB_begin_1 : decode M_JB_begin.2.1 1 = .ok (.iload_n 1, 1) := by decide +kernel
theorem d_JB_begin_2 : decode M_JB_begin.2.1 2 = .ok (.putfield 18, 3) := by decide +kernel
theorem d_JB_begin_5 : decode M_JB_begin.2.1 5 = .ok (.aload_n 0, 1) := by decide +kernel
theorem d_JB_begin_6 : decode M_JB_begin.2.1 6 = .ok (.iconst (0), 1) := by decide +kernel
theorem d_JB_begin_7 : decode M_JB_begin.2.1 7 = .ok (.putfield 22, 3) := by decide +kernel
theorem d_JB_begin_10 : decode M_JB_begin.2.1 10 = .ok (.aload_n 0, 1) := by decide +kernel
theorem d_JB_begin_11 : decode M_JB_begin.2.1 11 = .ok (.iconst (0), 1) := by decide +kernel
theorem d_JB_begin_12 : decode M_JB_begin.2.1 12 = .ok (.putfield 25, 3) := by decide +kernel
theorem d_JB_begin_15 : decode M_JB_begin.2.1 15 = .ok (.return_, 1) := by decide +kernel
theorem d_JB_remaining_0 : decode M_JB_remaining.2.1 0 = .ok (.aload_n 0, 1) := by decide +kernel
theorem d_JB_remaining_1 : decode M_JB_remaining.2.1 1 = .ok (.getfield 22, 3) := by decide +kernel
theorem d_JB_remaining_4 : decode M_JB_remaining.2.1 4 = .ok (.aload_n 0, 1) := by decide +kernel
theorem d_JB_remaining_5 : decode M_JB_remaining.2.1 5 = .ok (.getfield 25, 3) := by decide +kernel
theorem d_JB_remaining_8 : decode M_JB_remaining.2.1 8 = .ok (.isub, 1) := by decide +kernel
theorem d_JB_remaining_9 : decode M_JB_remaining.2.1 9 = .ok (.ireturn, 1) := by decide +kernel
theorem d_JB_end_0 : decode M_JB_end.2.1 0 = .ok (.aload_n 0, 1) := by decide +kernel
theorem d_JB_end_1 : decode M_JB_end.2.1 1 = .ok (.iconst (0), 1) := by decide +kernel
theorem d_JB_end_2 : decode M_JB_end.2.1 2 = .ok (.invokevirtual 28, 3) := by decide +kernel
theorem d_JB_end_5 : decode M_JB_end.2.1 5 = .ok (.return_, 1) := by decide +kernel
theorem d_JB_kind_0 : decode M_JB_kind.2.1 0 = .ok (.aload_n 0, 1) := by decide +kernel
theorem d_JB_kind_1 : decode M_JB_kind.2.1 1 = .ok (.getfield 18, 3) := by decide +kernel
theorem d_JB_kind_4 : decode M_JB_kind.2.1 4 = .ok (.ireturn, 1) := by decide +kernel
end
section
theorem d_LR_word_0 : decode M_LR_word.2.1 0 = .ok (.iload_n 2, 1) := by decide +kernel
theorem d_LR_word_1 : decode M_LR_word.2.1 1 = .ok (.ifCond .ne (17), 3) := by decide +kernel
theorem d_LR_word_4 : decode M_LR_word.2.1 4 = .ok (.aload_n 0, 1) := by decide +kernel
theorem d_LR_word_5 : decode M_LR_word.2.1 5 = .ok (.getfield 21, 3) := by decide +kernel
theorem d_LR_word_8 : decode M_LR_word.2.1 8 = .ok (.iload_n 1, 1) := by decide +kernel
theorem d_LR_word_9 : decode M_LR_word.2.1 9 = .ok (.baload, 1) := by decide +kernel
theorem d_LR_word_10 : decode M_LR_word.2.1 10 = .ok (.ifCond .eq (8), 3) := by decide +kernel
theorem d_LR_word_13 : decode M_LR_word.2.1 13 = .ok (.ldc 53, 2) := by decide +kernel
theorem d_LR_word_15 : decode M_LR_word.2.1 15 = .ok (.goto (14), 3) := by decide +kernel
theorem d_LR_word_18 : decode M_LR_word.2.1 18 = .ok (.aload_n 0, 1) := by decide +kernel
theorem d_LR_word_19 : decode M_LR_word.2.1 19 = .ok (.aload_n 0, 1) := by decide +kernel
theorem d_LR_word_20 : decode M_LR_word.2.1 20 = .ok (.getfield 15, 3) := by decide +kernel
theorem d_LR_word_23 : decode M_LR_word.2.1 23 = .ok (.iload_n 1, 1) := by decide +kernel
theorem d_LR_word_24 : decode M_LR_word.2.1 24 = .ok (.iaload, 1) := by decide +kernel
theorem d_LR_word_25 : decode M_LR_word.2.1 25 = .ok (.iload_n 2, 1) := by decide +kernel
theorem d_LR_word_26 : decode M_LR_word.2.1 26 = .ok (.invokevirtual 54, 3) := by decide +kernel
theorem d_LR_word_29 : decode M_LR_word.2.1 29 = .ok (.ireturn, 1) := by decide +kernel
theorem d_LR_wordAt_0 : decode M_LR_wordAt.2.1 0 = .ok (.aload_n 0, 1) := by decide +kernel
theorem d_LR_wordAt_1 : decode M_LR_wordAt.2.1 1 = .ok (.getfield 9, 3) := by decide +kernel
theorem d_LR_wordAt_4 : decode M_LR_wordAt.2.1 4 = .ok (.iload_n 1, 1) := by decide +kernel
theorem d_LR_wordAt_5 : decode M_LR_wordAt.2.1 5 = .ok (.iconst (4), 1) := by decide +kernel
theorem d_LR_wordAt_6 : decode M_LR_wordAt.2.1 6 = .ok (.imul, 1) := by decide +kernel
theorem d_LR_wordAt_7 : decode M_LR_wordAt.2.1 7 = .ok (.iload_n 2, 1) := by decide +kernel
theorem d_LR_wordAt_8 : decode M_LR_wordAt.2.1 8 = .ok (.iadd, 1) := by decide +kernel
theorem d_LR_wordAt_9 : decode M_LR_wordAt.2.1 9 = .ok (.iaload, 1) := by decide +kernel
theorem d_LR_wordAt_10 : decode M_LR_wordAt.2.1 10 = .ok (.ireturn, 1) := by decide +kernel
theorem d_LR_isToReplay_0 : decode M_LR_isToReplay.2.1 0 = .ok (.aload_n 0, 1) := by decide +kernel
theorem d_LR_isToReplay_1 : decode M_LR_isToReplay.2.1 1 = .ok (.getfield 28, 3) := by decide +kernel
theorem d_LR_isToReplay_4 : decode M_LR_isToReplay.2.1 4 = .ok (.aload_n 0, 1) := by decide +kernel
theorem d_LR_isToReplay_5 : decode M_LR_isToReplay.2.1 5 = .ok (.getfield 18, 3) := by decide +kernel
theorem d_LR_isToReplay_8 : decode M_LR_isToReplay.2.1 8 = .ok (.iload_n 1, 1) := by decide +kernel
theorem d_LR_isToReplay_9 : decode M_LR_isToReplay.2.1 9 = .ok (.iaload, 1) := by decide +kernel
theorem d_LR_isToReplay_10 : decode M_LR_isToReplay.2.1 10 = .ok (.iaload, 1) := by decide +kernel
theorem d_LR_isToReplay_11 : decode M_LR_isToReplay.2.1 11 = .ok (.aload_n 0, 1) := by decide +kernel
theorem d_LR_isToReplay_12 : decode M_LR_isToReplay.2.1 12 = .ok (.getfield 25, 3) := by decide +kernel
theorem d_LR_isToReplay_15 : decode M_LR_isToReplay.2.1 15 = .ok (.iload_n 1, 1) := by decide +kernel
theorem d_LR_isToReplay_16 : decode M_LR_isToReplay.2.1 16 = .ok (.iaload, 1) := by decide +kernel
theorem d_LR_isToReplay_17 : decode M_LR_isToReplay.2.1 17 = .ok (.if_icmp .gt (7), 3) := by decide +kernel
theorem d_LR_isToReplay_20 : decode M_LR_isToReplay.2.1 20 = .ok (.iconst (1), 1) := by decide +kernel
theorem d_LR_isToReplay_21 : decode M_LR_isToReplay.2.1 21 = .ok (.goto (4), 3) := by decide +kernel
theorem d_LR_isToReplay_24 : decode M_LR_isToReplay.2.1 24 = .ok (.iconst (0), 1) := by decide +kernel
theorem d_LR_isToReplay_25 : decode M_LR_isToReplay.2.1 25 = .ok (.ireturn, 1) := by decide +kernel
theorem d_LR_scan_0 : decode M_LR_scan.2.1 0 = .ok (.aload_n 0, 1) := by decide +kernel
theorem d_LR_scan_1 : decode M_LR_scan.2.1 1 = .ok (.aload_n 1, 1) := by decide +kernel
theorem d_LR_scan_2 : decode M_LR_scan.2.1 2 = .ok (.invokevirtual 58, 3) := by decide +kernel
theorem d_LR_scan_5 : decode M_LR_scan.2.1 5 = .ok (.aload_n 0, 1) := by decide +kernel
theorem d_LR_scan_6 : decode M_LR_scan.2.1 6 = .ok (.aload_n 1, 1) := by decide +kernel
theorem d_LR_scan_7 : decode M_LR_scan.2.1 7 = .ok (.invokevirtual 62, 3) := by decide +kernel
theorem d_LR_scan_10 : decode M_LR_scan.2.1 10 = .ok (.aload_n 0, 1) := by decide +kernel
theorem d_LR_scan_11 : decode M_LR_scan.2.1 11 = .ok (.getfield 28, 3) := by decide +kernel
theorem d_LR_scan_14 : decode M_LR_scan.2.1 14 = .ok (.iconst (-1), 1) := by decide +kernel
theorem d_LR_scan_15 : decode M_LR_scan.2.1 15 = .ok (.invokestatic 65, 3) := by decide +kernel
theorem d_LR_scan_18 : decode M_LR_scan.2.1 18 = .ok (.aload_n 0, 1) := by decide +kernel
theorem d_LR_scan_19 : decode M_LR_scan.2.1 19 = .ok (.iconst (0), 1) := by decide +kernel
theorem d_LR_scan_20 : decode M_LR_scan.2.1 20 = .ok (.putfield 38, 3) := by decide +kernel
theorem d_LR_scan_23 : decode M_LR_scan.2.1 23 = .ok (.aload_n 0, 1) := by decide +kernel
theorem d_LR_scan_24 : decode M_LR_scan.2.1 24 = .ok (.iconst (0), 1) := by decide +kernel
theorem d_LR_scan_25 : decode M_LR_scan.2.1 25 = .ok (.putfield 41, 3) := by decide +kernel
theorem d_LR_scan_28 : decode M_LR_scan.2.1 28 = .ok (.iconst (0), 1) := by decide +kernel
theorem d_LR_scan_29 : decode M_LR_scan.2.1 29 = .ok (.istore_n 2, 1) := by decide +kernel
theorem d_LR_scan_30 : decode M_LR_scan.2.1 30 = .ok (.iload_n 2, 1) := by decide +kernel
theorem d_LR_scan_31 : decode M_LR_scan.2.1 31 = .ok (.bipush (24), 2) := by decide +kernel
theorem d_LR_scan_33 : decode M_LR_scan.2.1 33 = .ok (.if_icmp .ge (20), 3) := by decide +kernel
theorem d_LR_scan_36 : decode M_LR_scan.2.1 36 = .ok (.aload_n 0, 1) := by decide +kernel
theorem d_LR_scan_37 : decode M_LR_scan.2.1 37 = .ok (.iload_n 2, 1) := by decide +kernel
theorem d_LR_scan_38 : decode M_LR_scan.2.1 38 = .ok (.invokevirtual 71, 3) := by decide +kernel
theorem d_LR_scan_41 : decode M_LR_scan.2.1 41 = .ok (.ifCond .ne (6), 3) := by decide +kernel
theorem d_LR_scan_44 : decode M_LR_scan.2.1 44 = .ok (.goto (9), 3) := by decide +kernel
theorem d_LR_scan_47 : decode M_LR_scan.2.1 47 = .ok (.iinc 2 (1), 3) := by decide +kernel
theorem d_LR_scan_50 : decode M_LR_scan.2.1 50 = .ok (.goto (-20), 3) := by decide +kernel
theorem d_LR_scan_53 : decode M_LR_scan.2.1 53 = .ok (.return_, 1) := by decide +kernel
theorem d_LR_takeHead_0 : decode M_LR_takeHead.2.1 0 = .ok (.aload_n 0, 1) := by decide +kernel
theorem d_LR_takeHead_1 : decode M_LR_takeHead.2.1 1 = .ok (.aload_n 1, 1) := by decide +kernel
theorem d_LR_takeHead_2 : decode M_LR_takeHead.2.1 2 = .ok (.bipush (16), 2) := by decide +kernel
theorem d_LR_takeHead_4 : decode M_LR_takeHead.2.1 4 = .ok (.iconst (2), 1) := by decide +kernel
theorem d_LR_takeHead_5 : decode M_LR_takeHead.2.1 5 = .ok (.invokevirtual 75, 3) := by decide +kernel
theorem d_LR_takeHead_8 : decode M_LR_takeHead.2.1 8 = .ok (.putfield 31, 3) := by decide +kernel
theorem d_LR_takeHead_11 : decode M_LR_takeHead.2.1 11 = .ok (.aload_n 0, 1) := by decide +kernel
theorem d_LR_takeHead_12 : decode M_LR_takeHead.2.1 12 = .ok (.aload_n 1, 1) := by decide +kernel
theorem d_LR_takeHead_13 : decode M_LR_takeHead.2.1 13 = .ok (.bipush (16), 2) := by decide +kernel
theorem d_LR_takeHead_15 : decode M_LR_takeHead.2.1 15 = .ok (.iconst (1), 1) := by decide +kernel
theorem d_LR_takeHead_16 : decode M_LR_takeHead.2.1 16 = .ok (.invokevirtual 75, 3) := by decide +kernel
theorem d_LR_takeHead_19 : decode M_LR_takeHead.2.1 19 = .ok (.putfield 35, 3) := by decide +kernel
theorem d_LR_takeHead_22 : decode M_LR_takeHead.2.1 22 = .ok (.aload_n 1, 1) := by decide +kernel
theorem d_LR_takeHead_23 : decode M_LR_takeHead.2.1 23 = .ok (.bipush (16), 2) := by decide +kernel
theorem d_LR_takeHead_25 : decode M_LR_takeHead.2.1 25 = .ok (.iconst (0), 1) := by decide +kernel
theorem d_LR_takeHead_26 : decode M_LR_takeHead.2.1 26 = .ok (.invokevirtual 75, 3) := by decide +kernel
theorem d_LR_takeHead_29 : decode M_LR_takeHead.2.1 29 = .ok (.ldc 53, 2) := by decide +kernel
theorem d_LR_takeHead_31 : decode M_LR_takeHead.2.1 31 = .ok (.if_icmp .ne (19), 3) := by decide +kernel
theorem d_LR_takeHead_34 : decode M_LR_takeHead.2.1 34 = .ok (.aload_n 0, 1) := by decide +kernel
theorem d_LR_takeHead_35 : decode M_LR_takeHead.2.1 35 = .ok (.getfield 31, 3) := by decide +kernel
theorem d_LR_takeHead_38 : decode M_LR_takeHead.2.1 38 = .ok (.ifCond .lt (12), 3) := by decide +kernel
theorem d_LR_takeHead_41 : decode M_LR_takeHead.2.1 41 = .ok (.aload_n 0, 1) := by decide +kernel
theorem d_LR_takeHead_42 : decode M_LR_takeHead.2.1 42 = .ok (.getfield 31, 3) := by decide +kernel
theorem d_LR_takeHead_45 : decode M_LR_takeHead.2.1 45 = .ok (.bipush (24), 2) := by decide +kernel
theorem d_LR_takeHead_47 : decode M_LR_takeHead.2.1 47 = .ok (.if_icmp .lt (13), 3) := by decide +kernel
theorem d_LR_takeHead_50 : decode M_LR_takeHead.2.1 50 = .ok (.aload_n 0, 1) := by decide +kernel
theorem d_LR_takeHead_51 : decode M_LR_takeHead.2.1 51 = .ok (.iconst (0), 1) := by decide +kernel
theorem d_LR_takeHead_52 : decode M_LR_takeHead.2.1 52 = .ok (.putfield 31, 3) := by decide +kernel
theorem d_LR_takeHead_55 : decode M_LR_takeHead.2.1 55 = .ok (.aload_n 0, 1) := by decide +kernel
theorem d_LR_takeHead_56 : decode M_LR_takeHead.2.1 56 = .ok (.iconst (1), 1) := by decide +kernel
theorem d_LR_takeHead_57 : decode M_LR_takeHead.2.1 57 = .ok (.putfield 35, 3) := by decide +kernel
theorem d_LR_takeHead_60 : decode M_LR_takeHead.2.1 60 = .ok (.return_, 1) := by decide +kernel
theorem d_LR_takeLog_0 : decode M_LR_takeLog.2.1 0 = .ok (.iconst (0), 1) := by decide +kernel
theorem d_LR_takeLog_1 : decode M_LR_takeLog.2.1 1 = .ok (.istore_n 2, 1) := by decide +kernel
theorem d_LR_takeLog_2 : decode M_LR_takeLog.2.1 2 = .ok (.iload_n 2, 1) := by decide +kernel
theorem d_LR_takeLog_3 : decode M_LR_takeLog.2.1 3 = .ok (.bipush (24), 2) := by decide +kernel
theorem d_LR_takeLog_5 : decode M_LR_takeLog.2.1 5 = .ok (.if_icmp .ge (46), 3) := by decide +kernel
theorem d_LR_takeLog_8 : decode M_LR_takeLog.2.1 8 = .ok (.iconst (0), 1) := by decide +kernel
theorem d_LR_takeLog_9 : decode M_LR_takeLog.2.1 9 = .ok (.istore_n 3, 1) := by decide +kernel
theorem d_LR_takeLog_10 : decode M_LR_takeLog.2.1 10 = .ok (.iload_n 3, 1) := by decide +kernel
theorem d_LR_takeLog_11 : decode M_LR_takeLog.2.1 11 = .ok (.iconst (4), 1) := by decide +kernel
theorem d_LR_takeLog_12 : decode M_LR_takeLog.2.1 12 = .ok (.if_icmp .ge (33), 3) := by decide +kernel
theorem d_LR_takeLog_15 : decode M_LR_takeLog.2.1 15 = .ok (.aload_n 0, 1) := by decide +kernel
theorem d_LR_takeLog_16 : decode M_LR_takeLog.2.1 16 = .ok (.getfield 9, 3) := by decide +kernel
theorem d_LR_takeLog_19 : decode M_LR_takeLog.2.1 19 = .ok (.iload_n 2, 1) := by decide +kernel
theorem d_LR_takeLog_20 : decode M_LR_takeLog.2.1 20 = .ok (.iconst (4), 1) := by decide +kernel
theorem d_LR_takeLog_21 : decode M_LR_takeLog.2.1 21 = .ok (.imul, 1) := by decide +kernel
theorem d_LR_takeLog_22 : decode M_LR_takeLog.2.1 22 = .ok (.iload_n 3, 1) := by decide +kernel
theorem d_LR_takeLog_23 : decode M_LR_takeLog.2.1 23 = .ok (.iadd, 1) := by decide +kernel
theorem d_LR_takeLog_24 : decode M_LR_takeLog.2.1 24 = .ok (.aload_n 1, 1) := by decide +kernel
theorem d_LR_takeLog_25 : decode M_LR_takeLog.2.1 25 = .ok (.aload_n 0, 1) := by decide +kernel
theorem d_LR_takeLog_26 : decode M_LR_takeLog.2.1 26 = .ok (.getfield 31, 3) := by decide +kernel
theorem d_LR_takeLog_29 : decode M_LR_takeLog.2.1 29 = .ok (.iload_n 2, 1) := by decide +kernel
theorem d_LR_takeLog_30 : decode M_LR_takeLog.2.1 30 = .ok (.iadd, 1) := by decide +kernel
theorem d_LR_takeLog_31 : decode M_LR_takeLog.2.1 31 = .ok (.invokestatic 80, 3) := by decide +kernel
theorem d_LR_takeLog_34 : decode M_LR_takeLog.2.1 34 = .ok (.iload_n 3, 1) := by decide +kernel
theorem d_LR_takeLog_35 : decode M_LR_takeLog.2.1 35 = .ok (.invokevirtual 75, 3) := by decide +kernel
theorem d_LR_takeLog_38 : decode M_LR_takeLog.2.1 38 = .ok (.iastore, 1) := by decide +kernel
theorem d_LR_takeLog_39 : decode M_LR_takeLog.2.1 39 = .ok (.iinc 3 (1), 3) := by decide +kernel
theorem d_LR_takeLog_42 : decode M_LR_takeLog.2.1 42 = .ok (.goto (-32), 3) := by decide +kernel
theorem d_LR_takeLog_45 : decode M_LR_takeLog.2.1 45 = .ok (.iinc 2 (1), 3) := by decide +kernel
theorem d_LR_takeLog_48 : decode M_LR_takeLog.2.1 48 = .ok (.goto (-46), 3) := by decide +kernel
theorem d_LR_takeLog_51 : decode M_LR_takeLog.2.1 51 = .ok (.return_, 1) := by decide +kernel
theorem d_LR_takeTransaction_0 : decode M_LR_takeTransaction.2.1 0 = .ok (.aload_n 0, 1) := by decide +kernel
theorem d_LR_takeTransaction_1 : decode M_LR_takeTransaction.2.1 1 = .ok (.aload_n 0, 1) := by decide +kernel
theorem d_LR_takeTransaction_2 : decode M_LR_takeTransaction.2.1 2 = .ok (.getfield 38, 3) := by decide +kernel
theorem d_LR_takeTransaction_5 : decode M_LR_takeTransaction.2.1 5 = .ok (.putfield 44, 3) := by decide +kernel
theorem d_LR_takeTransaction_8 : decode M_LR_takeTransaction.2.1 8 = .ok (.aload_n 0, 1) := by decide +kernel
theorem d_LR_takeTransaction_9 : decode M_LR_takeTransaction.2.1 9 = .ok (.aload_n 0, 1) := by decide +kernel
theorem d_LR_takeTransaction_10 : decode M_LR_takeTransaction.2.1 10 = .ok (.getfield 35, 3) := by decide +kernel
theorem d_LR_takeTransaction_13 : decode M_LR_takeTransaction.2.1 13 = .ok (.putfield 47, 3) := by decide +kernel
theorem d_LR_takeTransaction_16 : decode M_LR_takeTransaction.2.1 16 = .ok (.aload_n 0, 1) := by decide +kernel
theorem d_LR_takeTransaction_17 : decode M_LR_takeTransaction.2.1 17 = .ok (.aload_n 0, 1) := by decide +kernel
theorem d_LR_takeTransaction_18 : decode M_LR_takeTransaction.2.1 18 = .ok (.getfield 41, 3) := by decide +kernel
theorem d_LR_takeTransaction_21 : decode M_LR_takeTransaction.2.1 21 = .ok (.putfield 50, 3) := by decide +kernel
theorem d_LR_takeTransaction_24 : decode M_LR_takeTransaction.2.1 24 = .ok (.aload_n 0, 1) := by decide +kernel
theorem d_LR_takeTransaction_25 : decode M_LR_takeTransaction.2.1 25 = .ok (.iload_n 1, 1) := by decide +kernel
theorem d_LR_takeTransaction_26 : decode M_LR_takeTransaction.2.1 26 = .ok (.invokevirtual 84, 3) := by decide +kernel
theorem d_LR_takeTransaction_29 : decode M_LR_takeTransaction.2.1 29 = .ok (.aload_n 0, 1) := by decide +kernel
theorem d_LR_takeTransaction_30 : decode M_LR_takeTransaction.2.1 30 = .ok (.invokevirtual 88, 3) := by decide +kernel
theorem d_LR_takeTransaction_33 : decode M_LR_takeTransaction.2.1 33 = .ok (.istore_n 2, 1) := by decide +kernel
theorem d_LR_takeTransaction_34 : decode M_LR_takeTransaction.2.1 34 = .ok (.aload_n 0, 1) := by decide +kernel
theorem d_LR_takeTransaction_35 : decode M_LR_takeTransaction.2.1 35 = .ok (.iconst (3), 1) := by decide +kernel
theorem d_LR_takeTransaction_36 : decode M_LR_takeTransaction.2.1 36 = .ok (.invokevirtual 92, 3) := by decide +kernel
theorem d_LR_takeTransaction_39 : decode M_LR_takeTransaction.2.1 39 = .ok (.ifCond .eq (19), 3) := by decide +kernel
theorem d_LR_takeTransaction_42 : decode M_LR_takeTransaction.2.1 42 = .ok (.aload_n 0, 1) := by decide +kernel
theorem d_LR_takeTransaction_43 : decode M_LR_takeTransaction.2.1 43 = .ok (.aload_n 0, 1) := by decide +kernel
theorem d_LR_takeTransaction_44 : decode M_LR_takeTransaction.2.1 44 = .ok (.getfield 44, 3) := by decide +kernel
theorem d_LR_takeTransaction_47 : decode M_LR_takeTransaction.2.1 47 = .ok (.iconst (3), 1) := by decide +kernel
theorem d_LR_takeTransaction_48 : decode M_LR_takeTransaction.2.1 48 = .ok (.invokevirtual 54, 3) := by decide +kernel
theorem d_LR_takeTransaction_51 : decode M_LR_takeTransaction.2.1 51 = .ok (.aload_n 0, 1) := by decide +kernel
theorem d_LR_takeTransaction_52 : decode M_LR_takeTransaction.2.1 52 = .ok (.getfield 47, 3) := by decide +kernel
theorem d_LR_takeTransaction_55 : decode M_LR_takeTransaction.2.1 55 = .ok (.if_icmp .eq (5), 3) := by decide +kernel
theorem d_LR_takeTransaction_58 : decode M_LR_takeTransaction.2.1 58 = .ok (.iconst (0), 1) := by decide +kernel
theorem d_LR_takeTransaction_59 : decode M_LR_takeTransaction.2.1 59 = .ok (.ireturn, 1) := by decide +kernel
theorem d_LR_takeTransaction_60 : decode M_LR_takeTransaction.2.1 60 = .ok (.iconst (0), 1) := by decide +kernel
theorem d_LR_takeTransaction_61 : decode M_LR_takeTransaction.2.1 61 = .ok (.istore_n 3, 1) := by decide +kernel
theorem d_LR_takeTransaction_62 : decode M_LR_takeTransaction.2.1 62 = .ok (.iload_n 3, 1) := by decide +kernel
theorem d_LR_takeTransaction_63 : decode M_LR_takeTransaction.2.1 63 = .ok (.bipush (16), 2) := by decide +kernel
theorem d_LR_takeTransaction_65 : decode M_LR_takeTransaction.2.1 65 = .ok (.if_icmp .ge (25), 3) := by decide +kernel
theorem d_LR_takeTransaction_68 : decode M_LR_takeTransaction.2.1 68 = .ok (.iload_n 2, 1) := by decide +kernel
theorem d_LR_takeTransaction_69 : decode M_LR_takeTransaction.2.1 69 = .ok (.iload_n 3, 1) := by decide +kernel
theorem d_LR_takeTransaction_70 : decode M_LR_takeTransaction.2.1 70 = .ok (.iushr, 1) := by decide +kernel
theorem d_LR_takeTransaction_71 : decode M_LR_takeTransaction.2.1 71 = .ok (.iconst (1), 1) := by decide +kernel
theorem d_LR_takeTransaction_72 : decode M_LR_takeTransaction.2.1 72 = .ok (.iand, 1) := by decide +kernel
theorem d_LR_takeTransaction_73 : decode M_LR_takeTransaction.2.1 73 = .ok (.iconst (1), 1) := by decide +kernel
theorem d_LR_takeTransaction_74 : decode M_LR_takeTransaction.2.1 74 = .ok (.if_icmp .ne (10), 3) := by decide +kernel
theorem d_LR_takeTransaction_77 : decode M_LR_takeTransaction.2.1 77 = .ok (.aload_n 0, 1) := by decide +kernel
theorem d_LR_takeTransaction_78 : decode M_LR_takeTransaction.2.1 78 = .ok (.getfield 28, 3) := by decide +kernel
theorem d_LR_takeTransaction_81 : decode M_LR_takeTransaction.2.1 81 = .ok (.iload_n 3, 1) := by decide +kernel
theorem d_LR_takeTransaction_82 : decode M_LR_takeTransaction.2.1 82 = .ok (.iload_n 1, 1) := by decide +kernel
theorem d_LR_takeTransaction_83 : decode M_LR_takeTransaction.2.1 83 = .ok (.iastore, 1) := by decide +kernel
theorem d_LR_takeTransaction_84 : decode M_LR_takeTransaction.2.1 84 = .ok (.iinc 3 (1), 3) := by decide +kernel
theorem d_LR_takeTransaction_87 : decode M_LR_takeTransaction.2.1 87 = .ok (.goto (-25), 3) := by decide +kernel
theorem d_LR_takeTransaction_90 : decode M_LR_takeTransaction.2.1 90 = .ok (.aload_n 0, 1) := by decide +kernel
theorem d_LR_takeTransaction_91 : decode M_LR_takeTransaction.2.1 91 = .ok (.aload_n 0, 1) := by decide +kernel
theorem d_LR_takeTransaction_92 : decode M_LR_takeTransaction.2.1 92 = .ok (.getfield 44, 3) := by decide +kernel
theorem d_LR_takeTransaction_95 : decode M_LR_takeTransaction.2.1 95 = .ok (.iconst (1), 1) := by decide +kernel
theorem d_LR_takeTransaction_96 : decode M_LR_takeTransaction.2.1 96 = .ok (.iadd, 1) := by decide +kernel
theorem d_LR_takeTransaction_97 : decode M_LR_takeTransaction.2.1 97 = .ok (.putfield 38, 3) := by decide +kernel
theorem d_LR_takeTransaction_100 : decode M_LR_takeTransaction.2.1 100 = .ok (.aload_n 0, 1) := by decide +kernel
theorem d_LR_takeTransaction_101 : decode M_LR_takeTransaction.2.1 101 = .ok (.aload_n 0, 1) := by decide +kernel
theorem d_LR_takeTransaction_102 : decode M_LR_takeTransaction.2.1 102 = .ok (.getfield 50, 3) := by decide +kernel
theorem d_LR_takeTransaction_105 : decode M_LR_takeTransaction.2.1 105 = .ok (.putfield 41, 3) := by decide +kernel
theorem d_LR_takeTransaction_108 : decode M_LR_takeTransaction.2.1 108 = .ok (.aload_n 0, 1) := by decide +kernel
theorem d_LR_takeTransaction_109 : decode M_LR_takeTransaction.2.1 109 = .ok (.dup, 1) := by decide +kernel
theorem d_LR_takeTransaction_110 : decode M_LR_takeTransaction.2.1 110 = .ok (.getfield 35, 3) := by decide +kernel
theorem d_LR_takeTransaction_113 : decode M_LR_takeTransaction.2.1 113 = .ok (.iconst (1), 1) := by decide +kernel
theorem d_LR_takeTransaction_114 : decode M_LR_takeTransaction.2.1 114 = .ok (.iadd, 1) := by decide +kernel
theorem d_LR_takeTransaction_115 : decode M_LR_takeTransaction.2.1 115 = .ok (.putfield 35, 3) := by decide +kernel
theorem d_LR_takeTransaction_118 : decode M_LR_takeTransaction.2.1 118 = .ok (.iconst (1), 1) := by decide +kernel
theorem d_LR_takeTransaction_119 : decode M_LR_takeTransaction.2.1 119 = .ok (.ireturn, 1) := by decide +kernel
theorem d_LR_passGroups_0 : decode M_LR_passGroups.2.1 0 = .ok (.iconst (0), 1) := by decide +kernel
theorem d_LR_passGroups_1 : decode M_LR_passGroups.2.1 1 = .ok (.istore_n 2, 1) := by decide +kernel
theorem d_LR_passGroups_2 : decode M_LR_passGroups.2.1 2 = .ok (.iload_n 2, 1) := by decide +kernel
theorem d_LR_passGroups_3 : decode M_LR_passGroups.2.1 3 = .ok (.bipush (24), 2) := by decide +kernel
theorem d_LR_passGroups_5 : decode M_LR_passGroups.2.1 5 = .ok (.if_icmp .ge (95), 3) := by decide +kernel
theorem d_LR_passGroups_8 : decode M_LR_passGroups.2.1 8 = .ok (.aload_n 0, 1) := by decide +kernel
theorem d_LR_passGroups_9 : decode M_LR_passGroups.2.1 9 = .ok (.iconst (1), 1) := by decide +kernel
theorem d_LR_passGroups_10 : decode M_LR_passGroups.2.1 10 = .ok (.invokevirtual 92, 3) := by decide +kernel
theorem d_LR_passGroups_13 : decode M_LR_passGroups.2.1 13 = .ok (.ifCond .eq (87), 3) := by decide +kernel
theorem d_LR_passGroups_16 : decode M_LR_passGroups.2.1 16 = .ok (.aload_n 0, 1) := by decide +kernel
theorem d_LR_passGroups_17 : decode M_LR_passGroups.2.1 17 = .ok (.aload_n 0, 1) := by decide +kernel
theorem d_LR_passGroups_18 : decode M_LR_passGroups.2.1 18 = .ok (.getfield 44, 3) := by decide +kernel
theorem d_LR_passGroups_21 : decode M_LR_passGroups.2.1 21 = .ok (.iconst (3), 1) := by decide +kernel
theorem d_LR_passGroups_22 : decode M_LR_passGroups.2.1 22 = .ok (.invokevirtual 54, 3) := by decide +kernel
theorem d_LR_passGroups_25 : decode M_LR_passGroups.2.1 25 = .ok (.istore_n 3, 1) := by decide +kernel
theorem d_LR_passGroups_26 : decode M_LR_passGroups.2.1 26 = .ok (.iload_n 3, 1) := by decide +kernel
theorem d_LR_passGroups_27 : decode M_LR_passGroups.2.1 27 = .ok (.bipush (7), 2) := by decide +kernel
theorem d_LR_passGroups_29 : decode M_LR_passGroups.2.1 29 = .ok (.iand, 1) := by decide +kernel
theorem d_LR_passGroups_30 : decode M_LR_passGroups.2.1 30 = .ok (.istore 4, 2) := by decide +kernel
theorem d_LR_passGroups_32 : decode M_LR_passGroups.2.1 32 = .ok (.iload 4, 2) := by decide +kernel
theorem d_LR_passGroups_34 : decode M_LR_passGroups.2.1 34 = .ok (.iconst (1), 1) := by decide +kernel
theorem d_LR_passGroups_35 : decode M_LR_passGroups.2.1 35 = .ok (.if_icmp .lt (21), 3) := by decide +kernel
theorem d_LR_passGroups_38 : decode M_LR_passGroups.2.1 38 = .ok (.iload 4, 2) := by decide +kernel
theorem d_LR_passGroups_40 : decode M_LR_passGroups.2.1 40 = .ok (.iconst (4), 1) := by decide +kernel
theorem d_LR_passGroups_41 : decode M_LR_passGroups.2.1 41 = .ok (.if_icmp .gt (15), 3) := by decide +kernel
theorem d_LR_passGroups_44 : decode M_LR_passGroups.2.1 44 = .ok (.aload_n 0, 1) := by decide +kernel
theorem d_LR_passGroups_45 : decode M_LR_passGroups.2.1 45 = .ok (.getfield 44, 3) := by decide +kernel
theorem d_LR_passGroups_48 : decode M_LR_passGroups.2.1 48 = .ok (.iload 4, 2) := by decide +kernel
theorem d_LR_passGroups_50 : decode M_LR_passGroups.2.1 50 = .ok (.iadd, 1) := by decide +kernel
theorem d_LR_passGroups_51 : decode M_LR_passGroups.2.1 51 = .ok (.bipush (24), 2) := by decide +kernel
theorem d_LR_passGroups_53 : decode M_LR_passGroups.2.1 53 = .ok (.if_icmp .lt (4), 3) := by decide +kernel
theorem d_LR_passGroups_56 : decode M_LR_passGroups.2.1 56 = .ok (.return_, 1) := by decide +kernel
theorem d_LR_passGroups_57 : decode M_LR_passGroups.2.1 57 = .ok (.aload_n 0, 1) := by decide +kernel
theorem d_LR_passGroups_58 : decode M_LR_passGroups.2.1 58 = .ok (.invokevirtual 95, 3) := by decide +kernel
theorem d_LR_passGroups_61 : decode M_LR_passGroups.2.1 61 = .ok (.iconst (0), 1) := by decide +kernel
theorem d_LR_passGroups_62 : decode M_LR_passGroups.2.1 62 = .ok (.istore 5, 2) := by decide +kernel
theorem d_LR_passGroups_64 : decode M_LR_passGroups.2.1 64 = .ok (.iload 5, 2) := by decide +kernel
theorem d_LR_passGroups_66 : decode M_LR_passGroups.2.1 66 = .ok (.iload 4, 2) := by decide +kernel
theorem d_LR_passGroups_68 : decode M_LR_passGroups.2.1 68 = .ok (.if_icmp .ge (26), 3) := by decide +kernel
theorem d_LR_passGroups_71 : decode M_LR_passGroups.2.1 71 = .ok (.aload_n 0, 1) := by decide +kernel
theorem d_LR_passGroups_72 : decode M_LR_passGroups.2.1 72 = .ok (.iload_n 3, 1) := by decide +kernel
theorem d_LR_passGroups_73 : decode M_LR_passGroups.2.1 73 = .ok (.iconst (3), 1) := by decide +kernel
theorem d_LR_passGroups_74 : decode M_LR_passGroups.2.1 74 = .ok (.iconst (5), 1) := by decide +kernel
theorem d_LR_passGroups_75 : decode M_LR_passGroups.2.1 75 = .ok (.iload 5, 2) := by decide +kernel
theorem d_LR_passGroups_77 : decode M_LR_passGroups.2.1 77 = .ok (.imul, 1) := by decide +kernel
theorem d_LR_passGroups_78 : decode M_LR_passGroups.2.1 78 = .ok (.iadd, 1) := by decide +kernel
theorem d_LR_passGroups_79 : decode M_LR_passGroups.2.1 79 = .ok (.iushr, 1) := by decide +kernel
theorem d_LR_passGroups_80 : decode M_LR_passGroups.2.1 80 = .ok (.iload_n 1, 1) := by decide +kernel
theorem d_LR_passGroups_81 : decode M_LR_passGroups.2.1 81 = .ok (.invokevirtual 98, 3) := by decide +kernel
theorem d_LR_passGroups_84 : decode M_LR_passGroups.2.1 84 = .ok (.aload_n 0, 1) := by decide +kernel
theorem d_LR_passGroups_85 : decode M_LR_passGroups.2.1 85 = .ok (.invokevirtual 95, 3) := by decide +kernel
theorem d_LR_passGroups_88 : decode M_LR_passGroups.2.1 88 = .ok (.iinc 5 (1), 3) := by decide +kernel
theorem d_LR_passGroups_91 : decode M_LR_passGroups.2.1 91 = .ok (.goto (-27), 3) := by decide +kernel
theorem d_LR_passGroups_94 : decode M_LR_passGroups.2.1 94 = .ok (.iinc 2 (1), 3) := by decide +kernel
theorem d_LR_passGroups_97 : decode M_LR_passGroups.2.1 97 = .ok (.goto (-95), 3) := by decide +kernel
theorem d_LR_passGroups_100 : decode M_LR_passGroups.2.1 100 = .ok (.return_, 1) := by decide +kernel
theorem d_LR_passRevocations_0 : decode M_LR_passRevocations.2.1 0 = .ok (.aload_n 0, 1) := by decide +kernel
theorem d_LR_passRevocations_1 : decode M_LR_passRevocations.2.1 1 = .ok (.iconst (2), 1) := by decide +kernel
theorem d_LR_passRevocations_2 : decode M_LR_passRevocations.2.1 2 = .ok (.invokevirtual 92, 3) := by decide +kernel
theorem d_LR_passRevocations_5 : decode M_LR_passRevocations.2.1 5 = .ok (.ifCond .ne (5), 3) := by decide +kernel
theorem d_LR_passRevocations_8 : decode M_LR_passRevocations.2.1 8 = .ok (.iconst (0), 1) := by decide +kernel
theorem d_LR_passRevocations_9 : decode M_LR_passRevocations.2.1 9 = .ok (.ireturn, 1) := by decide +kernel
theorem d_LR_passRevocations_10 : decode M_LR_passRevocations.2.1 10 = .ok (.aload_n 0, 1) := by decide +kernel
theorem d_LR_passRevocations_11 : decode M_LR_passRevocations.2.1 11 = .ok (.aload_n 0, 1) := by decide +kernel
theorem d_LR_passRevocations_12 : decode M_LR_passRevocations.2.1 12 = .ok (.getfield 44, 3) := by decide +kernel
theorem d_LR_passRevocations_15 : decode M_LR_passRevocations.2.1 15 = .ok (.iconst (3), 1) := by decide +kernel
theorem d_LR_passRevocations_16 : decode M_LR_passRevocations.2.1 16 = .ok (.invokevirtual 54, 3) := by decide +kernel
theorem d_LR_passRevocations_19 : decode M_LR_passRevocations.2.1 19 = .ok (.istore_n 1, 1) := by decide +kernel
theorem d_LR_passRevocations_20 : decode M_LR_passRevocations.2.1 20 = .ok (.aload_n 0, 1) := by decide +kernel
theorem d_LR_passRevocations_21 : decode M_LR_passRevocations.2.1 21 = .ok (.invokevirtual 95, 3) := by decide +kernel
theorem d_LR_passRevocations_24 : decode M_LR_passRevocations.2.1 24 = .ok (.iload_n 1, 1) := by decide +kernel
theorem d_LR_passRevocations_25 : decode M_LR_passRevocations.2.1 25 = .ok (.ireturn, 1) := by decide +kernel
theorem d_LR_noteImage_0 : decode M_LR_noteImage.2.1 0 = .ok (.aload_n 0, 1) := by decide +kernel
theorem d_LR_noteImage_1 : decode M_LR_noteImage.2.1 1 = .ok (.getfield 50, 3) := by decide +kernel
theorem d_LR_noteImage_4 : decode M_LR_noteImage.2.1 4 = .ok (.bipush (24), 2) := by decide +kernel
theorem d_LR_noteImage_6 : decode M_LR_noteImage.2.1 6 = .ok (.if_icmp .lt (4), 3) := by decide +kernel
theorem d_LR_noteImage_9 : decode M_LR_noteImage.2.1 9 = .ok (.return_, 1) := by decide +kernel
theorem d_LR_noteImage_10 : decode M_LR_noteImage.2.1 10 = .ok (.aload_n 0, 1) := by decide +kernel
theorem d_LR_noteImage_11 : decode M_LR_noteImage.2.1 11 = .ok (.getfield 15, 3) := by decide +kernel
theorem d_LR_noteImage_14 : decode M_LR_noteImage.2.1 14 = .ok (.aload_n 0, 1) := by decide +kernel
theorem d_LR_noteImage_15 : decode M_LR_noteImage.2.1 15 = .ok (.getfield 50, 3) := by decide +kernel
theorem d_LR_noteImage_18 : decode M_LR_noteImage.2.1 18 = .ok (.aload_n 0, 1) := by decide +kernel
theorem d_LR_noteImage_19 : decode M_LR_noteImage.2.1 19 = .ok (.getfield 44, 3) := by decide +kernel
theorem d_LR_noteImage_22 : decode M_LR_noteImage.2.1 22 = .ok (.iastore, 1) := by decide +kernel
theorem d_LR_noteImage_23 : decode M_LR_noteImage.2.1 23 = .ok (.aload_n 0, 1) := by decide +kernel
theorem d_LR_noteImage_24 : decode M_LR_noteImage.2.1 24 = .ok (.getfield 18, 3) := by decide +kernel
theorem d_LR_noteImage_27 : decode M_LR_noteImage.2.1 27 = .ok (.aload_n 0, 1) := by decide +kernel
theorem d_LR_noteImage_28 : decode M_LR_noteImage.2.1 28 = .ok (.getfield 50, 3) := by decide +kernel
theorem d_LR_noteImage_31 : decode M_LR_noteImage.2.1 31 = .ok (.iload_n 1, 1) := by decide +kernel
theorem d_LR_noteImage_32 : decode M_LR_noteImage.2.1 32 = .ok (.bipush (15), 2) := by decide +kernel
theorem d_LR_noteImage_34 : decode M_LR_noteImage.2.1 34 = .ok (.iand, 1) := by decide +kernel
theorem d_LR_noteImage_35 : decode M_LR_noteImage.2.1 35 = .ok (.iastore, 1) := by decide +kernel
theorem d_LR_noteImage_36 : decode M_LR_noteImage.2.1 36 = .ok (.aload_n 0, 1) := by decide +kernel
theorem d_LR_noteImage_37 : decode M_LR_noteImage.2.1 37 = .ok (.getfield 21, 3) := by decide +kernel
theorem d_LR_noteImage_40 : decode M_LR_noteImage.2.1 40 = .ok (.aload_n 0, 1) := by decide +kernel
theorem d_LR_noteImage_41 : decode M_LR_noteImage.2.1 41 = .ok (.getfield 50, 3) := by decide +kernel
theorem d_LR_noteImage_44 : decode M_LR_noteImage.2.1 44 = .ok (.iload_n 1, 1) := by decide +kernel
theorem d_LR_noteImage_45 : decode M_LR_noteImage.2.1 45 = .ok (.bipush (16), 2) := by decide +kernel
theorem d_LR_noteImage_47 : decode M_LR_noteImage.2.1 47 = .ok (.iand, 1) := by decide +kernel
theorem d_LR_noteImage_48 : decode M_LR_noteImage.2.1 48 = .ok (.ifCond .eq (7), 3) := by decide +kernel
theorem d_LR_noteImage_51 : decode M_LR_noteImage.2.1 51 = .ok (.iconst (1), 1) := by decide +kernel
theorem d_LR_noteImage_52 : decode M_LR_noteImage.2.1 52 = .ok (.goto (4), 3) := by decide +kernel
theorem d_LR_noteImage_55 : decode M_LR_noteImage.2.1 55 = .ok (.iconst (0), 1) := by decide +kernel
theorem d_LR_noteImage_56 : decode M_LR_noteImage.2.1 56 = .ok (.bastore, 1) := by decide +kernel
theorem d_LR_noteImage_57 : decode M_LR_noteImage.2.1 57 = .ok (.aload_n 0, 1) := by decide +kernel
theorem d_LR_noteImage_58 : decode M_LR_noteImage.2.1 58 = .ok (.getfield 25, 3) := by decide +kernel
theorem d_LR_noteImage_61 : decode M_LR_noteImage.2.1 61 = .ok (.aload_n 0, 1) := by decide +kernel
theorem d_LR_noteImage_62 : decode M_LR_noteImage.2.1 62 = .ok (.getfield 50, 3) := by decide +kernel
theorem d_LR_noteImage_65 : decode M_LR_noteImage.2.1 65 = .ok (.iload_n 2, 1) := by decide +kernel
theorem d_LR_noteImage_66 : decode M_LR_noteImage.2.1 66 = .ok (.iastore, 1) := by decide +kernel
theorem d_LR_noteImage_67 : decode M_LR_noteImage.2.1 67 = .ok (.aload_n 0, 1) := by decide +kernel
theorem d_LR_noteImage_68 : decode M_LR_noteImage.2.1 68 = .ok (.dup, 1) := by decide +kernel
theorem d_LR_noteImage_69 : decode M_LR_noteImage.2.1 69 = .ok (.getfield 50, 3) := by decide +kernel
theorem d_LR_noteImage_72 : decode M_LR_noteImage.2.1 72 = .ok (.iconst (1), 1) := by decide +kernel
theorem d_LR_noteImage_73 : decode M_LR_noteImage.2.1 73 = .ok (.iadd, 1) := by decide +kernel
theorem d_LR_noteImage_74 : decode M_LR_noteImage.2.1 74 = .ok (.putfield 50, 3) := by decide +kernel
theorem d_LR_noteImage_77 : decode M_LR_noteImage.2.1 77 = .ok (.return_, 1) := by decide +kernel
theorem d_LR_isOwn_0 : decode M_LR_isOwn.2.1 0 = .ok (.aload_n 0, 1) := by decide +kernel
theorem d_LR_isOwn_1 : decode M_LR_isOwn.2.1 1 = .ok (.getfield 44, 3) := by decide +kernel
theorem d_LR_isOwn_4 : decode M_LR_isOwn.2.1 4 = .ok (.bipush (24), 2) := by decide +kernel
theorem d_LR_isOwn_6 : decode M_LR_isOwn.2.1 6 = .ok (.if_icmp .ge (50), 3) := by decide +kernel
theorem d_LR_isOwn_9 : decode M_LR_isOwn.2.1 9 = .ok (.aload_n 0, 1) := by decide +kernel
theorem d_LR_isOwn_10 : decode M_LR_isOwn.2.1 10 = .ok (.aload_n 0, 1) := by decide +kernel
theorem d_LR_isOwn_11 : decode M_LR_isOwn.2.1 11 = .ok (.getfield 44, 3) := by decide +kernel
theorem d_LR_isOwn_14 : decode M_LR_isOwn.2.1 14 = .ok (.iconst (0), 1) := by decide +kernel
theorem d_LR_isOwn_15 : decode M_LR_isOwn.2.1 15 = .ok (.invokevirtual 54, 3) := by decide +kernel
theorem d_LR_isOwn_18 : decode M_LR_isOwn.2.1 18 = .ok (.ldc 53, 2) := by decide +kernel
theorem d_LR_isOwn_20 : decode M_LR_isOwn.2.1 20 = .ok (.if_icmp .ne (36), 3) := by decide +kernel
theorem d_LR_isOwn_23 : decode M_LR_isOwn.2.1 23 = .ok (.aload_n 0, 1) := by decide +kernel
theorem d_LR_isOwn_24 : decode M_LR_isOwn.2.1 24 = .ok (.aload_n 0, 1) := by decide +kernel
theorem d_LR_isOwn_25 : decode M_LR_isOwn.2.1 25 = .ok (.getfield 44, 3) := by decide +kernel
theorem d_LR_isOwn_28 : decode M_LR_isOwn.2.1 28 = .ok (.iconst (1), 1) := by decide +kernel
theorem d_LR_isOwn_29 : decode M_LR_isOwn.2.1 29 = .ok (.invokevirtual 54, 3) := by decide +kernel
theorem d_LR_isOwn_32 : decode M_LR_isOwn.2.1 32 = .ok (.iload_n 1, 1) := by decide +kernel
theorem d_LR_isOwn_33 : decode M_LR_isOwn.2.1 33 = .ok (.if_icmp .ne (23), 3) := by decide +kernel
theorem d_LR_isOwn_36 : decode M_LR_isOwn.2.1 36 = .ok (.aload_n 0, 1) := by decide +kernel
theorem d_LR_isOwn_37 : decode M_LR_isOwn.2.1 37 = .ok (.aload_n 0, 1) := by decide +kernel
theorem d_LR_isOwn_38 : decode M_LR_isOwn.2.1 38 = .ok (.getfield 44, 3) := by decide +kernel
theorem d_LR_isOwn_41 : decode M_LR_isOwn.2.1 41 = .ok (.iconst (2), 1) := by decide +kernel
theorem d_LR_isOwn_42 : decode M_LR_isOwn.2.1 42 = .ok (.invokevirtual 54, 3) := by decide +kernel
theorem d_LR_isOwn_45 : decode M_LR_isOwn.2.1 45 = .ok (.aload_n 0, 1) := by decide +kernel
theorem d_LR_isOwn_46 : decode M_LR_isOwn.2.1 46 = .ok (.getfield 35, 3) := by decide +kernel
theorem d_LR_isOwn_49 : decode M_LR_isOwn.2.1 49 = .ok (.if_icmp .ne (7), 3) := by decide +kernel
theorem d_LR_isOwn_52 : decode M_LR_isOwn.2.1 52 = .ok (.iconst (1), 1) := by decide +kernel
theorem d_LR_isOwn_53 : decode M_LR_isOwn.2.1 53 = .ok (.goto (4), 3) := by decide +kernel
theorem d_LR_isOwn_56 : decode M_LR_isOwn.2.1 56 = .ok (.iconst (0), 1) := by decide +kernel
theorem d_LR_isOwn_57 : decode M_LR_isOwn.2.1 57 = .ok (.ireturn, 1) := by decide +kernel
theorem d_LR_passSector_0 : decode M_LR_passSector.2.1 0 = .ok (.iconst (0), 1) := by decide +kernel
theorem d_LR_passSector_1 : decode M_LR_passSector.2.1 1 = .ok (.istore_n 1, 1) := by decide +kernel
theorem d_LR_passSector_2 : decode M_LR_passSector.2.1 2 = .ok (.iload_n 1, 1) := by decide +kernel
theorem d_LR_passSector_3 : decode M_LR_passSector.2.1 3 = .ok (.iconst (4), 1) := by decide +kernel
theorem d_LR_passSector_4 : decode M_LR_passSector.2.1 4 = .ok (.if_icmp .ge (29), 3) := by decide +kernel
theorem d_LR_passSector_7 : decode M_LR_passSector.2.1 7 = .ok (.aload_n 0, 1) := by decide +kernel
theorem d_LR_passSector_8 : decode M_LR_passSector.2.1 8 = .ok (.aload_n 0, 1) := by decide +kernel
theorem d_LR_passSector_9 : decode M_LR_passSector.2.1 9 = .ok (.getfield 47, 3) := by decide +kernel
theorem d_LR_passSector_12 : decode M_LR_passSector.2.1 12 = .ok (.aload_n 0, 1) := by decide +kernel
theorem d_LR_passSector_13 : decode M_LR_passSector.2.1 13 = .ok (.aload_n 0, 1) := by decide +kernel
theorem d_LR_passSector_14 : decode M_LR_passSector.2.1 14 = .ok (.getfield 44, 3) := by decide +kernel
theorem d_LR_passSector_17 : decode M_LR_passSector.2.1 17 = .ok (.iload_n 1, 1) := by decide +kernel
theorem d_LR_passSector_18 : decode M_LR_passSector.2.1 18 = .ok (.invokevirtual 54, 3) := by decide +kernel
theorem d_LR_passSector_21 : decode M_LR_passSector.2.1 21 = .ok (.invokestatic 102, 3) := by decide +kernel
theorem d_LR_passSector_24 : decode M_LR_passSector.2.1 24 = .ok (.putfield 47, 3) := by decide +kernel
theorem d_LR_passSector_27 : decode M_LR_passSector.2.1 27 = .ok (.iinc 1 (1), 3) := by decide +kernel
theorem d_LR_passSector_30 : decode M_LR_passSector.2.1 30 = .ok (.goto (-28), 3) := by decide +kernel
theorem d_LR_passSector_33 : decode M_LR_passSector.2.1 33 = .ok (.aload_n 0, 1) := by decide +kernel
theorem d_LR_passSector_34 : decode M_LR_passSector.2.1 34 = .ok (.dup, 1) := by decide +kernel
theorem d_LR_passSector_35 : decode M_LR_passSector.2.1 35 = .ok (.getfield 44, 3) := by decide +kernel
theorem d_LR_passSector_38 : decode M_LR_passSector.2.1 38 = .ok (.iconst (1), 1) := by decide +kernel
theorem d_LR_passSector_39 : decode M_LR_passSector.2.1 39 = .ok (.iadd, 1) := by decide +kernel
theorem d_LR_passSector_40 : decode M_LR_passSector.2.1 40 = .ok (.putfield 44, 3) := by decide +kernel
theorem d_LR_passSector_43 : decode M_LR_passSector.2.1 43 = .ok (.return_, 1) := by decide +kernel
theorem d_LR_size_0 : decode M_LR_size.2.1 0 = .ok (.aload_n 0, 1) := by decide +kernel
theorem d_LR_size_1 : decode M_LR_size.2.1 1 = .ok (.getfield 41, 3) := by decide +kernel
theorem d_LR_size_4 : decode M_LR_size.2.1 4 = .ok (.ireturn, 1) := by decide +kernel
theorem d_LR_numberBehind_0 : decode M_LR_numberBehind.2.1 0 = .ok (.aload_n 0, 1) := by decide +kernel
theorem d_LR_numberBehind_1 : decode M_LR_numberBehind.2.1 1 = .ok (.getfield 35, 3) := by decide +kernel
theorem d_LR_numberBehind_4 : decode M_LR_numberBehind.2.1 4 = .ok (.ireturn, 1) := by decide +kernel
theorem d_LR_placeBehind_0 : decode M_LR_placeBehind.2.1 0 = .ok (.aload_n 0, 1) := by decide +kernel
theorem d_LR_placeBehind_1 : decode M_LR_placeBehind.2.1 1 = .ok (.getfield 31, 3) := by decide +kernel
theorem d_LR_placeBehind_4 : decode M_LR_placeBehind.2.1 4 = .ok (.aload_n 0, 1) := by decide +kernel
theorem d_LR_placeBehind_5 : decode M_LR_placeBehind.2.1 5 = .ok (.getfield 38, 3) := by decide +kernel
theorem d_LR_placeBehind_8 : decode M_LR_placeBehind.2.1 8 = .ok (.iadd, 1) := by decide +kernel
theorem d_LR_placeBehind_9 : decode M_LR_placeBehind.2.1 9 = .ok (.bipush (24), 2) := by decide +kernel
theorem d_LR_placeBehind_11 : decode M_LR_placeBehind.2.1 11 = .ok (.irem, 1) := by decide +kernel
theorem d_LR_placeBehind_12 : decode M_LR_placeBehind.2.1 12 = .ok (.ireturn, 1) := by decide +kernel
theorem d_LR_block_0 : decode M_LR_block.2.1 0 = .ok (.aload_n 0, 1) := by decide +kernel
theorem d_LR_block_1 : decode M_LR_block.2.1 1 = .ok (.getfield 18, 3) := by decide +kernel
theorem d_LR_block_4 : decode M_LR_block.2.1 4 = .ok (.iload_n 1, 1) := by decide +kernel
theorem d_LR_block_5 : decode M_LR_block.2.1 5 = .ok (.iaload, 1) := by decide +kernel
theorem d_LR_block_6 : decode M_LR_block.2.1 6 = .ok (.ireturn, 1) := by decide +kernel
end
section
theorem d_RS_mix_0 : decode M_RS_mix.2.1 0 = .ok (.iload_n 0, 1) := by decide +kernel
theorem d_RS_mix_1 : decode M_RS_mix.2.1 1 = .ok (.iload_n 1, 1) := by decide +kernel
theorem d_RS_mix_2 : decode M_RS_mix.2.1 2 = .ok (.ixor, 1) := by decide +kernel
theorem d_RS_mix_3 : decode M_RS_mix.2.1 3 = .ok (.ldc 191, 2) := by decide +kernel
theorem d_RS_mix_5 : decode M_RS_mix.2.1 5 = .ok (.imul, 1) := by decide +kernel
theorem d_RS_mix_6 : decode M_RS_mix.2.1 6 = .ok (.bipush (7), 2) := by decide +kernel
theorem d_RS_mix_8 : decode M_RS_mix.2.1 8 = .ok (.iadd, 1) := by decide +kernel
theorem d_RS_mix_9 : decode M_RS_mix.2.1 9 = .ok (.istore_n 2, 1) := by decide +kernel
theorem d_RS_mix_10 : decode M_RS_mix.2.1 10 = .ok (.iload_n 2, 1) := by decide +kernel
theorem d_RS_mix_11 : decode M_RS_mix.2.1 11 = .ok (.iload_n 2, 1) := by decide +kernel
theorem d_RS_mix_12 : decode M_RS_mix.2.1 12 = .ok (.bipush (15), 2) := by decide +kernel
theorem d_RS_mix_14 : decode M_RS_mix.2.1 14 = .ok (.iushr, 1) := by decide +kernel
theorem d_RS_mix_15 : decode M_RS_mix.2.1 15 = .ok (.ixor, 1) := by decide +kernel
theorem d_RS_mix_16 : decode M_RS_mix.2.1 16 = .ok (.ireturn, 1) := by decide +kernel
theorem d_RS_logSector_0 : decode M_RS_logSector.2.1 0 = .ok (.bipush (17), 2) := by decide +kernel
theorem d_RS_logSector_2 : decode M_RS_logSector.2.1 2 = .ok (.iload_n 0, 1) := by decide +kernel
theorem d_RS_logSector_3 : decode M_RS_logSector.2.1 3 = .ok (.bipush (24), 2) := by decide +kernel
theorem d_RS_logSector_5 : decode M_RS_logSector.2.1 5 = .ok (.irem, 1) := by decide +kernel
theorem d_RS_logSector_6 : decode M_RS_logSector.2.1 6 = .ok (.iadd, 1) := by decide +kernel
theorem d_RS_logSector_7 : decode M_RS_logSector.2.1 7 = .ok (.ireturn, 1) := by decide +kernel
theorem d_RS_put_0 : decode M_RS_put.2.1 0 = .ok (.aload_n 0, 1) := by decide +kernel
theorem d_RS_put_1 : decode M_RS_put.2.1 1 = .ok (.invokevirtual 51, 3) := by decide +kernel
theorem d_RS_put_4 : decode M_RS_put.2.1 4 = .ok (.ifCond .eq (11), 3) := by decide +kernel
theorem d_RS_put_7 : decode M_RS_put.2.1 7 = .ok (.iload_n 1, 1) := by decide +kernel
theorem d_RS_put_8 : decode M_RS_put.2.1 8 = .ok (.iload_n 2, 1) := by decide +kernel
theorem d_RS_put_9 : decode M_RS_put.2.1 9 = .ok (.invokestatic 55, 3) := by decide +kernel
theorem d_RS_put_12 : decode M_RS_put.2.1 12 = .ok (.ifCond .ne (5), 3) := by decide +kernel
theorem d_RS_put_15 : decode M_RS_put.2.1 15 = .ok (.iconst (0), 1) := by decide +kernel
theorem d_RS_put_16 : decode M_RS_put.2.1 16 = .ok (.ireturn, 1) := by decide +kernel
theorem d_RS_put_17 : decode M_RS_put.2.1 17 = .ok (.aload_n 0, 1) := by decide +kernel
theorem d_RS_put_18 : decode M_RS_put.2.1 18 = .ok (.getfield 19, 3) := by decide +kernel
theorem d_RS_put_21 : decode M_RS_put.2.1 21 = .ok (.iload_n 1, 1) := by decide +kernel
theorem d_RS_put_22 : decode M_RS_put.2.1 22 = .ok (.invokevirtual 59, 3) := by decide +kernel
theorem d_RS_put_25 : decode M_RS_put.2.1 25 = .ok (.ifCond .ne (22), 3) := by decide +kernel
theorem d_RS_put_28 : decode M_RS_put.2.1 28 = .ok (.aload_n 0, 1) := by decide +kernel
theorem d_RS_put_29 : decode M_RS_put.2.1 29 = .ok (.getfield 19, 3) := by decide +kernel
theorem d_RS_put_32 : decode M_RS_put.2.1 32 = .ok (.invokevirtual 63, 3) := by decide +kernel
theorem d_RS_put_35 : decode M_RS_put.2.1 35 = .ok (.bipush (8), 2) := by decide +kernel
theorem d_RS_put_37 : decode M_RS_put.2.1 37 = .ok (.if_icmp .lt (5), 3) := by decide +kernel
theorem d_RS_put_40 : decode M_RS_put.2.1 40 = .ok (.iconst (0), 1) := by decide +kernel
theorem d_RS_put_41 : decode M_RS_put.2.1 41 = .ok (.ireturn, 1) := by decide +kernel
theorem d_RS_put_42 : decode M_RS_put.2.1 42 = .ok (.aload_n 0, 1) := by decide +kernel
theorem d_RS_put_43 : decode M_RS_put.2.1 43 = .ok (.iload_n 1, 1) := by decide +kernel
theorem d_RS_put_44 : decode M_RS_put.2.1 44 = .ok (.invokevirtual 67, 3) := by decide +kernel
theorem d_RS_put_47 : decode M_RS_put.2.1 47 = .ok (.aload_n 0, 1) := by decide +kernel
theorem d_RS_put_48 : decode M_RS_put.2.1 48 = .ok (.getfield 19, 3) := by decide +kernel
theorem d_RS_put_51 : decode M_RS_put.2.1 51 = .ok (.iload_n 1, 1) := by decide +kernel
theorem d_RS_put_52 : decode M_RS_put.2.1 52 = .ok (.iload_n 2, 1) := by decide +kernel
theorem d_RS_put_53 : decode M_RS_put.2.1 53 = .ok (.iload_n 3, 1) := by decide +kernel
theorem d_RS_put_54 : decode M_RS_put.2.1 54 = .ok (.invokevirtual 71, 3) := by decide +kernel
theorem d_RS_put_57 : decode M_RS_put.2.1 57 = .ok (.iconst (1), 1) := by decide +kernel
theorem d_RS_put_58 : decode M_RS_put.2.1 58 = .ok (.ireturn, 1) := by decide +kernel
theorem d_RS_isIdle_0 : decode M_RS_isIdle.2.1 0 = .ok (.aload_n 0, 1) := by decide +kernel
theorem d_RS_isIdle_1 : decode M_RS_isIdle.2.1 1 = .ok (.getfield 127, 3) := by decide +kernel
theorem d_RS_isIdle_4 : decode M_RS_isIdle.2.1 4 = .ok (.ifCond .eq (17), 3) := by decide +kernel
theorem d_RS_isIdle_7 : decode M_RS_isIdle.2.1 7 = .ok (.aload_n 0, 1) := by decide +kernel
theorem d_RS_isIdle_8 : decode M_RS_isIdle.2.1 8 = .ok (.getfield 43, 3) := by decide +kernel
theorem d_RS_isIdle_11 : decode M_RS_isIdle.2.1 11 = .ok (.invokevirtual 131, 3) := by decide +kernel
theorem d_RS_isIdle_14 : decode M_RS_isIdle.2.1 14 = .ok (.ifCond .ne (7), 3) := by decide +kernel
theorem d_RS_isIdle_17 : decode M_RS_isIdle.2.1 17 = .ok (.iconst (1), 1) := by decide +kernel
theorem d_RS_isIdle_18 : decode M_RS_isIdle.2.1 18 = .ok (.goto (4), 3) := by decide +kernel
theorem d_RS_isIdle_21 : decode M_RS_isIdle.2.1 21 = .ok (.iconst (0), 1) := by decide +kernel
theorem d_RS_isIdle_22 : decode M_RS_isIdle.2.1 22 = .ok (.ireturn, 1) := by decide +kernel
theorem d_RS_isBlockWord_0 : decode M_RS_isBlockWord.2.1 0 = .ok (.iload_n 0, 1) := by decide +kernel
theorem d_RS_isBlockWord_1 : decode M_RS_isBlockWord.2.1 1 = .ok (.invokestatic 75, 3) := by decide +kernel
theorem d_RS_isBlockWord_4 : decode M_RS_isBlockWord.2.1 4 = .ok (.ifCond .eq (16), 3) := by decide +kernel
theorem d_RS_isBlockWord_7 : decode M_RS_isBlockWord.2.1 7 = .ok (.iload_n 1, 1) := by decide +kernel
theorem d_RS_isBlockWord_8 : decode M_RS_isBlockWord.2.1 8 = .ok (.ifCond .lt (12), 3) := by decide +kernel
theorem d_RS_isBlockWord_11 : decode M_RS_isBlockWord.2.1 11 = .ok (.iload_n 1, 1) := by decide +kernel
theorem d_RS_isBlockWord_12 : decode M_RS_isBlockWord.2.1 12 = .ok (.iconst (4), 1) := by decide +kernel
theorem d_RS_isBlockWord_13 : decode M_RS_isBlockWord.2.1 13 = .ok (.if_icmp .ge (7), 3) := by decide +kernel
theorem d_RS_isBlockWord_16 : decode M_RS_isBlockWord.2.1 16 = .ok (.iconst (1), 1) := by decide +kernel
theorem d_RS_isBlockWord_17 : decode M_RS_isBlockWord.2.1 17 = .ok (.goto (4), 3) := by decide +kernel
theorem d_RS_isBlockWord_20 : decode M_RS_isBlockWord.2.1 20 = .ok (.iconst (0), 1) := by decide +kernel
theorem d_RS_isBlockWord_21 : decode M_RS_isBlockWord.2.1 21 = .ok (.ireturn, 1) := by decide +kernel
theorem d_RS_isBlock_0 : decode M_RS_isBlock.2.1 0 = .ok (.iload_n 0, 1) := by decide +kernel
theorem d_RS_isBlock_1 : decode M_RS_isBlock.2.1 1 = .ok (.ifCond .lt (13), 3) := by decide +kernel
theorem d_RS_isBlock_4 : decode M_RS_isBlock.2.1 4 = .ok (.iload_n 0, 1) := by decide +kernel
theorem d_RS_isBlock_5 : decode M_RS_isBlock.2.1 5 = .ok (.bipush (16), 2) := by decide +kernel
theorem d_RS_isBlock_7 : decode M_RS_isBlock.2.1 7 = .ok (.if_icmp .ge (7), 3) := by decide +kernel
theorem d_RS_isBlock_10 : decode M_RS_isBlock.2.1 10 = .ok (.iconst (1), 1) := by decide +kernel
theorem d_RS_isBlock_11 : decode M_RS_isBlock.2.1 11 = .ok (.goto (4), 3) := by decide +kernel
theorem d_RS_isBlock_14 : decode M_RS_isBlock.2.1 14 = .ok (.iconst (0), 1) := by decide +kernel
theorem d_RS_isBlock_15 : decode M_RS_isBlock.2.1 15 = .ok (.ireturn, 1) := by decide +kernel
theorem d_RS_revoke_0 : decode M_RS_revoke.2.1 0 = .ok (.aload_n 0, 1) := by decide +kernel
theorem d_RS_revoke_1 : decode M_RS_revoke.2.1 1 = .ok (.invokevirtual 51, 3) := by decide +kernel
theorem d_RS_revoke_4 : decode M_RS_revoke.2.1 4 = .ok (.ifCond .eq (10), 3) := by decide +kernel
theorem d_RS_revoke_7 : decode M_RS_revoke.2.1 7 = .ok (.iload_n 1, 1) := by decide +kernel
theorem d_RS_revoke_8 : decode M_RS_revoke.2.1 8 = .ok (.invokestatic 75, 3) := by decide +kernel
theorem d_RS_revoke_11 : decode M_RS_revoke.2.1 11 = .ok (.ifCond .ne (5), 3) := by decide +kernel
theorem d_RS_revoke_14 : decode M_RS_revoke.2.1 14 = .ok (.iconst (0), 1) := by decide +kernel
theorem d_RS_revoke_15 : decode M_RS_revoke.2.1 15 = .ok (.ireturn, 1) := by decide +kernel
theorem d_RS_revoke_16 : decode M_RS_revoke.2.1 16 = .ok (.aload_n 0, 1) := by decide +kernel
theorem d_RS_revoke_17 : decode M_RS_revoke.2.1 17 = .ok (.getfield 19, 3) := by decide +kernel
theorem d_RS_revoke_20 : decode M_RS_revoke.2.1 20 = .ok (.iload_n 1, 1) := by decide +kernel
theorem d_RS_revoke_21 : decode M_RS_revoke.2.1 21 = .ok (.invokevirtual 78, 3) := by decide +kernel
theorem d_RS_revoke_24 : decode M_RS_revoke.2.1 24 = .ok (.aload_n 0, 1) := by decide +kernel
theorem d_RS_revoke_25 : decode M_RS_revoke.2.1 25 = .ok (.dup, 1) := by decide +kernel
theorem d_RS_revoke_26 : decode M_RS_revoke.2.1 26 = .ok (.getfield 81, 3) := by decide +kernel
theorem d_RS_revoke_29 : decode M_RS_revoke.2.1 29 = .ok (.iconst (1), 1) := by decide +kernel
theorem d_RS_revoke_30 : decode M_RS_revoke.2.1 30 = .ok (.iload_n 1, 1) := by decide +kernel
theorem d_RS_revoke_31 : decode M_RS_revoke.2.1 31 = .ok (.ishl, 1) := by decide +kernel
theorem d_RS_revoke_32 : decode M_RS_revoke.2.1 32 = .ok (.ior, 1) := by decide +kernel
theorem d_RS_revoke_33 : decode M_RS_revoke.2.1 33 = .ok (.putfield 81, 3) := by decide +kernel
theorem d_RS_revoke_36 : decode M_RS_revoke.2.1 36 = .ok (.iconst (1), 1) := by decide +kernel
theorem d_RS_revoke_37 : decode M_RS_revoke.2.1 37 = .ok (.ireturn, 1) := by decide +kernel
theorem d_RS_direct_0 : decode M_RS_direct.2.1 0 = .ok (.aload_n 0, 1) := by decide +kernel
theorem d_RS_direct_1 : decode M_RS_direct.2.1 1 = .ok (.invokevirtual 51, 3) := by decide +kernel
theorem d_RS_direct_4 : decode M_RS_direct.2.1 4 = .ok (.ifCond .eq (45), 3) := by decide +kernel
theorem d_RS_direct_7 : decode M_RS_direct.2.1 7 = .ok (.iload_n 1, 1) := by decide +kernel
theorem d_RS_direct_8 : decode M_RS_direct.2.1 8 = .ok (.iload_n 2, 1) := by decide +kernel
theorem d_RS_direct_9 : decode M_RS_direct.2.1 9 = .ok (.invokestatic 55, 3) := by decide +kernel
theorem d_RS_direct_12 : decode M_RS_direct.2.1 12 = .ok (.ifCond .eq (37), 3) := by decide +kernel
theorem d_RS_direct_15 : decode M_RS_direct.2.1 15 = .ok (.aload_n 0, 1) := by decide +kernel
theorem d_RS_direct_16 : decode M_RS_direct.2.1 16 = .ok (.getfield 19, 3) := by decide +kernel
theorem d_RS_direct_19 : decode M_RS_direct.2.1 19 = .ok (.iload_n 1, 1) := by decide +kernel
theorem d_RS_direct_20 : decode M_RS_direct.2.1 20 = .ok (.invokevirtual 59, 3) := by decide +kernel
theorem d_RS_direct_23 : decode M_RS_direct.2.1 23 = .ok (.ifCond .ne (26), 3) := by decide +kernel
theorem d_RS_direct_26 : decode M_RS_direct.2.1 26 = .ok (.aload_n 0, 1) := by decide +kernel
theorem d_RS_direct_27 : decode M_RS_direct.2.1 27 = .ok (.getfield 23, 3) := by decide +kernel
theorem d_RS_direct_30 : decode M_RS_direct.2.1 30 = .ok (.iload_n 1, 1) := by decide +kernel
theorem d_RS_direct_31 : decode M_RS_direct.2.1 31 = .ok (.invokevirtual 59, 3) := by decide +kernel
theorem d_RS_direct_34 : decode M_RS_direct.2.1 34 = .ok (.ifCond .ne (15), 3) := by decide +kernel
theorem d_RS_direct_37 : decode M_RS_direct.2.1 37 = .ok (.aload_n 0, 1) := by decide +kernel
theorem d_RS_direct_38 : decode M_RS_direct.2.1 38 = .ok (.getfield 12, 3) := by decide +kernel
theorem d_RS_direct_41 : decode M_RS_direct.2.1 41 = .ok (.invokevirtual 85, 3) := by decide +kernel
theorem d_RS_direct_44 : decode M_RS_direct.2.1 44 = .ok (.bipush (12), 2) := by decide +kernel
theorem d_RS_direct_46 : decode M_RS_direct.2.1 46 = .ok (.if_icmp .lt (5), 3) := by decide +kernel
theorem d_RS_direct_49 : decode M_RS_direct.2.1 49 = .ok (.iconst (0), 1) := by decide +kernel
theorem d_RS_direct_50 : decode M_RS_direct.2.1 50 = .ok (.ireturn, 1) := by decide +kernel
theorem d_RS_direct_51 : decode M_RS_direct.2.1 51 = .ok (.aload_n 0, 1) := by decide +kernel
theorem d_RS_direct_52 : decode M_RS_direct.2.1 52 = .ok (.getfield 12, 3) := by decide +kernel
theorem d_RS_direct_55 : decode M_RS_direct.2.1 55 = .ok (.iload_n 1, 1) := by decide +kernel
theorem d_RS_direct_56 : decode M_RS_direct.2.1 56 = .ok (.iload_n 2, 1) := by decide +kernel
theorem d_RS_direct_57 : decode M_RS_direct.2.1 57 = .ok (.iload_n 3, 1) := by decide +kernel
theorem d_RS_direct_58 : decode M_RS_direct.2.1 58 = .ok (.invokevirtual 88, 3) := by decide +kernel
theorem d_RS_direct_61 : decode M_RS_direct.2.1 61 = .ok (.iconst (1), 1) := by decide +kernel
theorem d_RS_direct_62 : decode M_RS_direct.2.1 62 = .ok (.ireturn, 1) := by decide +kernel
theorem d_RS_commit_0 : decode M_RS_commit.2.1 0 = .ok (.aload_n 0, 1) := by decide +kernel
theorem d_RS_commit_1 : decode M_RS_commit.2.1 1 = .ok (.invokevirtual 51, 3) := by decide +kernel
theorem d_RS_commit_4 : decode M_RS_commit.2.1 4 = .ok (.ifCond .eq (20), 3) := by decide +kernel
theorem d_RS_commit_7 : decode M_RS_commit.2.1 7 = .ok (.aload_n 0, 1) := by decide +kernel
theorem d_RS_commit_8 : decode M_RS_commit.2.1 8 = .ok (.getfield 19, 3) := by decide +kernel
theorem d_RS_commit_11 : decode M_RS_commit.2.1 11 = .ok (.invokevirtual 63, 3) := by decide +kernel
theorem d_RS_commit_14 : decode M_RS_commit.2.1 14 = .ok (.ifCond .ne (12), 3) := by decide +kernel
theorem d_RS_commit_17 : decode M_RS_commit.2.1 17 = .ok (.aload_n 0, 1) := by decide +kernel
theorem d_RS_commit_18 : decode M_RS_commit.2.1 18 = .ok (.getfield 81, 3) := by decide +kernel
theorem d_RS_commit_21 : decode M_RS_commit.2.1 21 = .ok (.ifCond .ne (5), 3) := by decide +kernel
theorem d_RS_commit_24 : decode M_RS_commit.2.1 24 = .ok (.iconst (-1), 1) := by decide +kernel
theorem d_RS_commit_25 : decode M_RS_commit.2.1 25 = .ok (.ireturn, 1) := by decide +kernel
theorem d_RS_commit_26 : decode M_RS_commit.2.1 26 = .ok (.aload_n 0, 1) := by decide +kernel
theorem d_RS_commit_27 : decode M_RS_commit.2.1 27 = .ok (.getfield 29, 3) := by decide +kernel
theorem d_RS_commit_30 : decode M_RS_commit.2.1 30 = .ok (.aload_n 0, 1) := by decide +kernel
theorem d_RS_commit_31 : decode M_RS_commit.2.1 31 = .ok (.getfield 19, 3) := by decide +kernel
theorem d_RS_commit_34 : decode M_RS_commit.2.1 34 = .ok (.aload_n 0, 1) := by decide +kernel
theorem d_RS_commit_35 : decode M_RS_commit.2.1 35 = .ok (.getfield 81, 3) := by decide +kernel
theorem d_RS_commit_38 : decode M_RS_commit.2.1 38 = .ok (.aload_n 0, 1) := by decide +kernel
theorem d_RS_commit_39 : decode M_RS_commit.2.1 39 = .ok (.getfield 91, 3) := by decide +kernel
theorem d_RS_commit_42 : decode M_RS_commit.2.1 42 = .ok (.invokevirtual 94, 3) := by decide +kernel
theorem d_RS_commit_45 : decode M_RS_commit.2.1 45 = .ok (.aload_n 0, 1) := by decide +kernel
theorem d_RS_commit_46 : decode M_RS_commit.2.1 46 = .ok (.getfield 98, 3) := by decide +kernel
theorem d_RS_commit_49 : decode M_RS_commit.2.1 49 = .ok (.aload_n 0, 1) := by decide +kernel
theorem d_RS_commit_50 : decode M_RS_commit.2.1 50 = .ok (.getfield 29, 3) := by decide +kernel
theorem d_RS_commit_53 : decode M_RS_commit.2.1 53 = .ok (.invokevirtual 101, 3) := by decide +kernel
theorem d_RS_commit_56 : decode M_RS_commit.2.1 56 = .ok (.iadd, 1) := by decide +kernel
theorem d_RS_commit_57 : decode M_RS_commit.2.1 57 = .ok (.bipush (23), 2) := by decide +kernel
theorem d_RS_commit_59 : decode M_RS_commit.2.1 59 = .ok (.if_icmp .le (6), 3) := by decide +kernel
theorem d_RS_commit_62 : decode M_RS_commit.2.1 62 = .ok (.bipush (-2), 2) := by decide +kernel
theorem d_RS_commit_64 : decode M_RS_commit.2.1 64 = .ok (.ireturn, 1) := by decide +kernel
theorem d_RS_commit_65 : decode M_RS_commit.2.1 65 = .ok (.aload_n 0, 1) := by decide +kernel
theorem d_RS_commit_66 : decode M_RS_commit.2.1 66 = .ok (.getfield 43, 3) := by decide +kernel
theorem d_RS_commit_69 : decode M_RS_commit.2.1 69 = .ok (.iconst (2), 1) := by decide +kernel
theorem d_RS_commit_70 : decode M_RS_commit.2.1 70 = .ok (.invokevirtual 104, 3) := by decide +kernel
theorem d_RS_commit_73 : decode M_RS_commit.2.1 73 = .ok (.aload_n 0, 1) := by decide +kernel
theorem d_RS_commit_74 : decode M_RS_commit.2.1 74 = .ok (.getfield 29, 3) := by decide +kernel
theorem d_RS_commit_77 : decode M_RS_commit.2.1 77 = .ok (.invokevirtual 101, 3) := by decide +kernel
theorem d_RS_commit_80 : decode M_RS_commit.2.1 80 = .ok (.iconst (1), 1) := by decide +kernel
theorem d_RS_commit_81 : decode M_RS_commit.2.1 81 = .ok (.isub, 1) := by decide +kernel
theorem d_RS_commit_82 : decode M_RS_commit.2.1 82 = .ok (.istore_n 1, 1) := by decide +kernel
theorem d_RS_commit_83 : decode M_RS_commit.2.1 83 = .ok (.iconst (0), 1) := by decide +kernel
theorem d_RS_commit_84 : decode M_RS_commit.2.1 84 = .ok (.istore_n 2, 1) := by decide +kernel
theorem d_RS_commit_85 : decode M_RS_commit.2.1 85 = .ok (.iload_n 2, 1) := by decide +kernel
theorem d_RS_commit_86 : decode M_RS_commit.2.1 86 = .ok (.iload_n 1, 1) := by decide +kernel
theorem d_RS_commit_87 : decode M_RS_commit.2.1 87 = .ok (.if_icmp .ge (14), 3) := by decide +kernel
theorem d_RS_commit_90 : decode M_RS_commit.2.1 90 = .ok (.aload_n 0, 1) := by decide +kernel
theorem d_RS_commit_91 : decode M_RS_commit.2.1 91 = .ok (.iload_n 2, 1) := by decide +kernel
theorem d_RS_commit_92 : decode M_RS_commit.2.1 92 = .ok (.invokevirtual 107, 3) := by decide +kernel
theorem d_RS_commit_95 : decode M_RS_commit.2.1 95 = .ok (.iinc 2 (1), 3) := by decide +kernel
theorem d_RS_commit_98 : decode M_RS_commit.2.1 98 = .ok (.goto (-13), 3) := by decide +kernel
theorem d_RS_commit_101 : decode M_RS_commit.2.1 101 = .ok (.aload_n 0, 1) := by decide +kernel
theorem d_RS_commit_102 : decode M_RS_commit.2.1 102 = .ok (.getfield 43, 3) := by decide +kernel
theorem d_RS_commit_105 : decode M_RS_commit.2.1 105 = .ok (.invokevirtual 110, 3) := by decide +kernel
theorem d_RS_commit_108 : decode M_RS_commit.2.1 108 = .ok (.aload_n 0, 1) := by decide +kernel
theorem d_RS_commit_109 : decode M_RS_commit.2.1 109 = .ok (.iload_n 1, 1) := by decide +kernel
theorem d_RS_commit_110 : decode M_RS_commit.2.1 110 = .ok (.invokevirtual 107, 3) := by decide +kernel
theorem d_RS_commit_113 : decode M_RS_commit.2.1 113 = .ok (.aload_n 0, 1) := by decide +kernel
theorem d_RS_commit_114 : decode M_RS_commit.2.1 114 = .ok (.getfield 43, 3) := by decide +kernel
theorem d_RS_commit_117 : decode M_RS_commit.2.1 117 = .ok (.invokevirtual 110, 3) := by decide +kernel
theorem d_RS_commit_120 : decode M_RS_commit.2.1 120 = .ok (.aload_n 0, 1) := by decide +kernel
theorem d_RS_commit_121 : decode M_RS_commit.2.1 121 = .ok (.getfield 29, 3) := by decide +kernel
theorem d_RS_commit_124 : decode M_RS_commit.2.1 124 = .ok (.invokevirtual 101, 3) := by decide +kernel
theorem d_RS_commit_127 : decode M_RS_commit.2.1 127 = .ok (.ireturn, 1) := by decide +kernel
theorem d_RS_checkpoint_0 : decode M_RS_checkpoint.2.1 0 = .ok (.aload_n 0, 1) := by decide +kernel
theorem d_RS_checkpoint_1 : decode M_RS_checkpoint.2.1 1 = .ok (.invokevirtual 51, 3) := by decide +kernel
theorem d_RS_checkpoint_4 : decode M_RS_checkpoint.2.1 4 = .ok (.ifCond .ne (5), 3) := by decide +kernel
theorem d_RS_checkpoint_7 : decode M_RS_checkpoint.2.1 7 = .ok (.iconst (-1), 1) := by decide +kernel
theorem d_RS_checkpoint_8 : decode M_RS_checkpoint.2.1 8 = .ok (.ireturn, 1) := by decide +kernel
theorem d_RS_checkpoint_9 : decode M_RS_checkpoint.2.1 9 = .ok (.aload_n 0, 1) := by decide +kernel
theorem d_RS_checkpoint_10 : decode M_RS_checkpoint.2.1 10 = .ok (.getfield 43, 3) := by decide +kernel
theorem d_RS_checkpoint_13 : decode M_RS_checkpoint.2.1 13 = .ok (.iconst (3), 1) := by decide +kernel
theorem d_RS_checkpoint_14 : decode M_RS_checkpoint.2.1 14 = .ok (.invokevirtual 104, 3) := by decide +kernel
theorem d_RS_checkpoint_17 : decode M_RS_checkpoint.2.1 17 = .ok (.iconst (0), 1) := by decide +kernel
theorem d_RS_checkpoint_18 : decode M_RS_checkpoint.2.1 18 = .ok (.istore_n 1, 1) := by decide +kernel
theorem d_RS_checkpoint_19 : decode M_RS_checkpoint.2.1 19 = .ok (.iload_n 1, 1) := by decide +kernel
theorem d_RS_checkpoint_20 : decode M_RS_checkpoint.2.1 20 = .ok (.bipush (16), 2) := by decide +kernel
theorem d_RS_checkpoint_22 : decode M_RS_checkpoint.2.1 22 = .ok (.if_icmp .ge (64), 3) := by decide +kernel
theorem d_RS_checkpoint_25 : decode M_RS_checkpoint.2.1 25 = .ok (.aload_n 0, 1) := by decide +kernel
theorem d_RS_checkpoint_26 : decode M_RS_checkpoint.2.1 26 = .ok (.getfield 23, 3) := by decide +kernel
theorem d_RS_checkpoint_29 : decode M_RS_checkpoint.2.1 29 = .ok (.iload_n 1, 1) := by decide +kernel
theorem d_RS_checkpoint_30 : decode M_RS_checkpoint.2.1 30 = .ok (.invokevirtual 59, 3) := by decide +kernel
theorem d_RS_checkpoint_33 : decode M_RS_checkpoint.2.1 33 = .ok (.ifCond .eq (47), 3) := by decide +kernel
theorem d_RS_checkpoint_36 : decode M_RS_checkpoint.2.1 36 = .ok (.aload_n 0, 1) := by decide +kernel
theorem d_RS_checkpoint_37 : decode M_RS_checkpoint.2.1 37 = .ok (.getfield 43, 3) := by decide +kernel
theorem d_RS_checkpoint_40 : decode M_RS_checkpoint.2.1 40 = .ok (.iload_n 1, 1) := by decide +kernel
theorem d_RS_checkpoint_41 : decode M_RS_checkpoint.2.1 41 = .ok (.aload_n 0, 1) := by decide +kernel
theorem d_RS_checkpoint_42 : decode M_RS_checkpoint.2.1 42 = .ok (.getfield 23, 3) := by decide +kernel
theorem d_RS_checkpoint_45 : decode M_RS_checkpoint.2.1 45 = .ok (.iload_n 1, 1) := by decide +kernel
theorem d_RS_checkpoint_46 : decode M_RS_checkpoint.2.1 46 = .ok (.iconst (0), 1) := by decide +kernel
theorem d_RS_checkpoint_47 : decode M_RS_checkpoint.2.1 47 = .ok (.invokevirtual 113, 3) := by decide +kernel
theorem d_RS_checkpoint_50 : decode M_RS_checkpoint.2.1 50 = .ok (.aload_n 0, 1) := by decide +kernel
theorem d_RS_checkpoint_51 : decode M_RS_checkpoint.2.1 51 = .ok (.getfield 23, 3) := by decide +kernel
theorem d_RS_checkpoint_54 : decode M_RS_checkpoint.2.1 54 = .ok (.iload_n 1, 1) := by decide +kernel
theorem d_RS_checkpoint_55 : decode M_RS_checkpoint.2.1 55 = .ok (.iconst (1), 1) := by decide +kernel
theorem d_RS_checkpoint_56 : decode M_RS_checkpoint.2.1 56 = .ok (.invokevirtual 113, 3) := by decide +kernel
theorem d_RS_checkpoint_59 : decode M_RS_checkpoint.2.1 59 = .ok (.aload_n 0, 1) := by decide +kernel
theorem d_RS_checkpoint_60 : decode M_RS_checkpoint.2.1 60 = .ok (.getfield 23, 3) := by decide +kernel
theorem d_RS_checkpoint_63 : decode M_RS_checkpoint.2.1 63 = .ok (.iload_n 1, 1) := by decide +kernel
theorem d_RS_checkpoint_64 : decode M_RS_checkpoint.2.1 64 = .ok (.iconst (2), 1) := by decide +kernel
theorem d_RS_checkpoint_65 : decode M_RS_checkpoint.2.1 65 = .ok (.invokevirtual 113, 3) := by decide +kernel
theorem d_RS_checkpoint_68 : decode M_RS_checkpoint.2.1 68 = .ok (.aload_n 0, 1) := by decide +kernel
theorem d_RS_checkpoint_69 : decode M_RS_checkpoint.2.1 69 = .ok (.getfield 23, 3) := by decide +kernel
theorem d_RS_checkpoint_72 : decode M_RS_checkpoint.2.1 72 = .ok (.iload_n 1, 1) := by decide +kernel
theorem d_RS_checkpoint_73 : decode M_RS_checkpoint.2.1 73 = .ok (.iconst (3), 1) := by decide +kernel
theorem d_RS_checkpoint_74 : decode M_RS_checkpoint.2.1 74 = .ok (.invokevirtual 113, 3) := by decide +kernel
theorem d_RS_checkpoint_77 : decode M_RS_checkpoint.2.1 77 = .ok (.invokevirtual 117, 3) := by decide +kernel
theorem d_RS_checkpoint_80 : decode M_RS_checkpoint.2.1 80 = .ok (.iinc 1 (1), 3) := by decide +kernel
theorem d_RS_checkpoint_83 : decode M_RS_checkpoint.2.1 83 = .ok (.goto (-64), 3) := by decide +kernel
theorem d_RS_checkpoint_86 : decode M_RS_checkpoint.2.1 86 = .ok (.aload_n 0, 1) := by decide +kernel
theorem d_RS_checkpoint_87 : decode M_RS_checkpoint.2.1 87 = .ok (.aload_n 0, 1) := by decide +kernel
theorem d_RS_checkpoint_88 : decode M_RS_checkpoint.2.1 88 = .ok (.getfield 91, 3) := by decide +kernel
theorem d_RS_checkpoint_91 : decode M_RS_checkpoint.2.1 91 = .ok (.aload_n 0, 1) := by decide +kernel
theorem d_RS_checkpoint_92 : decode M_RS_checkpoint.2.1 92 = .ok (.getfield 121, 3) := by decide +kernel
theorem d_RS_checkpoint_95 : decode M_RS_checkpoint.2.1 95 = .ok (.invokevirtual 124, 3) := by decide +kernel
theorem d_RS_checkpoint_98 : decode M_RS_checkpoint.2.1 98 = .ok (.aload_n 0, 1) := by decide +kernel
theorem d_RS_checkpoint_99 : decode M_RS_checkpoint.2.1 99 = .ok (.getfield 23, 3) := by decide +kernel
theorem d_RS_checkpoint_102 : decode M_RS_checkpoint.2.1 102 = .ok (.invokevirtual 63, 3) := by decide +kernel
theorem d_RS_checkpoint_105 : decode M_RS_checkpoint.2.1 105 = .ok (.ireturn, 1) := by decide +kernel
theorem d_RS_recover_0 : decode M_RS_recover.2.1 0 = .ok (.aload_n 0, 1) := by decide +kernel
theorem d_RS_recover_1 : decode M_RS_recover.2.1 1 = .ok (.getfield 127, 3) := by decide +kernel
theorem d_RS_recover_4 : decode M_RS_recover.2.1 4 = .ok (.ifCond .ne (13), 3) := by decide +kernel
theorem d_RS_recover_7 : decode M_RS_recover.2.1 7 = .ok (.aload_n 0, 1) := by decide +kernel
theorem d_RS_recover_8 : decode M_RS_recover.2.1 8 = .ok (.getfield 43, 3) := by decide +kernel
theorem d_RS_recover_11 : decode M_RS_recover.2.1 11 = .ok (.invokevirtual 131, 3) := by decide +kernel
theorem d_RS_recover_14 : decode M_RS_recover.2.1 14 = .ok (.ifCond .eq (5), 3) := by decide +kernel
theorem d_RS_recover_17 : decode M_RS_recover.2.1 17 = .ok (.iconst (-1), 1) := by decide +kernel
theorem d_RS_recover_18 : decode M_RS_recover.2.1 18 = .ok (.ireturn, 1) := by decide +kernel
theorem d_RS_recover_19 : decode M_RS_recover.2.1 19 = .ok (.aload_n 0, 1) := by decide +kernel
theorem d_RS_recover_20 : decode M_RS_recover.2.1 20 = .ok (.getfield 36, 3) := by decide +kernel
theorem d_RS_recover_23 : decode M_RS_recover.2.1 23 = .ok (.aload_n 0, 1) := by decide +kernel
theorem d_RS_recover_24 : decode M_RS_recover.2.1 24 = .ok (.getfield 12, 3) := by decide +kernel
theorem d_RS_recover_27 : decode M_RS_recover.2.1 27 = .ok (.invokevirtual 134, 3) := by decide +kernel
theorem d_RS_recover_30 : decode M_RS_recover.2.1 30 = .ok (.aload_n 0, 1) := by decide +kernel
theorem d_RS_recover_31 : decode M_RS_recover.2.1 31 = .ok (.getfield 43, 3) := by decide +kernel
theorem d_RS_recover_34 : decode M_RS_recover.2.1 34 = .ok (.iconst (4), 1) := by decide +kernel
theorem d_RS_recover_35 : decode M_RS_recover.2.1 35 = .ok (.invokevirtual 104, 3) := by decide +kernel
theorem d_RS_recover_38 : decode M_RS_recover.2.1 38 = .ok (.iconst (0), 1) := by decide +kernel
theorem d_RS_recover_39 : decode M_RS_recover.2.1 39 = .ok (.istore_n 1, 1) := by decide +kernel
theorem d_RS_recover_40 : decode M_RS_recover.2.1 40 = .ok (.iconst (0), 1) := by decide +kernel
theorem d_RS_recover_41 : decode M_RS_recover.2.1 41 = .ok (.istore_n 2, 1) := by decide +kernel
theorem d_RS_recover_42 : decode M_RS_recover.2.1 42 = .ok (.iload_n 2, 1) := by decide +kernel
theorem d_RS_recover_43 : decode M_RS_recover.2.1 43 = .ok (.aload_n 0, 1) := by decide +kernel
theorem d_RS_recover_44 : decode M_RS_recover.2.1 44 = .ok (.getfield 36, 3) := by decide +kernel
theorem d_RS_recover_47 : decode M_RS_recover.2.1 47 = .ok (.invokevirtual 138, 3) := by decide +kernel
theorem d_RS_recover_50 : decode M_RS_recover.2.1 50 = .ok (.if_icmp .ge (74), 3) := by decide +kernel
theorem d_RS_recover_53 : decode M_RS_recover.2.1 53 = .ok (.aload_n 0, 1) := by decide +kernel
theorem d_RS_recover_54 : decode M_RS_recover.2.1 54 = .ok (.getfield 36, 3) := by decide +kernel
theorem d_RS_recover_57 : decode M_RS_recover.2.1 57 = .ok (.iload_n 2, 1) := by decide +kernel
theorem d_RS_recover_58 : decode M_RS_recover.2.1 58 = .ok (.invokevirtual 139, 3) := by decide +kernel
theorem d_RS_recover_61 : decode M_RS_recover.2.1 61 = .ok (.ifCond .eq (57), 3) := by decide +kernel
theorem d_RS_recover_64 : decode M_RS_recover.2.1 64 = .ok (.aload_n 0, 1) := by decide +kernel
theorem d_RS_recover_65 : decode M_RS_recover.2.1 65 = .ok (.getfield 43, 3) := by decide +kernel
theorem d_RS_recover_68 : decode M_RS_recover.2.1 68 = .ok (.aload_n 0, 1) := by decide +kernel
theorem d_RS_recover_69 : decode M_RS_recover.2.1 69 = .ok (.getfield 36, 3) := by decide +kernel
theorem d_RS_recover_72 : decode M_RS_recover.2.1 72 = .ok (.iload_n 2, 1) := by decide +kernel
theorem d_RS_recover_73 : decode M_RS_recover.2.1 73 = .ok (.invokevirtual 142, 3) := by decide +kernel
theorem d_RS_recover_76 : decode M_RS_recover.2.1 76 = .ok (.aload_n 0, 1) := by decide +kernel
theorem d_RS_recover_77 : decode M_RS_recover.2.1 77 = .ok (.getfield 36, 3) := by decide +kernel
theorem d_RS_recover_80 : decode M_RS_recover.2.1 80 = .ok (.iload_n 2, 1) := by decide +kernel
theorem d_RS_recover_81 : decode M_RS_recover.2.1 81 = .ok (.iconst (0), 1) := by decide +kernel
theorem d_RS_recover_82 : decode M_RS_recover.2.1 82 = .ok (.invokevirtual 146, 3) := by decide +kernel
theorem d_RS_recover_85 : decode M_RS_recover.2.1 85 = .ok (.aload_n 0, 1) := by decide +kernel
theorem d_RS_recover_86 : decode M_RS_recover.2.1 86 = .ok (.getfield 36, 3) := by decide +kernel
theorem d_RS_recover_89 : decode M_RS_recover.2.1 89 = .ok (.iload_n 2, 1) := by decide +kernel
theorem d_RS_recover_90 : decode M_RS_recover.2.1 90 = .ok (.iconst (1), 1) := by decide +kernel
theorem d_RS_recover_91 : decode M_RS_recover.2.1 91 = .ok (.invokevirtual 146, 3) := by decide +kernel
theorem d_RS_recover_94 : decode M_RS_recover.2.1 94 = .ok (.aload_n 0, 1) := by decide +kernel
theorem d_RS_recover_95 : decode M_RS_recover.2.1 95 = .ok (.getfield 36, 3) := by decide +kernel
theorem d_RS_recover_98 : decode M_RS_recover.2.1 98 = .ok (.iload_n 2, 1) := by decide +kernel
theorem d_RS_recover_99 : decode M_RS_recover.2.1 99 = .ok (.iconst (2), 1) := by decide +kernel
theorem d_RS_recover_100 : decode M_RS_recover.2.1 100 = .ok (.invokevirtual 146, 3) := by decide +kernel
theorem d_RS_recover_103 : decode M_RS_recover.2.1 103 = .ok (.aload_n 0, 1) := by decide +kernel
theorem d_RS_recover_104 : decode M_RS_recover.2.1 104 = .ok (.getfield 36, 3) := by decide +kernel
theorem d_RS_recover_107 : decode M_RS_recover.2.1 107 = .ok (.iload_n 2, 1) := by decide +kernel
theorem d_RS_recover_108 : decode M_RS_recover.2.1 108 = .ok (.iconst (3), 1) := by decide +kernel
theorem d_RS_recover_109 : decode M_RS_recover.2.1 109 = .ok (.invokevirtual 146, 3) := by decide +kernel
theorem d_RS_recover_112 : decode M_RS_recover.2.1 112 = .ok (.invokevirtual 117, 3) := by decide +kernel
theorem d_RS_recover_115 : decode M_RS_recover.2.1 115 = .ok (.iinc 1 (1), 3) := by decide +kernel
theorem d_RS_recover_118 : decode M_RS_recover.2.1 118 = .ok (.iinc 2 (1), 3) := by decide +kernel
theorem d_RS_recover_121 : decode M_RS_recover.2.1 121 = .ok (.goto (-79), 3) := by decide +kernel
theorem d_RS_recover_124 : decode M_RS_recover.2.1 124 = .ok (.aload_n 0, 1) := by decide +kernel
theorem d_RS_recover_125 : decode M_RS_recover.2.1 125 = .ok (.aload_n 0, 1) := by decide +kernel
theorem d_RS_recover_126 : decode M_RS_recover.2.1 126 = .ok (.getfield 36, 3) := by decide +kernel
theorem d_RS_recover_129 : decode M_RS_recover.2.1 129 = .ok (.invokevirtual 147, 3) := by decide +kernel
theorem d_RS_recover_132 : decode M_RS_recover.2.1 132 = .ok (.aload_n 0, 1) := by decide +kernel
theorem d_RS_recover_133 : decode M_RS_recover.2.1 133 = .ok (.getfield 36, 3) := by decide +kernel
theorem d_RS_recover_136 : decode M_RS_recover.2.1 136 = .ok (.invokevirtual 150, 3) := by decide +kernel
theorem d_RS_recover_139 : decode M_RS_recover.2.1 139 = .ok (.invokevirtual 124, 3) := by decide +kernel
theorem d_RS_recover_142 : decode M_RS_recover.2.1 142 = .ok (.iload_n 1, 1) := by decide +kernel
theorem d_RS_recover_143 : decode M_RS_recover.2.1 143 = .ok (.ireturn, 1) := by decide +kernel
theorem d_RS_step_0 : decode M_RS_step.2.1 0 = .ok (.aload_n 0, 1) := by decide +kernel
theorem d_RS_step_1 : decode M_RS_step.2.1 1 = .ok (.getfield 43, 3) := by decide +kernel
theorem d_RS_step_4 : decode M_RS_step.2.1 4 = .ok (.invokevirtual 131, 3) := by decide +kernel
theorem d_RS_step_7 : decode M_RS_step.2.1 7 = .ok (.ifCond .eq (14), 3) := by decide +kernel
theorem d_RS_step_10 : decode M_RS_step.2.1 10 = .ok (.iload_n 1, 1) := by decide +kernel
theorem d_RS_step_11 : decode M_RS_step.2.1 11 = .ok (.iconst (1), 1) := by decide +kernel
theorem d_RS_step_12 : decode M_RS_step.2.1 12 = .ok (.if_icmp .lt (9), 3) := by decide +kernel
theorem d_RS_step_15 : decode M_RS_step.2.1 15 = .ok (.iload_n 1, 1) := by decide +kernel
theorem d_RS_step_16 : decode M_RS_step.2.1 16 = .ok (.bipush (10), 2) := by decide +kernel
theorem d_RS_step_18 : decode M_RS_step.2.1 18 = .ok (.if_icmp .le (5), 3) := by decide +kernel
theorem d_RS_step_21 : decode M_RS_step.2.1 21 = .ok (.iconst (-1), 1) := by decide +kernel
theorem d_RS_step_22 : decode M_RS_step.2.1 22 = .ok (.ireturn, 1) := by decide +kernel
theorem d_RS_step_23 : decode M_RS_step.2.1 23 = .ok (.iload_n 1, 1) := by decide +kernel
theorem d_RS_step_24 : decode M_RS_step.2.1 24 = .ok (.aload_n 0, 1) := by decide +kernel
theorem d_RS_step_25 : decode M_RS_step.2.1 25 = .ok (.getfield 43, 3) := by decide +kernel
theorem d_RS_step_28 : decode M_RS_step.2.1 28 = .ok (.invokevirtual 153, 3) := by decide +kernel
theorem d_RS_step_31 : decode M_RS_step.2.1 31 = .ok (.invokestatic 156, 3) := by decide +kernel
theorem d_RS_step_34 : decode M_RS_step.2.1 34 = .ok (.istore_n 2, 1) := by decide +kernel
theorem d_RS_step_35 : decode M_RS_step.2.1 35 = .ok (.iconst (0), 1) := by decide +kernel
theorem d_RS_step_36 : decode M_RS_step.2.1 36 = .ok (.istore_n 3, 1) := by decide +kernel
theorem d_RS_step_37 : decode M_RS_step.2.1 37 = .ok (.iload_n 3, 1) := by decide +kernel
theorem d_RS_step_38 : decode M_RS_step.2.1 38 = .ok (.iload_n 2, 1) := by decide +kernel
theorem d_RS_step_39 : decode M_RS_step.2.1 39 = .ok (.if_icmp .ge (20), 3) := by decide +kernel
theorem d_RS_step_42 : decode M_RS_step.2.1 42 = .ok (.aload_n 0, 1) := by decide +kernel
theorem d_RS_step_43 : decode M_RS_step.2.1 43 = .ok (.getfield 43, 3) := by decide +kernel
theorem d_RS_step_46 : decode M_RS_step.2.1 46 = .ok (.aload_n 0, 1) := by decide +kernel
theorem d_RS_step_47 : decode M_RS_step.2.1 47 = .ok (.getfield 12, 3) := by decide +kernel
theorem d_RS_step_50 : decode M_RS_step.2.1 50 = .ok (.invokevirtual 161, 3) := by decide +kernel
theorem d_RS_step_53 : decode M_RS_step.2.1 53 = .ok (.iinc 3 (1), 3) := by decide +kernel
theorem d_RS_step_56 : decode M_RS_step.2.1 56 = .ok (.goto (-19), 3) := by decide +kernel
theorem d_RS_step_59 : decode M_RS_step.2.1 59 = .ok (.aload_n 0, 1) := by decide +kernel
theorem d_RS_step_60 : decode M_RS_step.2.1 60 = .ok (.getfield 43, 3) := by decide +kernel
theorem d_RS_step_63 : decode M_RS_step.2.1 63 = .ok (.invokevirtual 153, 3) := by decide +kernel
theorem d_RS_step_66 : decode M_RS_step.2.1 66 = .ok (.ifCond .ne (7), 3) := by decide +kernel
theorem d_RS_step_69 : decode M_RS_step.2.1 69 = .ok (.aload_n 0, 1) := by decide +kernel
theorem d_RS_step_70 : decode M_RS_step.2.1 70 = .ok (.invokevirtual 164, 3) := by decide +kernel
theorem d_RS_step_73 : decode M_RS_step.2.1 73 = .ok (.iload_n 2, 1) := by decide +kernel
theorem d_RS_step_74 : decode M_RS_step.2.1 74 = .ok (.ireturn, 1) := by decide +kernel
theorem d_RS_crash_0 : decode M_RS_crash.2.1 0 = .ok (.aload_n 0, 1) := by decide +kernel
theorem d_RS_crash_1 : decode M_RS_crash.2.1 1 = .ok (.iconst (0), 1) := by decide +kernel
theorem d_RS_crash_2 : decode M_RS_crash.2.1 2 = .ok (.putfield 127, 3) := by decide +kernel
theorem d_RS_crash_5 : decode M_RS_crash.2.1 5 = .ok (.aload_n 0, 1) := by decide +kernel
theorem d_RS_crash_6 : decode M_RS_crash.2.1 6 = .ok (.getfield 43, 3) := by decide +kernel
theorem d_RS_crash_9 : decode M_RS_crash.2.1 9 = .ok (.invokevirtual 167, 3) := by decide +kernel
theorem d_RS_crash_12 : decode M_RS_crash.2.1 12 = .ok (.aload_n 0, 1) := by decide +kernel
theorem d_RS_crash_13 : decode M_RS_crash.2.1 13 = .ok (.getfield 12, 3) := by decide +kernel
theorem d_RS_crash_16 : decode M_RS_crash.2.1 16 = .ok (.iload_n 1, 1) := by decide +kernel
theorem d_RS_crash_17 : decode M_RS_crash.2.1 17 = .ok (.iload_n 2, 1) := by decide +kernel
theorem d_RS_crash_18 : decode M_RS_crash.2.1 18 = .ok (.invokevirtual 170, 3) := by decide +kernel
theorem d_RS_crash_21 : decode M_RS_crash.2.1 21 = .ok (.ireturn, 1) := by decide +kernel
theorem d_RS_get_0 : decode M_RS_get.2.1 0 = .ok (.aload_n 0, 1) := by decide +kernel
theorem d_RS_get_1 : decode M_RS_get.2.1 1 = .ok (.getfield 127, 3) := by decide +kernel
theorem d_RS_get_4 : decode M_RS_get.2.1 4 = .ok (.ifCond .eq (20), 3) := by decide +kernel
theorem d_RS_get_7 : decode M_RS_get.2.1 7 = .ok (.iload_n 1, 1) := by decide +kernel
theorem d_RS_get_8 : decode M_RS_get.2.1 8 = .ok (.iload_n 2, 1) := by decide +kernel
theorem d_RS_get_9 : decode M_RS_get.2.1 9 = .ok (.invokestatic 55, 3) := by decide +kernel
theorem d_RS_get_12 : decode M_RS_get.2.1 12 = .ok (.ifCond .eq (12), 3) := by decide +kernel
theorem d_RS_get_15 : decode M_RS_get.2.1 15 = .ok (.aload_n 0, 1) := by decide +kernel
theorem d_RS_get_16 : decode M_RS_get.2.1 16 = .ok (.iload_n 1, 1) := by decide +kernel
theorem d_RS_get_17 : decode M_RS_get.2.1 17 = .ok (.iload_n 2, 1) := by decide +kernel
theorem d_RS_get_18 : decode M_RS_get.2.1 18 = .ok (.invokevirtual 173, 3) := by decide +kernel
theorem d_RS_get_21 : decode M_RS_get.2.1 21 = .ok (.goto (4), 3) := by decide +kernel
theorem d_RS_get_24 : decode M_RS_get.2.1 24 = .ok (.iconst (0), 1) := by decide +kernel
theorem d_RS_get_25 : decode M_RS_get.2.1 25 = .ok (.ireturn, 1) := by decide +kernel
theorem d_RS_read_0 : decode M_RS_read.2.1 0 = .ok (.iload_n 1, 1) := by decide +kernel
theorem d_RS_read_1 : decode M_RS_read.2.1 1 = .ok (.iload_n 2, 1) := by decide +kernel
theorem d_RS_read_2 : decode M_RS_read.2.1 2 = .ok (.invokestatic 176, 3) := by decide +kernel
theorem d_RS_read_5 : decode M_RS_read.2.1 5 = .ok (.ifCond .eq (15), 3) := by decide +kernel
theorem d_RS_read_8 : decode M_RS_read.2.1 8 = .ok (.aload_n 0, 1) := by decide +kernel
theorem d_RS_read_9 : decode M_RS_read.2.1 9 = .ok (.getfield 12, 3) := by decide +kernel
theorem d_RS_read_12 : decode M_RS_read.2.1 12 = .ok (.iload_n 1, 1) := by decide +kernel
theorem d_RS_read_13 : decode M_RS_read.2.1 13 = .ok (.iload_n 2, 1) := by decide +kernel
theorem d_RS_read_14 : decode M_RS_read.2.1 14 = .ok (.invokevirtual 179, 3) := by decide +kernel
theorem d_RS_read_17 : decode M_RS_read.2.1 17 = .ok (.goto (4), 3) := by decide +kernel
theorem d_RS_read_20 : decode M_RS_read.2.1 20 = .ok (.iconst (0), 1) := by decide +kernel
theorem d_RS_read_21 : decode M_RS_read.2.1 21 = .ok (.ireturn, 1) := by decide +kernel
theorem d_RS_isSectorWord_0 : decode M_RS_isSectorWord.2.1 0 = .ok (.iload_n 0, 1) := by decide +kernel
theorem d_RS_isSectorWord_1 : decode M_RS_isSectorWord.2.1 1 = .ok (.ifCond .lt (22), 3) := by decide +kernel
theorem d_RS_isSectorWord_4 : decode M_RS_isSectorWord.2.1 4 = .ok (.iload_n 0, 1) := by decide +kernel
theorem d_RS_isSectorWord_5 : decode M_RS_isSectorWord.2.1 5 = .ok (.bipush (41), 2) := by decide +kernel
theorem d_RS_isSectorWord_7 : decode M_RS_isSectorWord.2.1 7 = .ok (.if_icmp .ge (16), 3) := by decide +kernel
theorem d_RS_isSectorWord_10 : decode M_RS_isSectorWord.2.1 10 = .ok (.iload_n 1, 1) := by decide +kernel
theorem d_RS_isSectorWord_11 : decode M_RS_isSectorWord.2.1 11 = .ok (.ifCond .lt (12), 3) := by decide +kernel
theorem d_RS_isSectorWord_14 : decode M_RS_isSectorWord.2.1 14 = .ok (.iload_n 1, 1) := by decide +kernel
theorem d_RS_isSectorWord_15 : decode M_RS_isSectorWord.2.1 15 = .ok (.iconst (4), 1) := by decide +kernel
theorem d_RS_isSectorWord_16 : decode M_RS_isSectorWord.2.1 16 = .ok (.if_icmp .ge (7), 3) := by decide +kernel
theorem d_RS_isSectorWord_19 : decode M_RS_isSectorWord.2.1 19 = .ok (.iconst (1), 1) := by decide +kernel
theorem d_RS_isSectorWord_20 : decode M_RS_isSectorWord.2.1 20 = .ok (.goto (4), 3) := by decide +kernel
theorem d_RS_isSectorWord_23 : decode M_RS_isSectorWord.2.1 23 = .ok (.iconst (0), 1) := by decide +kernel
theorem d_RS_isSectorWord_24 : decode M_RS_isSectorWord.2.1 24 = .ok (.ireturn, 1) := by decide +kernel
theorem d_RS_stored_0 : decode M_RS_stored.2.1 0 = .ok (.iload_n 1, 1) := by decide +kernel
theorem d_RS_stored_1 : decode M_RS_stored.2.1 1 = .ok (.iload_n 2, 1) := by decide +kernel
theorem d_RS_stored_2 : decode M_RS_stored.2.1 2 = .ok (.invokestatic 176, 3) := by decide +kernel
theorem d_RS_stored_5 : decode M_RS_stored.2.1 5 = .ok (.ifCond .eq (15), 3) := by decide +kernel
theorem d_RS_stored_8 : decode M_RS_stored.2.1 8 = .ok (.aload_n 0, 1) := by decide +kernel
theorem d_RS_stored_9 : decode M_RS_stored.2.1 9 = .ok (.getfield 12, 3) := by decide +kernel
theorem d_RS_stored_12 : decode M_RS_stored.2.1 12 = .ok (.iload_n 1, 1) := by decide +kernel
theorem d_RS_stored_13 : decode M_RS_stored.2.1 13 = .ok (.iload_n 2, 1) := by decide +kernel
theorem d_RS_stored_14 : decode M_RS_stored.2.1 14 = .ok (.invokevirtual 182, 3) := by decide +kernel
theorem d_RS_stored_17 : decode M_RS_stored.2.1 17 = .ok (.goto (4), 3) := by decide +kernel
theorem d_RS_stored_20 : decode M_RS_stored.2.1 20 = .ok (.iconst (0), 1) := by decide +kernel
theorem d_RS_stored_21 : decode M_RS_stored.2.1 21 = .ok (.ireturn, 1) := by decide +kernel
theorem d_RS_cached_0 : decode M_RS_cached.2.1 0 = .ok (.aload_n 0, 1) := by decide +kernel
theorem d_RS_cached_1 : decode M_RS_cached.2.1 1 = .ok (.getfield 12, 3) := by decide +kernel
theorem d_RS_cached_4 : decode M_RS_cached.2.1 4 = .ok (.invokevirtual 85, 3) := by decide +kernel
theorem d_RS_cached_7 : decode M_RS_cached.2.1 7 = .ok (.ireturn, 1) := by decide +kernel
theorem d_RS_state_0 : decode M_RS_state.2.1 0 = .ok (.aload_n 0, 1) := by decide +kernel
theorem d_RS_state_1 : decode M_RS_state.2.1 1 = .ok (.getfield 43, 3) := by decide +kernel
theorem d_RS_state_4 : decode M_RS_state.2.1 4 = .ok (.invokevirtual 131, 3) := by decide +kernel
theorem d_RS_state_7 : decode M_RS_state.2.1 7 = .ok (.ifCond .eq (11), 3) := by decide +kernel
theorem d_RS_state_10 : decode M_RS_state.2.1 10 = .ok (.aload_n 0, 1) := by decide +kernel
theorem d_RS_state_11 : decode M_RS_state.2.1 11 = .ok (.getfield 43, 3) := by decide +kernel
theorem d_RS_state_14 : decode M_RS_state.2.1 14 = .ok (.invokevirtual 185, 3) := by decide +kernel
theorem d_RS_state_17 : decode M_RS_state.2.1 17 = .ok (.ireturn, 1) := by decide +kernel
theorem d_RS_state_18 : decode M_RS_state.2.1 18 = .ok (.aload_n 0, 1) := by decide +kernel
theorem d_RS_state_19 : decode M_RS_state.2.1 19 = .ok (.getfield 127, 3) := by decide +kernel
theorem d_RS_state_22 : decode M_RS_state.2.1 22 = .ok (.ifCond .eq (7), 3) := by decide +kernel
theorem d_RS_state_25 : decode M_RS_state.2.1 25 = .ok (.iconst (1), 1) := by decide +kernel
theorem d_RS_state_26 : decode M_RS_state.2.1 26 = .ok (.goto (4), 3) := by decide +kernel
theorem d_RS_state_29 : decode M_RS_state.2.1 29 = .ok (.iconst (0), 1) := by decide +kernel
theorem d_RS_state_30 : decode M_RS_state.2.1 30 = .ok (.ireturn, 1) := by decide +kernel
theorem d_RS_number_0 : decode M_RS_number.2.1 0 = .ok (.aload_n 0, 1) := by decide +kernel
theorem d_RS_number_1 : decode M_RS_number.2.1 1 = .ok (.getfield 127, 3) := by decide +kernel
theorem d_RS_number_4 : decode M_RS_number.2.1 4 = .ok (.ifCond .eq (10), 3) := by decide +kernel
theorem d_RS_number_7 : decode M_RS_number.2.1 7 = .ok (.aload_n 0, 1) := by decide +kernel
theorem d_RS_number_8 : decode M_RS_number.2.1 8 = .ok (.getfield 91, 3) := by decide +kernel
theorem d_RS_number_11 : decode M_RS_number.2.1 11 = .ok (.goto (4), 3) := by decide +kernel
theorem d_RS_number_14 : decode M_RS_number.2.1 14 = .ok (.iconst (-1), 1) := by decide +kernel
theorem d_RS_number_15 : decode M_RS_number.2.1 15 = .ok (.ireturn, 1) := by decide +kernel
theorem d_RS_used_0 : decode M_RS_used.2.1 0 = .ok (.aload_n 0, 1) := by decide +kernel
theorem d_RS_used_1 : decode M_RS_used.2.1 1 = .ok (.getfield 127, 3) := by decide +kernel
theorem d_RS_used_4 : decode M_RS_used.2.1 4 = .ok (.ifCond .eq (10), 3) := by decide +kernel
theorem d_RS_used_7 : decode M_RS_used.2.1 7 = .ok (.aload_n 0, 1) := by decide +kernel
theorem d_RS_used_8 : decode M_RS_used.2.1 8 = .ok (.getfield 98, 3) := by decide +kernel
theorem d_RS_used_11 : decode M_RS_used.2.1 11 = .ok (.goto (4), 3) := by decide +kernel
theorem d_RS_used_14 : decode M_RS_used.2.1 14 = .ok (.iconst (-1), 1) := by decide +kernel
theorem d_RS_used_15 : decode M_RS_used.2.1 15 = .ok (.ireturn, 1) := by decide +kernel
theorem d_RS_changed_0 : decode M_RS_changed.2.1 0 = .ok (.aload_n 0, 1) := by decide +kernel
theorem d_RS_changed_1 : decode M_RS_changed.2.1 1 = .ok (.getfield 127, 3) := by decide +kernel
theorem d_RS_changed_4 : decode M_RS_changed.2.1 4 = .ok (.ifCond .eq (10), 3) := by decide +kernel
theorem d_RS_changed_7 : decode M_RS_changed.2.1 7 = .ok (.iload_n 1, 1) := by decide +kernel
theorem d_RS_changed_8 : decode M_RS_changed.2.1 8 = .ok (.invokestatic 75, 3) := by decide +kernel
theorem d_RS_changed_11 : decode M_RS_changed.2.1 11 = .ok (.ifCond .ne (5), 3) := by decide +kernel
theorem d_RS_changed_14 : decode M_RS_changed.2.1 14 = .ok (.iconst (-1), 1) := by decide +kernel
theorem d_RS_changed_15 : decode M_RS_changed.2.1 15 = .ok (.ireturn, 1) := by decide +kernel
theorem d_RS_changed_16 : decode M_RS_changed.2.1 16 = .ok (.aload_n 0, 1) := by decide +kernel
theorem d_RS_changed_17 : decode M_RS_changed.2.1 17 = .ok (.getfield 19, 3) := by decide +kernel
theorem d_RS_changed_20 : decode M_RS_changed.2.1 20 = .ok (.iload_n 1, 1) := by decide +kernel
theorem d_RS_changed_21 : decode M_RS_changed.2.1 21 = .ok (.invokevirtual 59, 3) := by decide +kernel
theorem d_RS_changed_24 : decode M_RS_changed.2.1 24 = .ok (.ifCond .eq (7), 3) := by decide +kernel
theorem d_RS_changed_27 : decode M_RS_changed.2.1 27 = .ok (.iconst (1), 1) := by decide +kernel
theorem d_RS_changed_28 : decode M_RS_changed.2.1 28 = .ok (.goto (16), 3) := by decide +kernel
theorem d_RS_changed_31 : decode M_RS_changed.2.1 31 = .ok (.aload_n 0, 1) := by decide +kernel
theorem d_RS_changed_32 : decode M_RS_changed.2.1 32 = .ok (.iload_n 1, 1) := by decide +kernel
theorem d_RS_changed_33 : decode M_RS_changed.2.1 33 = .ok (.invokevirtual 188, 3) := by decide +kernel
theorem d_RS_changed_36 : decode M_RS_changed.2.1 36 = .ok (.ifCond .eq (7), 3) := by decide +kernel
theorem d_RS_changed_39 : decode M_RS_changed.2.1 39 = .ok (.iconst (2), 1) := by decide +kernel
theorem d_RS_changed_40 : decode M_RS_changed.2.1 40 = .ok (.goto (4), 3) := by decide +kernel
theorem d_RS_changed_43 : decode M_RS_changed.2.1 43 = .ok (.iconst (0), 1) := by decide +kernel
theorem d_RS_changed_44 : decode M_RS_changed.2.1 44 = .ok (.istore_n 2, 1) := by decide +kernel
theorem d_RS_changed_45 : decode M_RS_changed.2.1 45 = .ok (.iload_n 2, 1) := by decide +kernel
theorem d_RS_changed_46 : decode M_RS_changed.2.1 46 = .ok (.aload_n 0, 1) := by decide +kernel
theorem d_RS_changed_47 : decode M_RS_changed.2.1 47 = .ok (.getfield 23, 3) := by decide +kernel
theorem d_RS_changed_50 : decode M_RS_changed.2.1 50 = .ok (.iload_n 1, 1) := by decide +kernel
theorem d_RS_changed_51 : decode M_RS_changed.2.1 51 = .ok (.invokevirtual 59, 3) := by decide +kernel
theorem d_RS_changed_54 : decode M_RS_changed.2.1 54 = .ok (.ifCond .eq (7), 3) := by decide +kernel
theorem d_RS_changed_57 : decode M_RS_changed.2.1 57 = .ok (.iconst (4), 1) := by decide +kernel
theorem d_RS_changed_58 : decode M_RS_changed.2.1 58 = .ok (.goto (4), 3) := by decide +kernel
theorem d_RS_changed_61 : decode M_RS_changed.2.1 61 = .ok (.iconst (0), 1) := by decide +kernel
theorem d_RS_changed_62 : decode M_RS_changed.2.1 62 = .ok (.iadd, 1) := by decide +kernel
theorem d_RS_changed_63 : decode M_RS_changed.2.1 63 = .ok (.ireturn, 1) := by decide +kernel
theorem d_RS_isRevoked_0 : decode M_RS_isRevoked.2.1 0 = .ok (.aload_n 0, 1) := by decide +kernel
theorem d_RS_isRevoked_1 : decode M_RS_isRevoked.2.1 1 = .ok (.getfield 81, 3) := by decide +kernel
theorem d_RS_isRevoked_4 : decode M_RS_isRevoked.2.1 4 = .ok (.iload_n 1, 1) := by decide +kernel
theorem d_RS_isRevoked_5 : decode M_RS_isRevoked.2.1 5 = .ok (.iushr, 1) := by decide +kernel
theorem d_RS_isRevoked_6 : decode M_RS_isRevoked.2.1 6 = .ok (.iconst (1), 1) := by decide +kernel
theorem d_RS_isRevoked_7 : decode M_RS_isRevoked.2.1 7 = .ok (.iand, 1) := by decide +kernel
theorem d_RS_isRevoked_8 : decode M_RS_isRevoked.2.1 8 = .ok (.iconst (1), 1) := by decide +kernel
theorem d_RS_isRevoked_9 : decode M_RS_isRevoked.2.1 9 = .ok (.if_icmp .ne (7), 3) := by decide +kernel
theorem d_RS_isRevoked_12 : decode M_RS_isRevoked.2.1 12 = .ok (.iconst (1), 1) := by decide +kernel
theorem d_RS_isRevoked_13 : decode M_RS_isRevoked.2.1 13 = .ok (.goto (4), 3) := by decide +kernel
theorem d_RS_isRevoked_16 : decode M_RS_isRevoked.2.1 16 = .ok (.iconst (0), 1) := by decide +kernel
theorem d_RS_isRevoked_17 : decode M_RS_isRevoked.2.1 17 = .ok (.ireturn, 1) := by decide +kernel
theorem d_RS_left_0 : decode M_RS_left.2.1 0 = .ok (.aload_n 0, 1) := by decide +kernel
theorem d_RS_left_1 : decode M_RS_left.2.1 1 = .ok (.getfield 43, 3) := by decide +kernel
theorem d_RS_left_4 : decode M_RS_left.2.1 4 = .ok (.invokevirtual 153, 3) := by decide +kernel
theorem d_RS_left_7 : decode M_RS_left.2.1 7 = .ok (.ireturn, 1) := by decide +kernel
theorem d_RS_volumeWord_0 : decode M_RS_volumeWord.2.1 0 = .ok (.aload_n 0, 1) := by decide +kernel
theorem d_RS_volumeWord_1 : decode M_RS_volumeWord.2.1 1 = .ok (.getfield 19, 3) := by decide +kernel
theorem d_RS_volumeWord_4 : decode M_RS_volumeWord.2.1 4 = .ok (.iload_n 1, 1) := by decide +kernel
theorem d_RS_volumeWord_5 : decode M_RS_volumeWord.2.1 5 = .ok (.invokevirtual 59, 3) := by decide +kernel
theorem d_RS_volumeWord_8 : decode M_RS_volumeWord.2.1 8 = .ok (.ifCond .eq (13), 3) := by decide +kernel
theorem d_RS_volumeWord_11 : decode M_RS_volumeWord.2.1 11 = .ok (.aload_n 0, 1) := by decide +kernel
theorem d_RS_volumeWord_12 : decode M_RS_volumeWord.2.1 12 = .ok (.getfield 19, 3) := by decide +kernel
theorem d_RS_volumeWord_15 : decode M_RS_volumeWord.2.1 15 = .ok (.iload_n 1, 1) := by decide +kernel
theorem d_RS_volumeWord_16 : decode M_RS_volumeWord.2.1 16 = .ok (.iload_n 2, 1) := by decide +kernel
theorem d_RS_volumeWord_17 : decode M_RS_volumeWord.2.1 17 = .ok (.invokevirtual 113, 3) := by decide +kernel
theorem d_RS_volumeWord_20 : decode M_RS_volumeWord.2.1 20 = .ok (.ireturn, 1) := by decide +kernel
theorem d_RS_volumeWord_21 : decode M_RS_volumeWord.2.1 21 = .ok (.aload_n 0, 1) := by decide +kernel
theorem d_RS_volumeWord_22 : decode M_RS_volumeWord.2.1 22 = .ok (.getfield 23, 3) := by decide +kernel
theorem d_RS_volumeWord_25 : decode M_RS_volumeWord.2.1 25 = .ok (.iload_n 1, 1) := by decide +kernel
theorem d_RS_volumeWord_26 : decode M_RS_volumeWord.2.1 26 = .ok (.invokevirtual 59, 3) := by decide +kernel
theorem d_RS_volumeWord_29 : decode M_RS_volumeWord.2.1 29 = .ok (.ifCond .eq (15), 3) := by decide +kernel
theorem d_RS_volumeWord_32 : decode M_RS_volumeWord.2.1 32 = .ok (.aload_n 0, 1) := by decide +kernel
theorem d_RS_volumeWord_33 : decode M_RS_volumeWord.2.1 33 = .ok (.getfield 23, 3) := by decide +kernel
theorem d_RS_volumeWord_36 : decode M_RS_volumeWord.2.1 36 = .ok (.iload_n 1, 1) := by decide +kernel
theorem d_RS_volumeWord_37 : decode M_RS_volumeWord.2.1 37 = .ok (.iload_n 2, 1) := by decide +kernel
theorem d_RS_volumeWord_38 : decode M_RS_volumeWord.2.1 38 = .ok (.invokevirtual 113, 3) := by decide +kernel
theorem d_RS_volumeWord_41 : decode M_RS_volumeWord.2.1 41 = .ok (.goto (12), 3) := by decide +kernel
theorem d_RS_volumeWord_44 : decode M_RS_volumeWord.2.1 44 = .ok (.aload_n 0, 1) := by decide +kernel
theorem d_RS_volumeWord_45 : decode M_RS_volumeWord.2.1 45 = .ok (.getfield 12, 3) := by decide +kernel
theorem d_RS_volumeWord_48 : decode M_RS_volumeWord.2.1 48 = .ok (.iload_n 1, 1) := by decide +kernel
theorem d_RS_volumeWord_49 : decode M_RS_volumeWord.2.1 49 = .ok (.iload_n 2, 1) := by decide +kernel
theorem d_RS_volumeWord_50 : decode M_RS_volumeWord.2.1 50 = .ok (.invokevirtual 179, 3) := by decide +kernel
theorem d_RS_volumeWord_53 : decode M_RS_volumeWord.2.1 53 = .ok (.ireturn, 1) := by decide +kernel
theorem d_RS_beginImage_0 : decode M_RS_beginImage.2.1 0 = .ok (.iconst (0), 1) := by decide +kernel
theorem d_RS_beginImage_1 : decode M_RS_beginImage.2.1 1 = .ok (.istore_n 2, 1) := by decide +kernel
theorem d_RS_beginImage_2 : decode M_RS_beginImage.2.1 2 = .ok (.iload_n 2, 1) := by decide +kernel
theorem d_RS_beginImage_3 : decode M_RS_beginImage.2.1 3 = .ok (.iconst (4), 1) := by decide +kernel
theorem d_RS_beginImage_4 : decode M_RS_beginImage.2.1 4 = .ok (.if_icmp .ge (24), 3) := by decide +kernel
theorem d_RS_beginImage_7 : decode M_RS_beginImage.2.1 7 = .ok (.aload_n 0, 1) := by decide +kernel
theorem d_RS_beginImage_8 : decode M_RS_beginImage.2.1 8 = .ok (.getfield 19, 3) := by decide +kernel
theorem d_RS_beginImage_11 : decode M_RS_beginImage.2.1 11 = .ok (.iload_n 1, 1) := by decide +kernel
theorem d_RS_beginImage_12 : decode M_RS_beginImage.2.1 12 = .ok (.iload_n 2, 1) := by decide +kernel
theorem d_RS_beginImage_13 : decode M_RS_beginImage.2.1 13 = .ok (.aload_n 0, 1) := by decide +kernel
theorem d_RS_beginImage_14 : decode M_RS_beginImage.2.1 14 = .ok (.iload_n 1, 1) := by decide +kernel
theorem d_RS_beginImage_15 : decode M_RS_beginImage.2.1 15 = .ok (.iload_n 2, 1) := by decide +kernel
theorem d_RS_beginImage_16 : decode M_RS_beginImage.2.1 16 = .ok (.invokevirtual 173, 3) := by decide +kernel
theorem d_RS_beginImage_19 : decode M_RS_beginImage.2.1 19 = .ok (.invokevirtual 71, 3) := by decide +kernel
theorem d_RS_beginImage_22 : decode M_RS_beginImage.2.1 22 = .ok (.iinc 2 (1), 3) := by decide +kernel
theorem d_RS_beginImage_25 : decode M_RS_beginImage.2.1 25 = .ok (.goto (-23), 3) := by decide +kernel
theorem d_RS_beginImage_28 : decode M_RS_beginImage.2.1 28 = .ok (.aload_n 0, 1) := by decide +kernel
theorem d_RS_beginImage_29 : decode M_RS_beginImage.2.1 29 = .ok (.getfield 19, 3) := by decide +kernel
theorem d_RS_beginImage_32 : decode M_RS_beginImage.2.1 32 = .ok (.iload_n 1, 1) := by decide +kernel
theorem d_RS_beginImage_33 : decode M_RS_beginImage.2.1 33 = .ok (.invokevirtual 192, 3) := by decide +kernel
theorem d_RS_beginImage_36 : decode M_RS_beginImage.2.1 36 = .ok (.aload_n 0, 1) := by decide +kernel
theorem d_RS_beginImage_37 : decode M_RS_beginImage.2.1 37 = .ok (.dup, 1) := by decide +kernel
theorem d_RS_beginImage_38 : decode M_RS_beginImage.2.1 38 = .ok (.getfield 81, 3) := by decide +kernel
theorem d_RS_beginImage_41 : decode M_RS_beginImage.2.1 41 = .ok (.iconst (1), 1) := by decide +kernel
theorem d_RS_beginImage_42 : decode M_RS_beginImage.2.1 42 = .ok (.iload_n 1, 1) := by decide +kernel
theorem d_RS_beginImage_43 : decode M_RS_beginImage.2.1 43 = .ok (.ishl, 1) := by decide +kernel
theorem d_RS_beginImage_44 : decode M_RS_beginImage.2.1 44 = .ok (.iconst (-1), 1) := by decide +kernel
theorem d_RS_beginImage_45 : decode M_RS_beginImage.2.1 45 = .ok (.ixor, 1) := by decide +kernel
theorem d_RS_beginImage_46 : decode M_RS_beginImage.2.1 46 = .ok (.iand, 1) := by decide +kernel
theorem d_RS_beginImage_47 : decode M_RS_beginImage.2.1 47 = .ok (.putfield 81, 3) := by decide +kernel
theorem d_RS_beginImage_50 : decode M_RS_beginImage.2.1 50 = .ok (.return_, 1) := by decide +kernel
theorem d_RS_planRowSector_0 : decode M_RS_planRowSector.2.1 0 = .ok (.aload_n 0, 1) := by decide +kernel
theorem d_RS_planRowSector_1 : decode M_RS_planRowSector.2.1 1 = .ok (.getfield 43, 3) := by decide +kernel
theorem d_RS_planRowSector_4 : decode M_RS_planRowSector.2.1 4 = .ok (.aload_n 0, 1) := by decide +kernel
theorem d_RS_planRowSector_5 : decode M_RS_planRowSector.2.1 5 = .ok (.getfield 121, 3) := by decide +kernel
theorem d_RS_planRowSector_8 : decode M_RS_planRowSector.2.1 8 = .ok (.iload_n 1, 1) := by decide +kernel
theorem d_RS_planRowSector_9 : decode M_RS_planRowSector.2.1 9 = .ok (.iadd, 1) := by decide +kernel
theorem d_RS_planRowSector_10 : decode M_RS_planRowSector.2.1 10 = .ok (.invokestatic 195, 3) := by decide +kernel
theorem d_RS_planRowSector_13 : decode M_RS_planRowSector.2.1 13 = .ok (.aload_n 0, 1) := by decide +kernel
theorem d_RS_planRowSector_14 : decode M_RS_planRowSector.2.1 14 = .ok (.getfield 29, 3) := by decide +kernel
theorem d_RS_planRowSector_17 : decode M_RS_planRowSector.2.1 17 = .ok (.iload_n 1, 1) := by decide +kernel
theorem d_RS_planRowSector_18 : decode M_RS_planRowSector.2.1 18 = .ok (.iconst (0), 1) := by decide +kernel
theorem d_RS_planRowSector_19 : decode M_RS_planRowSector.2.1 19 = .ok (.invokevirtual 198, 3) := by decide +kernel
theorem d_RS_planRowSector_22 : decode M_RS_planRowSector.2.1 22 = .ok (.aload_n 0, 1) := by decide +kernel
theorem d_RS_planRowSector_23 : decode M_RS_planRowSector.2.1 23 = .ok (.getfield 29, 3) := by decide +kernel
theorem d_RS_planRowSector_26 : decode M_RS_planRowSector.2.1 26 = .ok (.iload_n 1, 1) := by decide +kernel
theorem d_RS_planRowSector_27 : decode M_RS_planRowSector.2.1 27 = .ok (.iconst (1), 1) := by decide +kernel
theorem d_RS_planRowSector_28 : decode M_RS_planRowSector.2.1 28 = .ok (.invokevirtual 198, 3) := by decide +kernel
theorem d_RS_planRowSector_31 : decode M_RS_planRowSector.2.1 31 = .ok (.aload_n 0, 1) := by decide +kernel
theorem d_RS_planRowSector_32 : decode M_RS_planRowSector.2.1 32 = .ok (.getfield 29, 3) := by decide +kernel
theorem d_RS_planRowSector_35 : decode M_RS_planRowSector.2.1 35 = .ok (.iload_n 1, 1) := by decide +kernel
theorem d_RS_planRowSector_36 : decode M_RS_planRowSector.2.1 36 = .ok (.iconst (2), 1) := by decide +kernel
theorem d_RS_planRowSector_37 : decode M_RS_planRowSector.2.1 37 = .ok (.invokevirtual 198, 3) := by decide +kernel
theorem d_RS_planRowSector_40 : decode M_RS_planRowSector.2.1 40 = .ok (.aload_n 0, 1) := by decide +kernel
theorem d_RS_planRowSector_41 : decode M_RS_planRowSector.2.1 41 = .ok (.getfield 29, 3) := by decide +kernel
theorem d_RS_planRowSector_44 : decode M_RS_planRowSector.2.1 44 = .ok (.iload_n 1, 1) := by decide +kernel
theorem d_RS_planRowSector_45 : decode M_RS_planRowSector.2.1 45 = .ok (.iconst (3), 1) := by decide +kernel
theorem d_RS_planRowSector_46 : decode M_RS_planRowSector.2.1 46 = .ok (.invokevirtual 198, 3) := by decide +kernel
theorem d_RS_planRowSector_49 : decode M_RS_planRowSector.2.1 49 = .ok (.invokevirtual 117, 3) := by decide +kernel
theorem d_RS_planRowSector_52 : decode M_RS_planRowSector.2.1 52 = .ok (.return_, 1) := by decide +kernel
theorem d_RS_planHead_0 : decode M_RS_planHead.2.1 0 = .ok (.aload_n 0, 1) := by decide +kernel
theorem d_RS_planHead_1 : decode M_RS_planHead.2.1 1 = .ok (.getfield 43, 3) := by decide +kernel
theorem d_RS_planHead_4 : decode M_RS_planHead.2.1 4 = .ok (.invokevirtual 110, 3) := by decide +kernel
theorem d_RS_planHead_7 : decode M_RS_planHead.2.1 7 = .ok (.aload_n 0, 1) := by decide +kernel
theorem d_RS_planHead_8 : decode M_RS_planHead.2.1 8 = .ok (.getfield 43, 3) := by decide +kernel
theorem d_RS_planHead_11 : decode M_RS_planHead.2.1 11 = .ok (.bipush (16), 2) := by decide +kernel
theorem d_RS_planHead_13 : decode M_RS_planHead.2.1 13 = .ok (.ldc 199, 2) := by decide +kernel
theorem d_RS_planHead_15 : decode M_RS_planHead.2.1 15 = .ok (.iload_n 1, 1) := by decide +kernel
theorem d_RS_planHead_16 : decode M_RS_planHead.2.1 16 = .ok (.iload_n 2, 1) := by decide +kernel
theorem d_RS_planHead_17 : decode M_RS_planHead.2.1 17 = .ok (.iconst (0), 1) := by decide +kernel
theorem d_RS_planHead_18 : decode M_RS_planHead.2.1 18 = .ok (.invokevirtual 117, 3) := by decide +kernel
theorem d_RS_planHead_21 : decode M_RS_planHead.2.1 21 = .ok (.aload_n 0, 1) := by decide +kernel
theorem d_RS_planHead_22 : decode M_RS_planHead.2.1 22 = .ok (.getfield 43, 3) := by decide +kernel
theorem d_RS_planHead_25 : decode M_RS_planHead.2.1 25 = .ok (.invokevirtual 110, 3) := by decide +kernel
theorem d_RS_planHead_28 : decode M_RS_planHead.2.1 28 = .ok (.return_, 1) := by decide +kernel
theorem d_RS_finishJob_0 : decode M_RS_finishJob.2.1 0 = .ok (.aload_n 0, 1) := by decide +kernel
theorem d_RS_finishJob_1 : decode M_RS_finishJob.2.1 1 = .ok (.getfield 43, 3) := by decide +kernel
theorem d_RS_finishJob_4 : decode M_RS_finishJob.2.1 4 = .ok (.invokevirtual 185, 3) := by decide +kernel
theorem d_RS_finishJob_7 : decode M_RS_finishJob.2.1 7 = .ok (.istore_n 1, 1) := by decide +kernel
theorem d_RS_finishJob_8 : decode M_RS_finishJob.2.1 8 = .ok (.aload_n 0, 1) := by decide +kernel
theorem d_RS_finishJob_9 : decode M_RS_finishJob.2.1 9 = .ok (.getfield 43, 3) := by decide +kernel
theorem d_RS_finishJob_12 : decode M_RS_finishJob.2.1 12 = .ok (.invokevirtual 167, 3) := by decide +kernel
theorem d_RS_finishJob_15 : decode M_RS_finishJob.2.1 15 = .ok (.iload_n 1, 1) := by decide +kernel
theorem d_RS_finishJob_16 : decode M_RS_finishJob.2.1 16 = .ok (.iconst (2), 1) := by decide +kernel
theorem d_RS_finishJob_17 : decode M_RS_finishJob.2.1 17 = .ok (.if_icmp .ne (10), 3) := by decide +kernel
theorem d_RS_finishJob_20 : decode M_RS_finishJob.2.1 20 = .ok (.aload_n 0, 1) := by decide +kernel
theorem d_RS_finishJob_21 : decode M_RS_finishJob.2.1 21 = .ok (.invokevirtual 200, 3) := by decide +kernel
theorem d_RS_finishJob_24 : decode M_RS_finishJob.2.1 24 = .ok (.goto (41), 3) := by decide +kernel
theorem d_RS_finishJob_27 : decode M_RS_finishJob.2.1 27 = .ok (.iload_n 1, 1) := by decide +kernel
theorem d_RS_finishJob_28 : decode M_RS_finishJob.2.1 28 = .ok (.iconst (3), 1) := by decide +kernel
theorem d_RS_finishJob_29 : decode M_RS_finishJob.2.1 29 = .ok (.if_icmp .ne (18), 3) := by decide +kernel
theorem d_RS_finishJob_32 : decode M_RS_finishJob.2.1 32 = .ok (.aload_n 0, 1) := by decide +kernel
theorem d_RS_finishJob_33 : decode M_RS_finishJob.2.1 33 = .ok (.getfield 23, 3) := by decide +kernel
theorem d_RS_finishJob_36 : decode M_RS_finishJob.2.1 36 = .ok (.invokevirtual 203, 3) := by decide +kernel
theorem d_RS_finishJob_39 : decode M_RS_finishJob.2.1 39 = .ok (.aload_n 0, 1) := by decide +kernel
theorem d_RS_finishJob_40 : decode M_RS_finishJob.2.1 40 = .ok (.iconst (0), 1) := by decide +kernel
theorem d_RS_finishJob_41 : decode M_RS_finishJob.2.1 41 = .ok (.putfield 98, 3) := by decide +kernel
theorem d_RS_finishJob_44 : decode M_RS_finishJob.2.1 44 = .ok (.goto (21), 3) := by decide +kernel
theorem d_RS_finishJob_47 : decode M_RS_finishJob.2.1 47 = .ok (.aload_n 0, 1) := by decide +kernel
theorem d_RS_finishJob_48 : decode M_RS_finishJob.2.1 48 = .ok (.aload_n 0, 1) := by decide +kernel
theorem d_RS_finishJob_49 : decode M_RS_finishJob.2.1 49 = .ok (.getfield 36, 3) := by decide +kernel
theorem d_RS_finishJob_52 : decode M_RS_finishJob.2.1 52 = .ok (.invokevirtual 147, 3) := by decide +kernel
theorem d_RS_finishJob_55 : decode M_RS_finishJob.2.1 55 = .ok (.aload_n 0, 1) := by decide +kernel
theorem d_RS_finishJob_56 : decode M_RS_finishJob.2.1 56 = .ok (.getfield 36, 3) := by decide +kernel
theorem d_RS_finishJob_59 : decode M_RS_finishJob.2.1 59 = .ok (.invokevirtual 150, 3) := by decide +kernel
theorem d_RS_finishJob_62 : decode M_RS_finishJob.2.1 62 = .ok (.invokevirtual 47, 3) := by decide +kernel
theorem d_RS_finishJob_65 : decode M_RS_finishJob.2.1 65 = .ok (.return_, 1) := by decide +kernel
theorem d_RS_finishCommit_0 : decode M_RS_finishCommit.2.1 0 = .ok (.aload_n 0, 1) := by decide +kernel
theorem d_RS_finishCommit_1 : decode M_RS_finishCommit.2.1 1 = .ok (.aload_n 0, 1) := by decide +kernel
theorem d_RS_finishCommit_2 : decode M_RS_finishCommit.2.1 2 = .ok (.getfield 121, 3) := by decide +kernel
theorem d_RS_finishCommit_5 : decode M_RS_finishCommit.2.1 5 = .ok (.aload_n 0, 1) := by decide +kernel
theorem d_RS_finishCommit_6 : decode M_RS_finishCommit.2.1 6 = .ok (.getfield 29, 3) := by decide +kernel
theorem d_RS_finishCommit_9 : decode M_RS_finishCommit.2.1 9 = .ok (.invokevirtual 101, 3) := by decide +kernel
theorem d_RS_finishCommit_12 : decode M_RS_finishCommit.2.1 12 = .ok (.iadd, 1) := by decide +kernel
theorem d_RS_finishCommit_13 : decode M_RS_finishCommit.2.1 13 = .ok (.bipush (24), 2) := by decide +kernel
theorem d_RS_finishCommit_15 : decode M_RS_finishCommit.2.1 15 = .ok (.irem, 1) := by decide +kernel
theorem d_RS_finishCommit_16 : decode M_RS_finishCommit.2.1 16 = .ok (.putfield 121, 3) := by decide +kernel
theorem d_RS_finishCommit_19 : decode M_RS_finishCommit.2.1 19 = .ok (.aload_n 0, 1) := by decide +kernel
theorem d_RS_finishCommit_20 : decode M_RS_finishCommit.2.1 20 = .ok (.dup, 1) := by decide +kernel
theorem d_RS_finishCommit_21 : decode M_RS_finishCommit.2.1 21 = .ok (.getfield 98, 3) := by decide +kernel
theorem d_RS_finishCommit_24 : decode M_RS_finishCommit.2.1 24 = .ok (.aload_n 0, 1) := by decide +kernel
theorem d_RS_finishCommit_25 : decode M_RS_finishCommit.2.1 25 = .ok (.getfield 29, 3) := by decide +kernel
theorem d_RS_finishCommit_28 : decode M_RS_finishCommit.2.1 28 = .ok (.invokevirtual 101, 3) := by decide +kernel
theorem d_RS_finishCommit_31 : decode M_RS_finishCommit.2.1 31 = .ok (.iadd, 1) := by decide +kernel
theorem d_RS_finishCommit_32 : decode M_RS_finishCommit.2.1 32 = .ok (.putfield 98, 3) := by decide +kernel
theorem d_RS_finishCommit_35 : decode M_RS_finishCommit.2.1 35 = .ok (.aload_n 0, 1) := by decide +kernel
theorem d_RS_finishCommit_36 : decode M_RS_finishCommit.2.1 36 = .ok (.dup, 1) := by decide +kernel
theorem d_RS_finishCommit_37 : decode M_RS_finishCommit.2.1 37 = .ok (.getfield 91, 3) := by decide +kernel
theorem d_RS_finishCommit_40 : decode M_RS_finishCommit.2.1 40 = .ok (.iconst (1), 1) := by decide +kernel
theorem d_RS_finishCommit_41 : decode M_RS_finishCommit.2.1 41 = .ok (.iadd, 1) := by decide +kernel
theorem d_RS_finishCommit_42 : decode M_RS_finishCommit.2.1 42 = .ok (.putfield 91, 3) := by decide +kernel
theorem d_RS_finishCommit_45 : decode M_RS_finishCommit.2.1 45 = .ok (.iconst (0), 1) := by decide +kernel
theorem d_RS_finishCommit_46 : decode M_RS_finishCommit.2.1 46 = .ok (.istore_n 1, 1) := by decide +kernel
theorem d_RS_finishCommit_47 : decode M_RS_finishCommit.2.1 47 = .ok (.iload_n 1, 1) := by decide +kernel
theorem d_RS_finishCommit_48 : decode M_RS_finishCommit.2.1 48 = .ok (.bipush (16), 2) := by decide +kernel
theorem d_RS_finishCommit_50 : decode M_RS_finishCommit.2.1 50 = .ok (.if_icmp .ge (51), 3) := by decide +kernel
theorem d_RS_finishCommit_53 : decode M_RS_finishCommit.2.1 53 = .ok (.aload_n 0, 1) := by decide +kernel
theorem d_RS_finishCommit_54 : decode M_RS_finishCommit.2.1 54 = .ok (.getfield 19, 3) := by decide +kernel
theorem d_RS_finishCommit_57 : decode M_RS_finishCommit.2.1 57 = .ok (.iload_n 1, 1) := by decide +kernel
theorem d_RS_finishCommit_58 : decode M_RS_finishCommit.2.1 58 = .ok (.invokevirtual 59, 3) := by decide +kernel
theorem d_RS_finishCommit_61 : decode M_RS_finishCommit.2.1 61 = .ok (.ifCond .eq (18), 3) := by decide +kernel
theorem d_RS_finishCommit_64 : decode M_RS_finishCommit.2.1 64 = .ok (.aload_n 0, 1) := by decide +kernel
theorem d_RS_finishCommit_65 : decode M_RS_finishCommit.2.1 65 = .ok (.getfield 23, 3) := by decide +kernel
theorem d_RS_finishCommit_68 : decode M_RS_finishCommit.2.1 68 = .ok (.aload_n 0, 1) := by decide +kernel
theorem d_RS_finishCommit_69 : decode M_RS_finishCommit.2.1 69 = .ok (.getfield 19, 3) := by decide +kernel
theorem d_RS_finishCommit_72 : decode M_RS_finishCommit.2.1 72 = .ok (.iload_n 1, 1) := by decide +kernel
theorem d_RS_finishCommit_73 : decode M_RS_finishCommit.2.1 73 = .ok (.invokevirtual 206, 3) := by decide +kernel
theorem d_RS_finishCommit_76 : decode M_RS_finishCommit.2.1 76 = .ok (.goto (19), 3) := by decide +kernel
theorem d_RS_finishCommit_79 : decode M_RS_finishCommit.2.1 79 = .ok (.aload_n 0, 1) := by decide +kernel
theorem d_RS_finishCommit_80 : decode M_RS_finishCommit.2.1 80 = .ok (.iload_n 1, 1) := by decide +kernel
theorem d_RS_finishCommit_81 : decode M_RS_finishCommit.2.1 81 = .ok (.invokevirtual 188, 3) := by decide +kernel
theorem d_RS_finishCommit_84 : decode M_RS_finishCommit.2.1 84 = .ok (.ifCond .eq (11), 3) := by decide +kernel
theorem d_RS_finishCommit_87 : decode M_RS_finishCommit.2.1 87 = .ok (.aload_n 0, 1) := by decide +kernel
theorem d_RS_finishCommit_88 : decode M_RS_finishCommit.2.1 88 = .ok (.getfield 23, 3) := by decide +kernel
theorem d_RS_finishCommit_91 : decode M_RS_finishCommit.2.1 91 = .ok (.iload_n 1, 1) := by decide +kernel
theorem d_RS_finishCommit_92 : decode M_RS_finishCommit.2.1 92 = .ok (.invokevirtual 78, 3) := by decide +kernel
end
section
theorem d_RS_finishCommit_95 : decode M_RS_finishCommit.2.1 95 = .ok (.iinc 1 (1), 3) := by decide +kernel
theorem d_RS_finishCommit_98 : decode M_RS_finishCommit.2.1 98 = .ok (.goto (-51), 3) := by decide +kernel
theorem d_RS_finishCommit_101 : decode M_RS_finishCommit.2.1 101 = .ok (.aload_n 0, 1) := by decide +kernel
theorem d_RS_finishCommit_102 : decode M_RS_finishCommit.2.1 102 = .ok (.getfield 19, 3) := by decide +kernel
theorem d_RS_finishCommit_105 : decode M_RS_finishCommit.2.1 105 = .ok (.invokevirtual 203, 3) := by decide +kernel
theorem d_RS_finishCommit_108 : decode M_RS_finishCommit.2.1 108 = .ok (.aload_n 0, 1) := by decide +kernel
theorem d_RS_finishCommit_109 : decode M_RS_finishCommit.2.1 109 = .ok (.iconst (0), 1) := by decide +kernel
theorem d_RS_finishCommit_110 : decode M_RS_finishCommit.2.1 110 = .ok (.putfield 81, 3) := by decide +kernel
theorem d_RS_finishCommit_113 : decode M_RS_finishCommit.2.1 113 = .ok (.return_, 1) := by decide +kernel
theorem d_RS_comeUp_0 : decode M_RS_comeUp.2.1 0 = .ok (.aload_n 0, 1) := by decide +kernel
theorem d_RS_comeUp_1 : decode M_RS_comeUp.2.1 1 = .ok (.iconst (1), 1) := by decide +kernel
theorem d_RS_comeUp_2 : decode M_RS_comeUp.2.1 2 = .ok (.putfield 127, 3) := by decide +kernel
theorem d_RS_comeUp_5 : decode M_RS_comeUp.2.1 5 = .ok (.aload_n 0, 1) := by decide +kernel
theorem d_RS_comeUp_6 : decode M_RS_comeUp.2.1 6 = .ok (.iload_n 1, 1) := by decide +kernel
theorem d_RS_comeUp_7 : decode M_RS_comeUp.2.1 7 = .ok (.putfield 91, 3) := by decide +kernel
theorem d_RS_comeUp_10 : decode M_RS_comeUp.2.1 10 = .ok (.aload_n 0, 1) := by decide +kernel
theorem d_RS_comeUp_11 : decode M_RS_comeUp.2.1 11 = .ok (.iload_n 2, 1) := by decide +kernel
theorem d_RS_comeUp_12 : decode M_RS_comeUp.2.1 12 = .ok (.putfield 121, 3) := by decide +kernel
theorem d_RS_comeUp_15 : decode M_RS_comeUp.2.1 15 = .ok (.aload_n 0, 1) := by decide +kernel
theorem d_RS_comeUp_16 : decode M_RS_comeUp.2.1 16 = .ok (.iconst (0), 1) := by decide +kernel
theorem d_RS_comeUp_17 : decode M_RS_comeUp.2.1 17 = .ok (.putfield 98, 3) := by decide +kernel
theorem d_RS_comeUp_20 : decode M_RS_comeUp.2.1 20 = .ok (.aload_n 0, 1) := by decide +kernel
theorem d_RS_comeUp_21 : decode M_RS_comeUp.2.1 21 = .ok (.getfield 19, 3) := by decide +kernel
theorem d_RS_comeUp_24 : decode M_RS_comeUp.2.1 24 = .ok (.invokevirtual 203, 3) := by decide +kernel
theorem d_RS_comeUp_27 : decode M_RS_comeUp.2.1 27 = .ok (.aload_n 0, 1) := by decide +kernel
theorem d_RS_comeUp_28 : decode M_RS_comeUp.2.1 28 = .ok (.iconst (0), 1) := by decide +kernel
theorem d_RS_comeUp_29 : decode M_RS_comeUp.2.1 29 = .ok (.putfield 81, 3) := by decide +kernel
theorem d_RS_comeUp_32 : decode M_RS_comeUp.2.1 32 = .ok (.aload_n 0, 1) := by decide +kernel
theorem d_RS_comeUp_33 : decode M_RS_comeUp.2.1 33 = .ok (.getfield 23, 3) := by decide +kernel
theorem d_RS_comeUp_36 : decode M_RS_comeUp.2.1 36 = .ok (.invokevirtual 203, 3) := by decide +kernel
theorem d_RS_comeUp_39 : decode M_RS_comeUp.2.1 39 = .ok (.return_, 1) := by decide +kernel
end
section
theorem d_MD_read_0 : decode M_MD_read.2.1 0 = .ok (.iload_n 1, 1) := by decide +kernel
theorem d_MD_read_1 : decode M_MD_read.2.1 1 = .ok (.ifCond .lt (18), 3) := by decide +kernel
theorem d_MD_read_4 : decode M_MD_read.2.1 4 = .ok (.iload_n 1, 1) := by decide +kernel
theorem d_MD_read_5 : decode M_MD_read.2.1 5 = .ok (.bipush (40), 2) := by decide +kernel
theorem d_MD_read_7 : decode M_MD_read.2.1 7 = .ok (.if_icmp .gt (12), 3) := by decide +kernel
theorem d_MD_read_10 : decode M_MD_read.2.1 10 = .ok (.iload_n 2, 1) := by decide +kernel
theorem d_MD_read_11 : decode M_MD_read.2.1 11 = .ok (.ifCond .lt (8), 3) := by decide +kernel
theorem d_MD_read_14 : decode M_MD_read.2.1 14 = .ok (.iload_n 2, 1) := by decide +kernel
theorem d_MD_read_15 : decode M_MD_read.2.1 15 = .ok (.iconst (3), 1) := by decide +kernel
theorem d_MD_read_16 : decode M_MD_read.2.1 16 = .ok (.if_icmp .le (5), 3) := by decide +kernel
theorem d_MD_read_19 : decode M_MD_read.2.1 19 = .ok (.iconst (0), 1) := by decide +kernel
theorem d_MD_read_20 : decode M_MD_read.2.1 20 = .ok (.ireturn, 1) := by decide +kernel
theorem d_MD_read_21 : decode M_MD_read.2.1 21 = .ok (.aload_n 0, 1) := by decide +kernel
theorem d_MD_read_22 : decode M_MD_read.2.1 22 = .ok (.getfield 7, 3) := by decide +kernel
theorem d_MD_read_25 : decode M_MD_read.2.1 25 = .ok (.iconst (4), 1) := by decide +kernel
theorem d_MD_read_26 : decode M_MD_read.2.1 26 = .ok (.iload_n 1, 1) := by decide +kernel
theorem d_MD_read_27 : decode M_MD_read.2.1 27 = .ok (.imul, 1) := by decide +kernel
theorem d_MD_read_28 : decode M_MD_read.2.1 28 = .ok (.iload_n 2, 1) := by decide +kernel
theorem d_MD_read_29 : decode M_MD_read.2.1 29 = .ok (.iadd, 1) := by decide +kernel
theorem d_MD_read_30 : decode M_MD_read.2.1 30 = .ok (.iaload, 1) := by decide +kernel
theorem d_MD_read_31 : decode M_MD_read.2.1 31 = .ok (.istore_n 3, 1) := by decide +kernel
theorem d_MD_read_32 : decode M_MD_read.2.1 32 = .ok (.iconst (0), 1) := by decide +kernel
theorem d_MD_read_33 : decode M_MD_read.2.1 33 = .ok (.istore 4, 2) := by decide +kernel
theorem d_MD_read_35 : decode M_MD_read.2.1 35 = .ok (.iload 4, 2) := by decide +kernel
theorem d_MD_read_37 : decode M_MD_read.2.1 37 = .ok (.aload_n 0, 1) := by decide +kernel
theorem d_MD_read_38 : decode M_MD_read.2.1 38 = .ok (.getfield 50, 3) := by decide +kernel
theorem d_MD_read_41 : decode M_MD_read.2.1 41 = .ok (.if_icmp .ge (36), 3) := by decide +kernel
theorem d_MD_read_44 : decode M_MD_read.2.1 44 = .ok (.aload_n 0, 1) := by decide +kernel
theorem d_MD_read_45 : decode M_MD_read.2.1 45 = .ok (.getfield 13, 3) := by decide +kernel
theorem d_MD_read_48 : decode M_MD_read.2.1 48 = .ok (.iload 4, 2) := by decide +kernel
theorem d_MD_read_50 : decode M_MD_read.2.1 50 = .ok (.iaload, 1) := by decide +kernel
theorem d_MD_read_51 : decode M_MD_read.2.1 51 = .ok (.iload_n 1, 1) := by decide +kernel
theorem d_MD_read_52 : decode M_MD_read.2.1 52 = .ok (.if_icmp .ne (17), 3) := by decide +kernel
theorem d_MD_read_55 : decode M_MD_read.2.1 55 = .ok (.aload_n 0, 1) := by decide +kernel
theorem d_MD_read_56 : decode M_MD_read.2.1 56 = .ok (.getfield 16, 3) := by decide +kernel
theorem d_MD_read_59 : decode M_MD_read.2.1 59 = .ok (.iconst (4), 1) := by decide +kernel
theorem d_MD_read_60 : decode M_MD_read.2.1 60 = .ok (.iload 4, 2) := by decide +kernel
theorem d_MD_read_62 : decode M_MD_read.2.1 62 = .ok (.imul, 1) := by decide +kernel
theorem d_MD_read_63 : decode M_MD_read.2.1 63 = .ok (.iload_n 2, 1) := by decide +kernel
theorem d_MD_read_64 : decode M_MD_read.2.1 64 = .ok (.iadd, 1) := by decide +kernel
theorem d_MD_read_65 : decode M_MD_read.2.1 65 = .ok (.iaload, 1) := by decide +kernel
theorem d_MD_read_66 : decode M_MD_read.2.1 66 = .ok (.goto (4), 3) := by decide +kernel
theorem d_MD_read_69 : decode M_MD_read.2.1 69 = .ok (.iload_n 3, 1) := by decide +kernel
theorem d_MD_read_70 : decode M_MD_read.2.1 70 = .ok (.istore_n 3, 1) := by decide +kernel
theorem d_MD_read_71 : decode M_MD_read.2.1 71 = .ok (.iinc 4 (1), 3) := by decide +kernel
theorem d_MD_read_74 : decode M_MD_read.2.1 74 = .ok (.goto (-39), 3) := by decide +kernel
theorem d_MD_read_77 : decode M_MD_read.2.1 77 = .ok (.iload_n 3, 1) := by decide +kernel
theorem d_MD_read_78 : decode M_MD_read.2.1 78 = .ok (.ireturn, 1) := by decide +kernel
theorem d_MD_stored_0 : decode M_MD_stored.2.1 0 = .ok (.iload_n 1, 1) := by decide +kernel
theorem d_MD_stored_1 : decode M_MD_stored.2.1 1 = .ok (.ifCond .lt (18), 3) := by decide +kernel
theorem d_MD_stored_4 : decode M_MD_stored.2.1 4 = .ok (.iload_n 1, 1) := by decide +kernel
theorem d_MD_stored_5 : decode M_MD_stored.2.1 5 = .ok (.bipush (40), 2) := by decide +kernel
theorem d_MD_stored_7 : decode M_MD_stored.2.1 7 = .ok (.if_icmp .gt (12), 3) := by decide +kernel
theorem d_MD_stored_10 : decode M_MD_stored.2.1 10 = .ok (.iload_n 2, 1) := by decide +kernel
theorem d_MD_stored_11 : decode M_MD_stored.2.1 11 = .ok (.ifCond .lt (8), 3) := by decide +kernel
theorem d_MD_stored_14 : decode M_MD_stored.2.1 14 = .ok (.iload_n 2, 1) := by decide +kernel
theorem d_MD_stored_15 : decode M_MD_stored.2.1 15 = .ok (.iconst (3), 1) := by decide +kernel
theorem d_MD_stored_16 : decode M_MD_stored.2.1 16 = .ok (.if_icmp .le (7), 3) := by decide +kernel
theorem d_MD_stored_19 : decode M_MD_stored.2.1 19 = .ok (.iconst (0), 1) := by decide +kernel
theorem d_MD_stored_20 : decode M_MD_stored.2.1 20 = .ok (.goto (13), 3) := by decide +kernel
theorem d_MD_stored_23 : decode M_MD_stored.2.1 23 = .ok (.aload_n 0, 1) := by decide +kernel
theorem d_MD_stored_24 : decode M_MD_stored.2.1 24 = .ok (.getfield 7, 3) := by decide +kernel
theorem d_MD_stored_27 : decode M_MD_stored.2.1 27 = .ok (.iconst (4), 1) := by decide +kernel
theorem d_MD_stored_28 : decode M_MD_stored.2.1 28 = .ok (.iload_n 1, 1) := by decide +kernel
theorem d_MD_stored_29 : decode M_MD_stored.2.1 29 = .ok (.imul, 1) := by decide +kernel
theorem d_MD_stored_30 : decode M_MD_stored.2.1 30 = .ok (.iload_n 2, 1) := by decide +kernel
theorem d_MD_stored_31 : decode M_MD_stored.2.1 31 = .ok (.iadd, 1) := by decide +kernel
theorem d_MD_stored_32 : decode M_MD_stored.2.1 32 = .ok (.iaload, 1) := by decide +kernel
theorem d_MD_stored_33 : decode M_MD_stored.2.1 33 = .ok (.ireturn, 1) := by decide +kernel
theorem d_MD_cached_0 : decode M_MD_cached.2.1 0 = .ok (.aload_n 0, 1) := by decide +kernel
theorem d_MD_cached_1 : decode M_MD_cached.2.1 1 = .ok (.getfield 50, 3) := by decide +kernel
theorem d_MD_cached_4 : decode M_MD_cached.2.1 4 = .ok (.ireturn, 1) := by decide +kernel
theorem d_MD_writeOut_0 : decode M_MD_writeOut.2.1 0 = .ok (.aload_n 0, 1) := by decide +kernel
theorem d_MD_writeOut_1 : decode M_MD_writeOut.2.1 1 = .ok (.getfield 13, 3) := by decide +kernel
theorem d_MD_writeOut_4 : decode M_MD_writeOut.2.1 4 = .ok (.aload_n 0, 1) := by decide +kernel
theorem d_MD_writeOut_5 : decode M_MD_writeOut.2.1 5 = .ok (.getfield 50, 3) := by decide +kernel
theorem d_MD_writeOut_8 : decode M_MD_writeOut.2.1 8 = .ok (.iload_n 1, 1) := by decide +kernel
theorem d_MD_writeOut_9 : decode M_MD_writeOut.2.1 9 = .ok (.iastore, 1) := by decide +kernel
theorem d_MD_writeOut_10 : decode M_MD_writeOut.2.1 10 = .ok (.iconst (0), 1) := by decide +kernel
theorem d_MD_writeOut_11 : decode M_MD_writeOut.2.1 11 = .ok (.istore_n 2, 1) := by decide +kernel
theorem d_MD_writeOut_12 : decode M_MD_writeOut.2.1 12 = .ok (.iload_n 2, 1) := by decide +kernel
theorem d_MD_writeOut_13 : decode M_MD_writeOut.2.1 13 = .ok (.iconst (4), 1) := by decide +kernel
theorem d_MD_writeOut_14 : decode M_MD_writeOut.2.1 14 = .ok (.if_icmp .ge (28), 3) := by decide +kernel
theorem d_MD_writeOut_17 : decode M_MD_writeOut.2.1 17 = .ok (.aload_n 0, 1) := by decide +kernel
theorem d_MD_writeOut_18 : decode M_MD_writeOut.2.1 18 = .ok (.getfield 16, 3) := by decide +kernel
theorem d_MD_writeOut_21 : decode M_MD_writeOut.2.1 21 = .ok (.iconst (4), 1) := by decide +kernel
theorem d_MD_writeOut_22 : decode M_MD_writeOut.2.1 22 = .ok (.aload_n 0, 1) := by decide +kernel
theorem d_MD_writeOut_23 : decode M_MD_writeOut.2.1 23 = .ok (.getfield 50, 3) := by decide +kernel
theorem d_MD_writeOut_26 : decode M_MD_writeOut.2.1 26 = .ok (.imul, 1) := by decide +kernel
theorem d_MD_writeOut_27 : decode M_MD_writeOut.2.1 27 = .ok (.iload_n 2, 1) := by decide +kernel
theorem d_MD_writeOut_28 : decode M_MD_writeOut.2.1 28 = .ok (.iadd, 1) := by decide +kernel
theorem d_MD_writeOut_29 : decode M_MD_writeOut.2.1 29 = .ok (.aload_n 0, 1) := by decide +kernel
theorem d_MD_writeOut_30 : decode M_MD_writeOut.2.1 30 = .ok (.getfield 40, 3) := by decide +kernel
theorem d_MD_writeOut_33 : decode M_MD_writeOut.2.1 33 = .ok (.iload_n 2, 1) := by decide +kernel
theorem d_MD_writeOut_34 : decode M_MD_writeOut.2.1 34 = .ok (.iaload, 1) := by decide +kernel
theorem d_MD_writeOut_35 : decode M_MD_writeOut.2.1 35 = .ok (.iastore, 1) := by decide +kernel
theorem d_MD_writeOut_36 : decode M_MD_writeOut.2.1 36 = .ok (.iinc 2 (1), 3) := by decide +kernel
theorem d_MD_writeOut_39 : decode M_MD_writeOut.2.1 39 = .ok (.goto (-27), 3) := by decide +kernel
theorem d_MD_writeOut_42 : decode M_MD_writeOut.2.1 42 = .ok (.aload_n 0, 1) := by decide +kernel
theorem d_MD_writeOut_43 : decode M_MD_writeOut.2.1 43 = .ok (.aload_n 0, 1) := by decide +kernel
theorem d_MD_writeOut_44 : decode M_MD_writeOut.2.1 44 = .ok (.getfield 50, 3) := by decide +kernel
theorem d_MD_writeOut_47 : decode M_MD_writeOut.2.1 47 = .ok (.iconst (1), 1) := by decide +kernel
theorem d_MD_writeOut_48 : decode M_MD_writeOut.2.1 48 = .ok (.iadd, 1) := by decide +kernel
theorem d_MD_writeOut_49 : decode M_MD_writeOut.2.1 49 = .ok (.putfield 50, 3) := by decide +kernel
theorem d_MD_writeOut_52 : decode M_MD_writeOut.2.1 52 = .ok (.return_, 1) := by decide +kernel
theorem d_MD_settle_0 : decode M_MD_settle.2.1 0 = .ok (.iconst (0), 1) := by decide +kernel
theorem d_MD_settle_1 : decode M_MD_settle.2.1 1 = .ok (.istore_n 3, 1) := by decide +kernel
theorem d_MD_settle_2 : decode M_MD_settle.2.1 2 = .ok (.iload_n 3, 1) := by decide +kernel
theorem d_MD_settle_3 : decode M_MD_settle.2.1 3 = .ok (.iload_n 2, 1) := by decide +kernel
theorem d_MD_settle_4 : decode M_MD_settle.2.1 4 = .ok (.if_icmp .ge (34), 3) := by decide +kernel
theorem d_MD_settle_7 : decode M_MD_settle.2.1 7 = .ok (.aload_n 0, 1) := by decide +kernel
theorem d_MD_settle_8 : decode M_MD_settle.2.1 8 = .ok (.getfield 7, 3) := by decide +kernel
theorem d_MD_settle_11 : decode M_MD_settle.2.1 11 = .ok (.iconst (4), 1) := by decide +kernel
theorem d_MD_settle_12 : decode M_MD_settle.2.1 12 = .ok (.aload_n 0, 1) := by decide +kernel
theorem d_MD_settle_13 : decode M_MD_settle.2.1 13 = .ok (.getfield 13, 3) := by decide +kernel
theorem d_MD_settle_16 : decode M_MD_settle.2.1 16 = .ok (.iload_n 1, 1) := by decide +kernel
theorem d_MD_settle_17 : decode M_MD_settle.2.1 17 = .ok (.iaload, 1) := by decide +kernel
theorem d_MD_settle_18 : decode M_MD_settle.2.1 18 = .ok (.imul, 1) := by decide +kernel
theorem d_MD_settle_19 : decode M_MD_settle.2.1 19 = .ok (.iload_n 3, 1) := by decide +kernel
theorem d_MD_settle_20 : decode M_MD_settle.2.1 20 = .ok (.iadd, 1) := by decide +kernel
theorem d_MD_settle_21 : decode M_MD_settle.2.1 21 = .ok (.aload_n 0, 1) := by decide +kernel
theorem d_MD_settle_22 : decode M_MD_settle.2.1 22 = .ok (.getfield 16, 3) := by decide +kernel
theorem d_MD_settle_25 : decode M_MD_settle.2.1 25 = .ok (.iconst (4), 1) := by decide +kernel
theorem d_MD_settle_26 : decode M_MD_settle.2.1 26 = .ok (.iload_n 1, 1) := by decide +kernel
theorem d_MD_settle_27 : decode M_MD_settle.2.1 27 = .ok (.imul, 1) := by decide +kernel
theorem d_MD_settle_28 : decode M_MD_settle.2.1 28 = .ok (.iload_n 3, 1) := by decide +kernel
theorem d_MD_settle_29 : decode M_MD_settle.2.1 29 = .ok (.iadd, 1) := by decide +kernel
theorem d_MD_settle_30 : decode M_MD_settle.2.1 30 = .ok (.iaload, 1) := by decide +kernel
theorem d_MD_settle_31 : decode M_MD_settle.2.1 31 = .ok (.iastore, 1) := by decide +kernel
theorem d_MD_settle_32 : decode M_MD_settle.2.1 32 = .ok (.iinc 3 (1), 3) := by decide +kernel
theorem d_MD_settle_35 : decode M_MD_settle.2.1 35 = .ok (.goto (-33), 3) := by decide +kernel
theorem d_MD_settle_38 : decode M_MD_settle.2.1 38 = .ok (.return_, 1) := by decide +kernel
theorem d_MD_flush_0 : decode M_MD_flush.2.1 0 = .ok (.iconst (0), 1) := by decide +kernel
theorem d_MD_flush_1 : decode M_MD_flush.2.1 1 = .ok (.istore_n 1, 1) := by decide +kernel
theorem d_MD_flush_2 : decode M_MD_flush.2.1 2 = .ok (.iload_n 1, 1) := by decide +kernel
theorem d_MD_flush_3 : decode M_MD_flush.2.1 3 = .ok (.aload_n 0, 1) := by decide +kernel
theorem d_MD_flush_4 : decode M_MD_flush.2.1 4 = .ok (.getfield 50, 3) := by decide +kernel
theorem d_MD_flush_7 : decode M_MD_flush.2.1 7 = .ok (.if_icmp .ge (15), 3) := by decide +kernel
theorem d_MD_flush_10 : decode M_MD_flush.2.1 10 = .ok (.aload_n 0, 1) := by decide +kernel
theorem d_MD_flush_11 : decode M_MD_flush.2.1 11 = .ok (.iload_n 1, 1) := by decide +kernel
theorem d_MD_flush_12 : decode M_MD_flush.2.1 12 = .ok (.iconst (4), 1) := by decide +kernel
theorem d_MD_flush_13 : decode M_MD_flush.2.1 13 = .ok (.invokevirtual 53, 3) := by decide +kernel
theorem d_MD_flush_16 : decode M_MD_flush.2.1 16 = .ok (.iinc 1 (1), 3) := by decide +kernel
theorem d_MD_flush_19 : decode M_MD_flush.2.1 19 = .ok (.goto (-17), 3) := by decide +kernel
theorem d_MD_flush_22 : decode M_MD_flush.2.1 22 = .ok (.aload_n 0, 1) := by decide +kernel
theorem d_MD_flush_23 : decode M_MD_flush.2.1 23 = .ok (.iconst (0), 1) := by decide +kernel
theorem d_MD_flush_24 : decode M_MD_flush.2.1 24 = .ok (.putfield 50, 3) := by decide +kernel
theorem d_MD_flush_27 : decode M_MD_flush.2.1 27 = .ok (.return_, 1) := by decide +kernel
theorem d_MD_say_0 : decode M_MD_say.2.1 0 = .ok (.aload_n 0, 1) := by decide +kernel
theorem d_MD_say_1 : decode M_MD_say.2.1 1 = .ok (.getfield 40, 3) := by decide +kernel
theorem d_MD_say_4 : decode M_MD_say.2.1 4 = .ok (.iconst (0), 1) := by decide +kernel
theorem d_MD_say_5 : decode M_MD_say.2.1 5 = .ok (.iload_n 1, 1) := by decide +kernel
theorem d_MD_say_6 : decode M_MD_say.2.1 6 = .ok (.iastore, 1) := by decide +kernel
theorem d_MD_say_7 : decode M_MD_say.2.1 7 = .ok (.aload_n 0, 1) := by decide +kernel
theorem d_MD_say_8 : decode M_MD_say.2.1 8 = .ok (.getfield 40, 3) := by decide +kernel
theorem d_MD_say_11 : decode M_MD_say.2.1 11 = .ok (.iconst (1), 1) := by decide +kernel
theorem d_MD_say_12 : decode M_MD_say.2.1 12 = .ok (.iload_n 2, 1) := by decide +kernel
theorem d_MD_say_13 : decode M_MD_say.2.1 13 = .ok (.iastore, 1) := by decide +kernel
theorem d_MD_say_14 : decode M_MD_say.2.1 14 = .ok (.aload_n 0, 1) := by decide +kernel
theorem d_MD_say_15 : decode M_MD_say.2.1 15 = .ok (.getfield 40, 3) := by decide +kernel
theorem d_MD_say_18 : decode M_MD_say.2.1 18 = .ok (.iconst (2), 1) := by decide +kernel
theorem d_MD_say_19 : decode M_MD_say.2.1 19 = .ok (.iload_n 3, 1) := by decide +kernel
theorem d_MD_say_20 : decode M_MD_say.2.1 20 = .ok (.iastore, 1) := by decide +kernel
theorem d_MD_say_21 : decode M_MD_say.2.1 21 = .ok (.aload_n 0, 1) := by decide +kernel
theorem d_MD_say_22 : decode M_MD_say.2.1 22 = .ok (.getfield 40, 3) := by decide +kernel
theorem d_MD_say_25 : decode M_MD_say.2.1 25 = .ok (.iconst (3), 1) := by decide +kernel
theorem d_MD_say_26 : decode M_MD_say.2.1 26 = .ok (.iload 4, 2) := by decide +kernel
theorem d_MD_say_28 : decode M_MD_say.2.1 28 = .ok (.iastore, 1) := by decide +kernel
theorem d_MD_say_29 : decode M_MD_say.2.1 29 = .ok (.return_, 1) := by decide +kernel
theorem d_MD_countOf_0 : decode M_MD_countOf.2.1 0 = .ok (.iconst (0), 1) := by decide +kernel
theorem d_MD_countOf_1 : decode M_MD_countOf.2.1 1 = .ok (.istore_n 2, 1) := by decide +kernel
theorem d_MD_countOf_2 : decode M_MD_countOf.2.1 2 = .ok (.iconst (0), 1) := by decide +kernel
theorem d_MD_countOf_3 : decode M_MD_countOf.2.1 3 = .ok (.istore_n 3, 1) := by decide +kernel
theorem d_MD_countOf_4 : decode M_MD_countOf.2.1 4 = .ok (.iload_n 3, 1) := by decide +kernel
theorem d_MD_countOf_5 : decode M_MD_countOf.2.1 5 = .ok (.bipush (16), 2) := by decide +kernel
theorem d_MD_countOf_7 : decode M_MD_countOf.2.1 7 = .ok (.if_icmp .ge (27), 3) := by decide +kernel
theorem d_MD_countOf_10 : decode M_MD_countOf.2.1 10 = .ok (.aload_n 0, 1) := by decide +kernel
theorem d_MD_countOf_11 : decode M_MD_countOf.2.1 11 = .ok (.getfield 27, 3) := by decide +kernel
theorem d_MD_countOf_14 : decode M_MD_countOf.2.1 14 = .ok (.iload_n 3, 1) := by decide +kernel
theorem d_MD_countOf_15 : decode M_MD_countOf.2.1 15 = .ok (.iaload, 1) := by decide +kernel
theorem d_MD_countOf_16 : decode M_MD_countOf.2.1 16 = .ok (.iload_n 1, 1) := by decide +kernel
theorem d_MD_countOf_17 : decode M_MD_countOf.2.1 17 = .ok (.if_icmp .ne (9), 3) := by decide +kernel
theorem d_MD_countOf_20 : decode M_MD_countOf.2.1 20 = .ok (.iload_n 2, 1) := by decide +kernel
theorem d_MD_countOf_21 : decode M_MD_countOf.2.1 21 = .ok (.iconst (1), 1) := by decide +kernel
theorem d_MD_countOf_22 : decode M_MD_countOf.2.1 22 = .ok (.iadd, 1) := by decide +kernel
theorem d_MD_countOf_23 : decode M_MD_countOf.2.1 23 = .ok (.goto (4), 3) := by decide +kernel
theorem d_MD_countOf_26 : decode M_MD_countOf.2.1 26 = .ok (.iload_n 2, 1) := by decide +kernel
theorem d_MD_countOf_27 : decode M_MD_countOf.2.1 27 = .ok (.istore_n 2, 1) := by decide +kernel
theorem d_MD_countOf_28 : decode M_MD_countOf.2.1 28 = .ok (.iinc 3 (1), 3) := by decide +kernel
theorem d_MD_countOf_31 : decode M_MD_countOf.2.1 31 = .ok (.goto (-27), 3) := by decide +kernel
theorem d_MD_countOf_34 : decode M_MD_countOf.2.1 34 = .ok (.iload_n 2, 1) := by decide +kernel
theorem d_MD_countOf_35 : decode M_MD_countOf.2.1 35 = .ok (.ireturn, 1) := by decide +kernel
theorem d_MD_get_0 : decode M_MD_get.2.1 0 = .ok (.aload_n 0, 1) := by decide +kernel
theorem d_MD_get_1 : decode M_MD_get.2.1 1 = .ok (.getfield 19, 3) := by decide +kernel
theorem d_MD_get_4 : decode M_MD_get.2.1 4 = .ok (.ifCond .eq (17), 3) := by decide +kernel
theorem d_MD_get_7 : decode M_MD_get.2.1 7 = .ok (.iload_n 1, 1) := by decide +kernel
theorem d_MD_get_8 : decode M_MD_get.2.1 8 = .ok (.invokestatic 58, 3) := by decide +kernel
theorem d_MD_get_11 : decode M_MD_get.2.1 11 = .ok (.ifCond .eq (10), 3) := by decide +kernel
theorem d_MD_get_14 : decode M_MD_get.2.1 14 = .ok (.iload_n 2, 1) := by decide +kernel
theorem d_MD_get_15 : decode M_MD_get.2.1 15 = .ok (.invokestatic 62, 3) := by decide +kernel
theorem d_MD_get_18 : decode M_MD_get.2.1 18 = .ok (.ifCond .ne (5), 3) := by decide +kernel
theorem d_MD_get_21 : decode M_MD_get.2.1 21 = .ok (.iconst (0), 1) := by decide +kernel
theorem d_MD_get_22 : decode M_MD_get.2.1 22 = .ok (.ireturn, 1) := by decide +kernel
theorem d_MD_get_23 : decode M_MD_get.2.1 23 = .ok (.aload_n 0, 1) := by decide +kernel
theorem d_MD_get_24 : decode M_MD_get.2.1 24 = .ok (.getfield 27, 3) := by decide +kernel
theorem d_MD_get_27 : decode M_MD_get.2.1 27 = .ok (.iload_n 1, 1) := by decide +kernel
theorem d_MD_get_28 : decode M_MD_get.2.1 28 = .ok (.iaload, 1) := by decide +kernel
theorem d_MD_get_29 : decode M_MD_get.2.1 29 = .ok (.iconst (1), 1) := by decide +kernel
theorem d_MD_get_30 : decode M_MD_get.2.1 30 = .ok (.if_icmp .ne (16), 3) := by decide +kernel
theorem d_MD_get_33 : decode M_MD_get.2.1 33 = .ok (.aload_n 0, 1) := by decide +kernel
theorem d_MD_get_34 : decode M_MD_get.2.1 34 = .ok (.getfield 30, 3) := by decide +kernel
theorem d_MD_get_37 : decode M_MD_get.2.1 37 = .ok (.iconst (4), 1) := by decide +kernel
theorem d_MD_get_38 : decode M_MD_get.2.1 38 = .ok (.iload_n 1, 1) := by decide +kernel
theorem d_MD_get_39 : decode M_MD_get.2.1 39 = .ok (.imul, 1) := by decide +kernel
theorem d_MD_get_40 : decode M_MD_get.2.1 40 = .ok (.iload_n 2, 1) := by decide +kernel
theorem d_MD_get_41 : decode M_MD_get.2.1 41 = .ok (.iadd, 1) := by decide +kernel
theorem d_MD_get_42 : decode M_MD_get.2.1 42 = .ok (.iaload, 1) := by decide +kernel
theorem d_MD_get_43 : decode M_MD_get.2.1 43 = .ok (.goto (31), 3) := by decide +kernel
theorem d_MD_get_46 : decode M_MD_get.2.1 46 = .ok (.aload_n 0, 1) := by decide +kernel
theorem d_MD_get_47 : decode M_MD_get.2.1 47 = .ok (.getfield 33, 3) := by decide +kernel
theorem d_MD_get_50 : decode M_MD_get.2.1 50 = .ok (.iload_n 1, 1) := by decide +kernel
theorem d_MD_get_51 : decode M_MD_get.2.1 51 = .ok (.baload, 1) := by decide +kernel
theorem d_MD_get_52 : decode M_MD_get.2.1 52 = .ok (.ifCond .eq (16), 3) := by decide +kernel
theorem d_MD_get_55 : decode M_MD_get.2.1 55 = .ok (.aload_n 0, 1) := by decide +kernel
theorem d_MD_get_56 : decode M_MD_get.2.1 56 = .ok (.getfield 37, 3) := by decide +kernel
theorem d_MD_get_59 : decode M_MD_get.2.1 59 = .ok (.iconst (4), 1) := by decide +kernel
theorem d_MD_get_60 : decode M_MD_get.2.1 60 = .ok (.iload_n 1, 1) := by decide +kernel
theorem d_MD_get_61 : decode M_MD_get.2.1 61 = .ok (.imul, 1) := by decide +kernel
theorem d_MD_get_62 : decode M_MD_get.2.1 62 = .ok (.iload_n 2, 1) := by decide +kernel
theorem d_MD_get_63 : decode M_MD_get.2.1 63 = .ok (.iadd, 1) := by decide +kernel
theorem d_MD_get_64 : decode M_MD_get.2.1 64 = .ok (.iaload, 1) := by decide +kernel
theorem d_MD_get_65 : decode M_MD_get.2.1 65 = .ok (.goto (9), 3) := by decide +kernel
theorem d_MD_get_68 : decode M_MD_get.2.1 68 = .ok (.aload_n 0, 1) := by decide +kernel
theorem d_MD_get_69 : decode M_MD_get.2.1 69 = .ok (.iload_n 1, 1) := by decide +kernel
theorem d_MD_get_70 : decode M_MD_get.2.1 70 = .ok (.iload_n 2, 1) := by decide +kernel
theorem d_MD_get_71 : decode M_MD_get.2.1 71 = .ok (.invokevirtual 65, 3) := by decide +kernel
theorem d_MD_get_74 : decode M_MD_get.2.1 74 = .ok (.ireturn, 1) := by decide +kernel
theorem d_MD_isBlock_0 : decode M_MD_isBlock.2.1 0 = .ok (.iload_n 0, 1) := by decide +kernel
theorem d_MD_isBlock_1 : decode M_MD_isBlock.2.1 1 = .ok (.ifCond .lt (13), 3) := by decide +kernel
theorem d_MD_isBlock_4 : decode M_MD_isBlock.2.1 4 = .ok (.iload_n 0, 1) := by decide +kernel
theorem d_MD_isBlock_5 : decode M_MD_isBlock.2.1 5 = .ok (.bipush (15), 2) := by decide +kernel
theorem d_MD_isBlock_7 : decode M_MD_isBlock.2.1 7 = .ok (.if_icmp .gt (7), 3) := by decide +kernel
theorem d_MD_isBlock_10 : decode M_MD_isBlock.2.1 10 = .ok (.iconst (1), 1) := by decide +kernel
theorem d_MD_isBlock_11 : decode M_MD_isBlock.2.1 11 = .ok (.goto (4), 3) := by decide +kernel
theorem d_MD_isBlock_14 : decode M_MD_isBlock.2.1 14 = .ok (.iconst (0), 1) := by decide +kernel
theorem d_MD_isBlock_15 : decode M_MD_isBlock.2.1 15 = .ok (.ireturn, 1) := by decide +kernel
theorem d_MD_isWord_0 : decode M_MD_isWord.2.1 0 = .ok (.iload_n 0, 1) := by decide +kernel
theorem d_MD_isWord_1 : decode M_MD_isWord.2.1 1 = .ok (.ifCond .lt (12), 3) := by decide +kernel
theorem d_MD_isWord_4 : decode M_MD_isWord.2.1 4 = .ok (.iload_n 0, 1) := by decide +kernel
theorem d_MD_isWord_5 : decode M_MD_isWord.2.1 5 = .ok (.iconst (3), 1) := by decide +kernel
theorem d_MD_isWord_6 : decode M_MD_isWord.2.1 6 = .ok (.if_icmp .gt (7), 3) := by decide +kernel
theorem d_MD_isWord_9 : decode M_MD_isWord.2.1 9 = .ok (.iconst (1), 1) := by decide +kernel
theorem d_MD_isWord_10 : decode M_MD_isWord.2.1 10 = .ok (.goto (4), 3) := by decide +kernel
theorem d_MD_isWord_13 : decode M_MD_isWord.2.1 13 = .ok (.iconst (0), 1) := by decide +kernel
theorem d_MD_isWord_14 : decode M_MD_isWord.2.1 14 = .ok (.ireturn, 1) := by decide +kernel
theorem d_MD_put_0 : decode M_MD_put.2.1 0 = .ok (.aload_n 0, 1) := by decide +kernel
theorem d_MD_put_1 : decode M_MD_put.2.1 1 = .ok (.invokevirtual 72, 3) := by decide +kernel
theorem d_MD_put_4 : decode M_MD_put.2.1 4 = .ok (.ifCond .eq (37), 3) := by decide +kernel
theorem d_MD_put_7 : decode M_MD_put.2.1 7 = .ok (.iload_n 1, 1) := by decide +kernel
theorem d_MD_put_8 : decode M_MD_put.2.1 8 = .ok (.invokestatic 58, 3) := by decide +kernel
theorem d_MD_put_11 : decode M_MD_put.2.1 11 = .ok (.ifCond .eq (30), 3) := by decide +kernel
theorem d_MD_put_14 : decode M_MD_put.2.1 14 = .ok (.iload_n 2, 1) := by decide +kernel
theorem d_MD_put_15 : decode M_MD_put.2.1 15 = .ok (.invokestatic 62, 3) := by decide +kernel
theorem d_MD_put_18 : decode M_MD_put.2.1 18 = .ok (.ifCond .eq (23), 3) := by decide +kernel
theorem d_MD_put_21 : decode M_MD_put.2.1 21 = .ok (.aload_n 0, 1) := by decide +kernel
theorem d_MD_put_22 : decode M_MD_put.2.1 22 = .ok (.getfield 27, 3) := by decide +kernel
theorem d_MD_put_25 : decode M_MD_put.2.1 25 = .ok (.iload_n 1, 1) := by decide +kernel
theorem d_MD_put_26 : decode M_MD_put.2.1 26 = .ok (.iaload, 1) := by decide +kernel
theorem d_MD_put_27 : decode M_MD_put.2.1 27 = .ok (.iconst (1), 1) := by decide +kernel
theorem d_MD_put_28 : decode M_MD_put.2.1 28 = .ok (.if_icmp .eq (15), 3) := by decide +kernel
theorem d_MD_put_31 : decode M_MD_put.2.1 31 = .ok (.aload_n 0, 1) := by decide +kernel
theorem d_MD_put_32 : decode M_MD_put.2.1 32 = .ok (.iconst (1), 1) := by decide +kernel
theorem d_MD_put_33 : decode M_MD_put.2.1 33 = .ok (.invokevirtual 76, 3) := by decide +kernel
theorem d_MD_put_36 : decode M_MD_put.2.1 36 = .ok (.bipush (8), 2) := by decide +kernel
theorem d_MD_put_38 : decode M_MD_put.2.1 38 = .ok (.if_icmp .lt (5), 3) := by decide +kernel
theorem d_MD_put_41 : decode M_MD_put.2.1 41 = .ok (.iconst (0), 1) := by decide +kernel
theorem d_MD_put_42 : decode M_MD_put.2.1 42 = .ok (.ireturn, 1) := by decide +kernel
theorem d_MD_put_43 : decode M_MD_put.2.1 43 = .ok (.iconst (0), 1) := by decide +kernel
theorem d_MD_put_44 : decode M_MD_put.2.1 44 = .ok (.istore 4, 2) := by decide +kernel
theorem d_MD_put_46 : decode M_MD_put.2.1 46 = .ok (.iload 4, 2) := by decide +kernel
theorem d_MD_put_48 : decode M_MD_put.2.1 48 = .ok (.iconst (4), 1) := by decide +kernel
theorem d_MD_put_49 : decode M_MD_put.2.1 49 = .ok (.if_icmp .ge (27), 3) := by decide +kernel
theorem d_MD_put_52 : decode M_MD_put.2.1 52 = .ok (.aload_n 0, 1) := by decide +kernel
theorem d_MD_put_53 : decode M_MD_put.2.1 53 = .ok (.getfield 30, 3) := by decide +kernel
theorem d_MD_put_56 : decode M_MD_put.2.1 56 = .ok (.iconst (4), 1) := by decide +kernel
theorem d_MD_put_57 : decode M_MD_put.2.1 57 = .ok (.iload_n 1, 1) := by decide +kernel
theorem d_MD_put_58 : decode M_MD_put.2.1 58 = .ok (.imul, 1) := by decide +kernel
theorem d_MD_put_59 : decode M_MD_put.2.1 59 = .ok (.iload 4, 2) := by decide +kernel
theorem d_MD_put_61 : decode M_MD_put.2.1 61 = .ok (.iadd, 1) := by decide +kernel
theorem d_MD_put_62 : decode M_MD_put.2.1 62 = .ok (.aload_n 0, 1) := by decide +kernel
theorem d_MD_put_63 : decode M_MD_put.2.1 63 = .ok (.iload_n 1, 1) := by decide +kernel
theorem d_MD_put_64 : decode M_MD_put.2.1 64 = .ok (.iload 4, 2) := by decide +kernel
theorem d_MD_put_66 : decode M_MD_put.2.1 66 = .ok (.invokevirtual 80, 3) := by decide +kernel
theorem d_MD_put_69 : decode M_MD_put.2.1 69 = .ok (.iastore, 1) := by decide +kernel
theorem d_MD_put_70 : decode M_MD_put.2.1 70 = .ok (.iinc 4 (1), 3) := by decide +kernel
theorem d_MD_put_73 : decode M_MD_put.2.1 73 = .ok (.goto (-27), 3) := by decide +kernel
theorem d_MD_put_76 : decode M_MD_put.2.1 76 = .ok (.aload_n 0, 1) := by decide +kernel
theorem d_MD_put_77 : decode M_MD_put.2.1 77 = .ok (.getfield 27, 3) := by decide +kernel
theorem d_MD_put_80 : decode M_MD_put.2.1 80 = .ok (.iload_n 1, 1) := by decide +kernel
theorem d_MD_put_81 : decode M_MD_put.2.1 81 = .ok (.iconst (1), 1) := by decide +kernel
theorem d_MD_put_82 : decode M_MD_put.2.1 82 = .ok (.iastore, 1) := by decide +kernel
theorem d_MD_put_83 : decode M_MD_put.2.1 83 = .ok (.aload_n 0, 1) := by decide +kernel
theorem d_MD_put_84 : decode M_MD_put.2.1 84 = .ok (.getfield 30, 3) := by decide +kernel
theorem d_MD_put_87 : decode M_MD_put.2.1 87 = .ok (.iconst (4), 1) := by decide +kernel
theorem d_MD_put_88 : decode M_MD_put.2.1 88 = .ok (.iload_n 1, 1) := by decide +kernel
theorem d_MD_put_89 : decode M_MD_put.2.1 89 = .ok (.imul, 1) := by decide +kernel
theorem d_MD_put_90 : decode M_MD_put.2.1 90 = .ok (.iload_n 2, 1) := by decide +kernel
theorem d_MD_put_91 : decode M_MD_put.2.1 91 = .ok (.iadd, 1) := by decide +kernel
theorem d_MD_put_92 : decode M_MD_put.2.1 92 = .ok (.iload_n 3, 1) := by decide +kernel
theorem d_MD_put_93 : decode M_MD_put.2.1 93 = .ok (.iastore, 1) := by decide +kernel
theorem d_MD_put_94 : decode M_MD_put.2.1 94 = .ok (.iconst (1), 1) := by decide +kernel
theorem d_MD_put_95 : decode M_MD_put.2.1 95 = .ok (.ireturn, 1) := by decide +kernel
theorem d_MD_idle_0 : decode M_MD_idle.2.1 0 = .ok (.aload_n 0, 1) := by decide +kernel
theorem d_MD_idle_1 : decode M_MD_idle.2.1 1 = .ok (.getfield 19, 3) := by decide +kernel
theorem d_MD_idle_4 : decode M_MD_idle.2.1 4 = .ok (.ifCond .eq (14), 3) := by decide +kernel
theorem d_MD_idle_7 : decode M_MD_idle.2.1 7 = .ok (.aload_n 0, 1) := by decide +kernel
theorem d_MD_idle_8 : decode M_MD_idle.2.1 8 = .ok (.getfield 69, 3) := by decide +kernel
theorem d_MD_idle_11 : decode M_MD_idle.2.1 11 = .ok (.ifCond .ne (7), 3) := by decide +kernel
theorem d_MD_idle_14 : decode M_MD_idle.2.1 14 = .ok (.iconst (1), 1) := by decide +kernel
theorem d_MD_idle_15 : decode M_MD_idle.2.1 15 = .ok (.goto (4), 3) := by decide +kernel
theorem d_MD_idle_18 : decode M_MD_idle.2.1 18 = .ok (.iconst (0), 1) := by decide +kernel
theorem d_MD_idle_19 : decode M_MD_idle.2.1 19 = .ok (.ireturn, 1) := by decide +kernel
theorem d_MD_revoke_0 : decode M_MD_revoke.2.1 0 = .ok (.aload_n 0, 1) := by decide +kernel
theorem d_MD_revoke_1 : decode M_MD_revoke.2.1 1 = .ok (.invokevirtual 72, 3) := by decide +kernel
theorem d_MD_revoke_4 : decode M_MD_revoke.2.1 4 = .ok (.ifCond .eq (10), 3) := by decide +kernel
theorem d_MD_revoke_7 : decode M_MD_revoke.2.1 7 = .ok (.iload_n 1, 1) := by decide +kernel
theorem d_MD_revoke_8 : decode M_MD_revoke.2.1 8 = .ok (.invokestatic 58, 3) := by decide +kernel
theorem d_MD_revoke_11 : decode M_MD_revoke.2.1 11 = .ok (.ifCond .ne (5), 3) := by decide +kernel
theorem d_MD_revoke_14 : decode M_MD_revoke.2.1 14 = .ok (.iconst (0), 1) := by decide +kernel
theorem d_MD_revoke_15 : decode M_MD_revoke.2.1 15 = .ok (.ireturn, 1) := by decide +kernel
theorem d_MD_revoke_16 : decode M_MD_revoke.2.1 16 = .ok (.aload_n 0, 1) := by decide +kernel
theorem d_MD_revoke_17 : decode M_MD_revoke.2.1 17 = .ok (.getfield 27, 3) := by decide +kernel
theorem d_MD_revoke_20 : decode M_MD_revoke.2.1 20 = .ok (.iload_n 1, 1) := by decide +kernel
theorem d_MD_revoke_21 : decode M_MD_revoke.2.1 21 = .ok (.iconst (2), 1) := by decide +kernel
theorem d_MD_revoke_22 : decode M_MD_revoke.2.1 22 = .ok (.iastore, 1) := by decide +kernel
theorem d_MD_revoke_23 : decode M_MD_revoke.2.1 23 = .ok (.iconst (1), 1) := by decide +kernel
theorem d_MD_revoke_24 : decode M_MD_revoke.2.1 24 = .ok (.ireturn, 1) := by decide +kernel
theorem d_MD_direct_0 : decode M_MD_direct.2.1 0 = .ok (.aload_n 0, 1) := by decide +kernel
theorem d_MD_direct_1 : decode M_MD_direct.2.1 1 = .ok (.invokevirtual 72, 3) := by decide +kernel
theorem d_MD_direct_4 : decode M_MD_direct.2.1 4 = .ok (.ifCond .eq (45), 3) := by decide +kernel
theorem d_MD_direct_7 : decode M_MD_direct.2.1 7 = .ok (.iload_n 1, 1) := by decide +kernel
theorem d_MD_direct_8 : decode M_MD_direct.2.1 8 = .ok (.invokestatic 58, 3) := by decide +kernel
theorem d_MD_direct_11 : decode M_MD_direct.2.1 11 = .ok (.ifCond .eq (38), 3) := by decide +kernel
theorem d_MD_direct_14 : decode M_MD_direct.2.1 14 = .ok (.iload_n 2, 1) := by decide +kernel
theorem d_MD_direct_15 : decode M_MD_direct.2.1 15 = .ok (.invokestatic 62, 3) := by decide +kernel
theorem d_MD_direct_18 : decode M_MD_direct.2.1 18 = .ok (.ifCond .eq (31), 3) := by decide +kernel
theorem d_MD_direct_21 : decode M_MD_direct.2.1 21 = .ok (.aload_n 0, 1) := by decide +kernel
theorem d_MD_direct_22 : decode M_MD_direct.2.1 22 = .ok (.getfield 27, 3) := by decide +kernel
theorem d_MD_direct_25 : decode M_MD_direct.2.1 25 = .ok (.iload_n 1, 1) := by decide +kernel
theorem d_MD_direct_26 : decode M_MD_direct.2.1 26 = .ok (.iaload, 1) := by decide +kernel
theorem d_MD_direct_27 : decode M_MD_direct.2.1 27 = .ok (.iconst (1), 1) := by decide +kernel
theorem d_MD_direct_28 : decode M_MD_direct.2.1 28 = .ok (.if_icmp .eq (21), 3) := by decide +kernel
theorem d_MD_direct_31 : decode M_MD_direct.2.1 31 = .ok (.aload_n 0, 1) := by decide +kernel
theorem d_MD_direct_32 : decode M_MD_direct.2.1 32 = .ok (.getfield 33, 3) := by decide +kernel
theorem d_MD_direct_35 : decode M_MD_direct.2.1 35 = .ok (.iload_n 1, 1) := by decide +kernel
theorem d_MD_direct_36 : decode M_MD_direct.2.1 36 = .ok (.baload, 1) := by decide +kernel
theorem d_MD_direct_37 : decode M_MD_direct.2.1 37 = .ok (.ifCond .ne (12), 3) := by decide +kernel
theorem d_MD_direct_40 : decode M_MD_direct.2.1 40 = .ok (.aload_n 0, 1) := by decide +kernel
theorem d_MD_direct_41 : decode M_MD_direct.2.1 41 = .ok (.getfield 50, 3) := by decide +kernel
theorem d_MD_direct_44 : decode M_MD_direct.2.1 44 = .ok (.bipush (12), 2) := by decide +kernel
theorem d_MD_direct_46 : decode M_MD_direct.2.1 46 = .ok (.if_icmp .lt (5), 3) := by decide +kernel
theorem d_MD_direct_49 : decode M_MD_direct.2.1 49 = .ok (.iconst (0), 1) := by decide +kernel
theorem d_MD_direct_50 : decode M_MD_direct.2.1 50 = .ok (.ireturn, 1) := by decide +kernel
theorem d_MD_direct_51 : decode M_MD_direct.2.1 51 = .ok (.iconst (0), 1) := by decide +kernel
theorem d_MD_direct_52 : decode M_MD_direct.2.1 52 = .ok (.istore 4, 2) := by decide +kernel
theorem d_MD_direct_54 : decode M_MD_direct.2.1 54 = .ok (.iload 4, 2) := by decide +kernel
theorem d_MD_direct_56 : decode M_MD_direct.2.1 56 = .ok (.iconst (4), 1) := by decide +kernel
theorem d_MD_direct_57 : decode M_MD_direct.2.1 57 = .ok (.if_icmp .ge (23), 3) := by decide +kernel
theorem d_MD_direct_60 : decode M_MD_direct.2.1 60 = .ok (.aload_n 0, 1) := by decide +kernel
theorem d_MD_direct_61 : decode M_MD_direct.2.1 61 = .ok (.getfield 40, 3) := by decide +kernel
theorem d_MD_direct_64 : decode M_MD_direct.2.1 64 = .ok (.iload 4, 2) := by decide +kernel
theorem d_MD_direct_66 : decode M_MD_direct.2.1 66 = .ok (.aload_n 0, 1) := by decide +kernel
theorem d_MD_direct_67 : decode M_MD_direct.2.1 67 = .ok (.iload_n 1, 1) := by decide +kernel
theorem d_MD_direct_68 : decode M_MD_direct.2.1 68 = .ok (.iload 4, 2) := by decide +kernel
theorem d_MD_direct_70 : decode M_MD_direct.2.1 70 = .ok (.invokevirtual 65, 3) := by decide +kernel
theorem d_MD_direct_73 : decode M_MD_direct.2.1 73 = .ok (.iastore, 1) := by decide +kernel
theorem d_MD_direct_74 : decode M_MD_direct.2.1 74 = .ok (.iinc 4 (1), 3) := by decide +kernel
theorem d_MD_direct_77 : decode M_MD_direct.2.1 77 = .ok (.goto (-23), 3) := by decide +kernel
theorem d_MD_direct_80 : decode M_MD_direct.2.1 80 = .ok (.aload_n 0, 1) := by decide +kernel
theorem d_MD_direct_81 : decode M_MD_direct.2.1 81 = .ok (.getfield 40, 3) := by decide +kernel
theorem d_MD_direct_84 : decode M_MD_direct.2.1 84 = .ok (.iload_n 2, 1) := by decide +kernel
theorem d_MD_direct_85 : decode M_MD_direct.2.1 85 = .ok (.iload_n 3, 1) := by decide +kernel
theorem d_MD_direct_86 : decode M_MD_direct.2.1 86 = .ok (.iastore, 1) := by decide +kernel
theorem d_MD_direct_87 : decode M_MD_direct.2.1 87 = .ok (.aload_n 0, 1) := by decide +kernel
theorem d_MD_direct_88 : decode M_MD_direct.2.1 88 = .ok (.iload_n 1, 1) := by decide +kernel
theorem d_MD_direct_89 : decode M_MD_direct.2.1 89 = .ok (.invokevirtual 83, 3) := by decide +kernel
theorem d_MD_direct_92 : decode M_MD_direct.2.1 92 = .ok (.iconst (1), 1) := by decide +kernel
theorem d_MD_direct_93 : decode M_MD_direct.2.1 93 = .ok (.ireturn, 1) := by decide +kernel
theorem d_MD_changed_0 : decode M_MD_changed.2.1 0 = .ok (.aload_n 0, 1) := by decide +kernel
theorem d_MD_changed_1 : decode M_MD_changed.2.1 1 = .ok (.getfield 19, 3) := by decide +kernel
theorem d_MD_changed_4 : decode M_MD_changed.2.1 4 = .ok (.ifCond .eq (34), 3) := by decide +kernel
theorem d_MD_changed_7 : decode M_MD_changed.2.1 7 = .ok (.iload_n 1, 1) := by decide +kernel
theorem d_MD_changed_8 : decode M_MD_changed.2.1 8 = .ok (.invokestatic 58, 3) := by decide +kernel
theorem d_MD_changed_11 : decode M_MD_changed.2.1 11 = .ok (.ifCond .eq (27), 3) := by decide +kernel
theorem d_MD_changed_14 : decode M_MD_changed.2.1 14 = .ok (.aload_n 0, 1) := by decide +kernel
theorem d_MD_changed_15 : decode M_MD_changed.2.1 15 = .ok (.getfield 27, 3) := by decide +kernel
theorem d_MD_changed_18 : decode M_MD_changed.2.1 18 = .ok (.iload_n 1, 1) := by decide +kernel
theorem d_MD_changed_19 : decode M_MD_changed.2.1 19 = .ok (.iaload, 1) := by decide +kernel
theorem d_MD_changed_20 : decode M_MD_changed.2.1 20 = .ok (.aload_n 0, 1) := by decide +kernel
theorem d_MD_changed_21 : decode M_MD_changed.2.1 21 = .ok (.getfield 33, 3) := by decide +kernel
theorem d_MD_changed_24 : decode M_MD_changed.2.1 24 = .ok (.iload_n 1, 1) := by decide +kernel
theorem d_MD_changed_25 : decode M_MD_changed.2.1 25 = .ok (.baload, 1) := by decide +kernel
theorem d_MD_changed_26 : decode M_MD_changed.2.1 26 = .ok (.ifCond .eq (7), 3) := by decide +kernel
theorem d_MD_changed_29 : decode M_MD_changed.2.1 29 = .ok (.iconst (4), 1) := by decide +kernel
theorem d_MD_changed_30 : decode M_MD_changed.2.1 30 = .ok (.goto (4), 3) := by decide +kernel
theorem d_MD_changed_33 : decode M_MD_changed.2.1 33 = .ok (.iconst (0), 1) := by decide +kernel
theorem d_MD_changed_34 : decode M_MD_changed.2.1 34 = .ok (.iadd, 1) := by decide +kernel
theorem d_MD_changed_35 : decode M_MD_changed.2.1 35 = .ok (.goto (4), 3) := by decide +kernel
theorem d_MD_changed_38 : decode M_MD_changed.2.1 38 = .ok (.iconst (-1), 1) := by decide +kernel
theorem d_MD_changed_39 : decode M_MD_changed.2.1 39 = .ok (.ireturn, 1) := by decide +kernel
theorem d_MD_rowLength_0 : decode M_MD_rowLength.2.1 0 = .ok (.aload_n 0, 1) := by decide +kernel
theorem d_MD_rowLength_1 : decode M_MD_rowLength.2.1 1 = .ok (.iconst (1), 1) := by decide +kernel
theorem d_MD_rowLength_2 : decode M_MD_rowLength.2.1 2 = .ok (.invokevirtual 76, 3) := by decide +kernel
theorem d_MD_rowLength_5 : decode M_MD_rowLength.2.1 5 = .ok (.istore_n 1, 1) := by decide +kernel
theorem d_MD_rowLength_6 : decode M_MD_rowLength.2.1 6 = .ok (.iload_n 1, 1) := by decide +kernel
theorem d_MD_rowLength_7 : decode M_MD_rowLength.2.1 7 = .ok (.iload_n 1, 1) := by decide +kernel
theorem d_MD_rowLength_8 : decode M_MD_rowLength.2.1 8 = .ok (.iconst (3), 1) := by decide +kernel
theorem d_MD_rowLength_9 : decode M_MD_rowLength.2.1 9 = .ok (.iadd, 1) := by decide +kernel
theorem d_MD_rowLength_10 : decode M_MD_rowLength.2.1 10 = .ok (.iconst (4), 1) := by decide +kernel
theorem d_MD_rowLength_11 : decode M_MD_rowLength.2.1 11 = .ok (.idiv, 1) := by decide +kernel
theorem d_MD_rowLength_12 : decode M_MD_rowLength.2.1 12 = .ok (.iadd, 1) := by decide +kernel
theorem d_MD_rowLength_13 : decode M_MD_rowLength.2.1 13 = .ok (.aload_n 0, 1) := by decide +kernel
theorem d_MD_rowLength_14 : decode M_MD_rowLength.2.1 14 = .ok (.iconst (2), 1) := by decide +kernel
theorem d_MD_rowLength_15 : decode M_MD_rowLength.2.1 15 = .ok (.invokevirtual 76, 3) := by decide +kernel
theorem d_MD_rowLength_18 : decode M_MD_rowLength.2.1 18 = .ok (.ifCond .le (7), 3) := by decide +kernel
theorem d_MD_rowLength_21 : decode M_MD_rowLength.2.1 21 = .ok (.iconst (1), 1) := by decide +kernel
theorem d_MD_rowLength_22 : decode M_MD_rowLength.2.1 22 = .ok (.goto (4), 3) := by decide +kernel
theorem d_MD_rowLength_25 : decode M_MD_rowLength.2.1 25 = .ok (.iconst (0), 1) := by decide +kernel
theorem d_MD_rowLength_26 : decode M_MD_rowLength.2.1 26 = .ok (.iadd, 1) := by decide +kernel
theorem d_MD_rowLength_27 : decode M_MD_rowLength.2.1 27 = .ok (.iconst (1), 1) := by decide +kernel
theorem d_MD_rowLength_28 : decode M_MD_rowLength.2.1 28 = .ok (.iadd, 1) := by decide +kernel
theorem d_MD_rowLength_29 : decode M_MD_rowLength.2.1 29 = .ok (.ireturn, 1) := by decide +kernel
theorem d_MD_imageBlock_0 : decode M_MD_imageBlock.2.1 0 = .ok (.iconst (0), 1) := by decide +kernel
theorem d_MD_imageBlock_1 : decode M_MD_imageBlock.2.1 1 = .ok (.istore_n 2, 1) := by decide +kernel
theorem d_MD_imageBlock_2 : decode M_MD_imageBlock.2.1 2 = .ok (.iconst (0), 1) := by decide +kernel
theorem d_MD_imageBlock_3 : decode M_MD_imageBlock.2.1 3 = .ok (.istore_n 3, 1) := by decide +kernel
theorem d_MD_imageBlock_4 : decode M_MD_imageBlock.2.1 4 = .ok (.iconst (0), 1) := by decide +kernel
theorem d_MD_imageBlock_5 : decode M_MD_imageBlock.2.1 5 = .ok (.istore 4, 2) := by decide +kernel
theorem d_MD_imageBlock_7 : decode M_MD_imageBlock.2.1 7 = .ok (.iload 4, 2) := by decide +kernel
theorem d_MD_imageBlock_9 : decode M_MD_imageBlock.2.1 9 = .ok (.bipush (16), 2) := by decide +kernel
theorem d_MD_imageBlock_11 : decode M_MD_imageBlock.2.1 11 = .ok (.if_icmp .ge (36), 3) := by decide +kernel
theorem d_MD_imageBlock_14 : decode M_MD_imageBlock.2.1 14 = .ok (.aload_n 0, 1) := by decide +kernel
theorem d_MD_imageBlock_15 : decode M_MD_imageBlock.2.1 15 = .ok (.getfield 27, 3) := by decide +kernel
theorem d_MD_imageBlock_18 : decode M_MD_imageBlock.2.1 18 = .ok (.iload 4, 2) := by decide +kernel
theorem d_MD_imageBlock_20 : decode M_MD_imageBlock.2.1 20 = .ok (.iaload, 1) := by decide +kernel
theorem d_MD_imageBlock_21 : decode M_MD_imageBlock.2.1 21 = .ok (.iconst (1), 1) := by decide +kernel
theorem d_MD_imageBlock_22 : decode M_MD_imageBlock.2.1 22 = .ok (.if_icmp .ne (19), 3) := by decide +kernel
theorem d_MD_imageBlock_25 : decode M_MD_imageBlock.2.1 25 = .ok (.iload_n 2, 1) := by decide +kernel
theorem d_MD_imageBlock_26 : decode M_MD_imageBlock.2.1 26 = .ok (.iload_n 1, 1) := by decide +kernel
theorem d_MD_imageBlock_27 : decode M_MD_imageBlock.2.1 27 = .ok (.if_icmp .ne (8), 3) := by decide +kernel
theorem d_MD_imageBlock_30 : decode M_MD_imageBlock.2.1 30 = .ok (.iload 4, 2) := by decide +kernel
theorem d_MD_imageBlock_32 : decode M_MD_imageBlock.2.1 32 = .ok (.goto (4), 3) := by decide +kernel
theorem d_MD_imageBlock_35 : decode M_MD_imageBlock.2.1 35 = .ok (.iload_n 3, 1) := by decide +kernel
theorem d_MD_imageBlock_36 : decode M_MD_imageBlock.2.1 36 = .ok (.istore_n 3, 1) := by decide +kernel
theorem d_MD_imageBlock_37 : decode M_MD_imageBlock.2.1 37 = .ok (.iload_n 2, 1) := by decide +kernel
theorem d_MD_imageBlock_38 : decode M_MD_imageBlock.2.1 38 = .ok (.iconst (1), 1) := by decide +kernel
theorem d_MD_imageBlock_39 : decode M_MD_imageBlock.2.1 39 = .ok (.iadd, 1) := by decide +kernel
theorem d_MD_imageBlock_40 : decode M_MD_imageBlock.2.1 40 = .ok (.istore_n 2, 1) := by decide +kernel
theorem d_MD_imageBlock_41 : decode M_MD_imageBlock.2.1 41 = .ok (.iinc 4 (1), 3) := by decide +kernel
theorem d_MD_imageBlock_44 : decode M_MD_imageBlock.2.1 44 = .ok (.goto (-37), 3) := by decide +kernel
theorem d_MD_imageBlock_47 : decode M_MD_imageBlock.2.1 47 = .ok (.iload_n 3, 1) := by decide +kernel
theorem d_MD_imageBlock_48 : decode M_MD_imageBlock.2.1 48 = .ok (.ireturn, 1) := by decide +kernel
theorem d_MD_groupWord_0 : decode M_MD_groupWord.2.1 0 = .ok (.iload_n 2, 1) := by decide +kernel
theorem d_MD_groupWord_1 : decode M_MD_groupWord.2.1 1 = .ok (.iconst (4), 1) := by decide +kernel
theorem d_MD_groupWord_2 : decode M_MD_groupWord.2.1 2 = .ok (.iload_n 1, 1) := by decide +kernel
theorem d_MD_groupWord_3 : decode M_MD_groupWord.2.1 3 = .ok (.imul, 1) := by decide +kernel
theorem d_MD_groupWord_4 : decode M_MD_groupWord.2.1 4 = .ok (.isub, 1) := by decide +kernel
theorem d_MD_groupWord_5 : decode M_MD_groupWord.2.1 5 = .ok (.iconst (4), 1) := by decide +kernel
theorem d_MD_groupWord_6 : decode M_MD_groupWord.2.1 6 = .ok (.if_icmp .ge (11), 3) := by decide +kernel
theorem d_MD_groupWord_9 : decode M_MD_groupWord.2.1 9 = .ok (.iload_n 2, 1) := by decide +kernel
theorem d_MD_groupWord_10 : decode M_MD_groupWord.2.1 10 = .ok (.iconst (4), 1) := by decide +kernel
theorem d_MD_groupWord_11 : decode M_MD_groupWord.2.1 11 = .ok (.iload_n 1, 1) := by decide +kernel
theorem d_MD_groupWord_12 : decode M_MD_groupWord.2.1 12 = .ok (.imul, 1) := by decide +kernel
theorem d_MD_groupWord_13 : decode M_MD_groupWord.2.1 13 = .ok (.isub, 1) := by decide +kernel
theorem d_MD_groupWord_14 : decode M_MD_groupWord.2.1 14 = .ok (.goto (4), 3) := by decide +kernel
theorem d_MD_groupWord_17 : decode M_MD_groupWord.2.1 17 = .ok (.iconst (4), 1) := by decide +kernel
theorem d_MD_groupWord_18 : decode M_MD_groupWord.2.1 18 = .ok (.istore_n 3, 1) := by decide +kernel
theorem d_MD_groupWord_19 : decode M_MD_groupWord.2.1 19 = .ok (.iload_n 3, 1) := by decide +kernel
theorem d_MD_groupWord_20 : decode M_MD_groupWord.2.1 20 = .ok (.istore 4, 2) := by decide +kernel
theorem d_MD_groupWord_22 : decode M_MD_groupWord.2.1 22 = .ok (.iconst (0), 1) := by decide +kernel
theorem d_MD_groupWord_23 : decode M_MD_groupWord.2.1 23 = .ok (.istore 5, 2) := by decide +kernel
theorem d_MD_groupWord_25 : decode M_MD_groupWord.2.1 25 = .ok (.iload 5, 2) := by decide +kernel
theorem d_MD_groupWord_27 : decode M_MD_groupWord.2.1 27 = .ok (.iload_n 3, 1) := by decide +kernel
theorem d_MD_groupWord_28 : decode M_MD_groupWord.2.1 28 = .ok (.if_icmp .ge (61), 3) := by decide +kernel
theorem d_MD_groupWord_31 : decode M_MD_groupWord.2.1 31 = .ok (.aload_n 0, 1) := by decide +kernel
theorem d_MD_groupWord_32 : decode M_MD_groupWord.2.1 32 = .ok (.iconst (4), 1) := by decide +kernel
theorem d_MD_groupWord_33 : decode M_MD_groupWord.2.1 33 = .ok (.iload_n 1, 1) := by decide +kernel
theorem d_MD_groupWord_34 : decode M_MD_groupWord.2.1 34 = .ok (.imul, 1) := by decide +kernel
theorem d_MD_groupWord_35 : decode M_MD_groupWord.2.1 35 = .ok (.iload 5, 2) := by decide +kernel
theorem d_MD_groupWord_37 : decode M_MD_groupWord.2.1 37 = .ok (.iadd, 1) := by decide +kernel
theorem d_MD_groupWord_38 : decode M_MD_groupWord.2.1 38 = .ok (.invokevirtual 87, 3) := by decide +kernel
theorem d_MD_groupWord_41 : decode M_MD_groupWord.2.1 41 = .ok (.istore 6, 2) := by decide +kernel
theorem d_MD_groupWord_43 : decode M_MD_groupWord.2.1 43 = .ok (.aload_n 0, 1) := by decide +kernel
theorem d_MD_groupWord_44 : decode M_MD_groupWord.2.1 44 = .ok (.getfield 30, 3) := by decide +kernel
theorem d_MD_groupWord_47 : decode M_MD_groupWord.2.1 47 = .ok (.iconst (4), 1) := by decide +kernel
theorem d_MD_groupWord_48 : decode M_MD_groupWord.2.1 48 = .ok (.iload 6, 2) := by decide +kernel
theorem d_MD_groupWord_50 : decode M_MD_groupWord.2.1 50 = .ok (.imul, 1) := by decide +kernel
theorem d_MD_groupWord_51 : decode M_MD_groupWord.2.1 51 = .ok (.iaload, 1) := by decide +kernel
theorem d_MD_groupWord_52 : decode M_MD_groupWord.2.1 52 = .ok (.ldc 49, 2) := by decide +kernel
theorem d_MD_groupWord_54 : decode M_MD_groupWord.2.1 54 = .ok (.if_icmp .ne (11), 3) := by decide +kernel
theorem d_MD_groupWord_57 : decode M_MD_groupWord.2.1 57 = .ok (.iload 6, 2) := by decide +kernel
theorem d_MD_groupWord_59 : decode M_MD_groupWord.2.1 59 = .ok (.bipush (16), 2) := by decide +kernel
theorem d_MD_groupWord_61 : decode M_MD_groupWord.2.1 61 = .ok (.iadd, 1) := by decide +kernel
theorem d_MD_groupWord_62 : decode M_MD_groupWord.2.1 62 = .ok (.goto (5), 3) := by decide +kernel
theorem d_MD_groupWord_65 : decode M_MD_groupWord.2.1 65 = .ok (.iload 6, 2) := by decide +kernel
theorem d_MD_groupWord_67 : decode M_MD_groupWord.2.1 67 = .ok (.istore 7, 2) := by decide +kernel
theorem d_MD_groupWord_69 : decode M_MD_groupWord.2.1 69 = .ok (.iload 4, 2) := by decide +kernel
theorem d_MD_groupWord_71 : decode M_MD_groupWord.2.1 71 = .ok (.iload 7, 2) := by decide +kernel
theorem d_MD_groupWord_73 : decode M_MD_groupWord.2.1 73 = .ok (.iconst (3), 1) := by decide +kernel
theorem d_MD_groupWord_74 : decode M_MD_groupWord.2.1 74 = .ok (.iconst (5), 1) := by decide +kernel
theorem d_MD_groupWord_75 : decode M_MD_groupWord.2.1 75 = .ok (.iload 5, 2) := by decide +kernel
theorem d_MD_groupWord_77 : decode M_MD_groupWord.2.1 77 = .ok (.imul, 1) := by decide +kernel
theorem d_MD_groupWord_78 : decode M_MD_groupWord.2.1 78 = .ok (.iadd, 1) := by decide +kernel
theorem d_MD_groupWord_79 : decode M_MD_groupWord.2.1 79 = .ok (.ishl, 1) := by decide +kernel
theorem d_MD_groupWord_80 : decode M_MD_groupWord.2.1 80 = .ok (.iadd, 1) := by decide +kernel
theorem d_MD_groupWord_81 : decode M_MD_groupWord.2.1 81 = .ok (.istore 4, 2) := by decide +kernel
theorem d_MD_groupWord_83 : decode M_MD_groupWord.2.1 83 = .ok (.iinc 5 (1), 3) := by decide +kernel
theorem d_MD_groupWord_86 : decode M_MD_groupWord.2.1 86 = .ok (.goto (-61), 3) := by decide +kernel
theorem d_MD_groupWord_89 : decode M_MD_groupWord.2.1 89 = .ok (.iload 4, 2) := by decide +kernel
theorem d_MD_groupWord_91 : decode M_MD_groupWord.2.1 91 = .ok (.ireturn, 1) := by decide +kernel
theorem d_MD_revocationWord_0 : decode M_MD_revocationWord.2.1 0 = .ok (.iconst (0), 1) := by decide +kernel
theorem d_MD_revocationWord_1 : decode M_MD_revocationWord.2.1 1 = .ok (.istore_n 1, 1) := by decide +kernel
theorem d_MD_revocationWord_2 : decode M_MD_revocationWord.2.1 2 = .ok (.iconst (0), 1) := by decide +kernel
theorem d_MD_revocationWord_3 : decode M_MD_revocationWord.2.1 3 = .ok (.istore_n 2, 1) := by decide +kernel
theorem d_MD_revocationWord_4 : decode M_MD_revocationWord.2.1 4 = .ok (.iload_n 2, 1) := by decide +kernel
theorem d_MD_revocationWord_5 : decode M_MD_revocationWord.2.1 5 = .ok (.bipush (16), 2) := by decide +kernel
theorem d_MD_revocationWord_7 : decode M_MD_revocationWord.2.1 7 = .ok (.if_icmp .ge (29), 3) := by decide +kernel
theorem d_MD_revocationWord_10 : decode M_MD_revocationWord.2.1 10 = .ok (.aload_n 0, 1) := by decide +kernel
theorem d_MD_revocationWord_11 : decode M_MD_revocationWord.2.1 11 = .ok (.getfield 27, 3) := by decide +kernel
theorem d_MD_revocationWord_14 : decode M_MD_revocationWord.2.1 14 = .ok (.iload_n 2, 1) := by decide +kernel
theorem d_MD_revocationWord_15 : decode M_MD_revocationWord.2.1 15 = .ok (.iaload, 1) := by decide +kernel
theorem d_MD_revocationWord_16 : decode M_MD_revocationWord.2.1 16 = .ok (.iconst (2), 1) := by decide +kernel
theorem d_MD_revocationWord_17 : decode M_MD_revocationWord.2.1 17 = .ok (.if_icmp .ne (11), 3) := by decide +kernel
theorem d_MD_revocationWord_20 : decode M_MD_revocationWord.2.1 20 = .ok (.iload_n 1, 1) := by decide +kernel
theorem d_MD_revocationWord_21 : decode M_MD_revocationWord.2.1 21 = .ok (.iconst (1), 1) := by decide +kernel
theorem d_MD_revocationWord_22 : decode M_MD_revocationWord.2.1 22 = .ok (.iload_n 2, 1) := by decide +kernel
theorem d_MD_revocationWord_23 : decode M_MD_revocationWord.2.1 23 = .ok (.ishl, 1) := by decide +kernel
theorem d_MD_revocationWord_24 : decode M_MD_revocationWord.2.1 24 = .ok (.ior, 1) := by decide +kernel
theorem d_MD_revocationWord_25 : decode M_MD_revocationWord.2.1 25 = .ok (.goto (4), 3) := by decide +kernel
theorem d_MD_revocationWord_28 : decode M_MD_revocationWord.2.1 28 = .ok (.iload_n 1, 1) := by decide +kernel
theorem d_MD_revocationWord_29 : decode M_MD_revocationWord.2.1 29 = .ok (.istore_n 1, 1) := by decide +kernel
theorem d_MD_revocationWord_30 : decode M_MD_revocationWord.2.1 30 = .ok (.iinc 2 (1), 3) := by decide +kernel
theorem d_MD_revocationWord_33 : decode M_MD_revocationWord.2.1 33 = .ok (.goto (-29), 3) := by decide +kernel
theorem d_MD_revocationWord_36 : decode M_MD_revocationWord.2.1 36 = .ok (.iload_n 1, 1) := by decide +kernel
theorem d_MD_revocationWord_37 : decode M_MD_revocationWord.2.1 37 = .ok (.ireturn, 1) := by decide +kernel
theorem d_MD_body_0 : decode M_MD_body.2.1 0 = .ok (.aload_n 0, 1) := by decide +kernel
theorem d_MD_body_1 : decode M_MD_body.2.1 1 = .ok (.iconst (1), 1) := by decide +kernel
theorem d_MD_body_2 : decode M_MD_body.2.1 2 = .ok (.invokevirtual 76, 3) := by decide +kernel
theorem d_MD_body_5 : decode M_MD_body.2.1 5 = .ok (.istore_n 2, 1) := by decide +kernel
theorem d_MD_body_6 : decode M_MD_body.2.1 6 = .ok (.iload_n 1, 1) := by decide +kernel
theorem d_MD_body_7 : decode M_MD_body.2.1 7 = .ok (.iload_n 2, 1) := by decide +kernel
theorem d_MD_body_8 : decode M_MD_body.2.1 8 = .ok (.iload_n 2, 1) := by decide +kernel
theorem d_MD_body_9 : decode M_MD_body.2.1 9 = .ok (.iconst (3), 1) := by decide +kernel
theorem d_MD_body_10 : decode M_MD_body.2.1 10 = .ok (.iadd, 1) := by decide +kernel
theorem d_MD_body_11 : decode M_MD_body.2.1 11 = .ok (.iconst (4), 1) := by decide +kernel
theorem d_MD_body_12 : decode M_MD_body.2.1 12 = .ok (.idiv, 1) := by decide +kernel
theorem d_MD_body_13 : decode M_MD_body.2.1 13 = .ok (.iadd, 1) := by decide +kernel
theorem d_MD_body_14 : decode M_MD_body.2.1 14 = .ok (.if_icmp .lt (21), 3) := by decide +kernel
theorem d_MD_body_17 : decode M_MD_body.2.1 17 = .ok (.aload_n 0, 1) := by decide +kernel
theorem d_MD_body_18 : decode M_MD_body.2.1 18 = .ok (.ldc 49, 2) := by decide +kernel
theorem d_MD_body_20 : decode M_MD_body.2.1 20 = .ok (.iconst (2), 1) := by decide +kernel
theorem d_MD_body_21 : decode M_MD_body.2.1 21 = .ok (.aload_n 0, 1) := by decide +kernel
theorem d_MD_body_22 : decode M_MD_body.2.1 22 = .ok (.getfield 23, 3) := by decide +kernel
theorem d_MD_body_25 : decode M_MD_body.2.1 25 = .ok (.aload_n 0, 1) := by decide +kernel
theorem d_MD_body_26 : decode M_MD_body.2.1 26 = .ok (.invokevirtual 90, 3) := by decide +kernel
theorem d_MD_body_29 : decode M_MD_body.2.1 29 = .ok (.invokevirtual 94, 3) := by decide +kernel
theorem d_MD_body_32 : decode M_MD_body.2.1 32 = .ok (.goto (116), 3) := by decide +kernel
theorem d_MD_body_35 : decode M_MD_body.2.1 35 = .ok (.iload_n 1, 1) := by decide +kernel
theorem d_MD_body_36 : decode M_MD_body.2.1 36 = .ok (.iconst (5), 1) := by decide +kernel
theorem d_MD_body_37 : decode M_MD_body.2.1 37 = .ok (.irem, 1) := by decide +kernel
theorem d_MD_body_38 : decode M_MD_body.2.1 38 = .ok (.ifCond .ne (25), 3) := by decide +kernel
theorem d_MD_body_41 : decode M_MD_body.2.1 41 = .ok (.aload_n 0, 1) := by decide +kernel
theorem d_MD_body_42 : decode M_MD_body.2.1 42 = .ok (.ldc 49, 2) := by decide +kernel
theorem d_MD_body_44 : decode M_MD_body.2.1 44 = .ok (.iconst (1), 1) := by decide +kernel
theorem d_MD_body_45 : decode M_MD_body.2.1 45 = .ok (.aload_n 0, 1) := by decide +kernel
theorem d_MD_body_46 : decode M_MD_body.2.1 46 = .ok (.getfield 23, 3) := by decide +kernel
theorem d_MD_body_49 : decode M_MD_body.2.1 49 = .ok (.aload_n 0, 1) := by decide +kernel
theorem d_MD_body_50 : decode M_MD_body.2.1 50 = .ok (.iload_n 1, 1) := by decide +kernel
theorem d_MD_body_51 : decode M_MD_body.2.1 51 = .ok (.iconst (5), 1) := by decide +kernel
theorem d_MD_body_52 : decode M_MD_body.2.1 52 = .ok (.idiv, 1) := by decide +kernel
theorem d_MD_body_53 : decode M_MD_body.2.1 53 = .ok (.iload_n 2, 1) := by decide +kernel
theorem d_MD_body_54 : decode M_MD_body.2.1 54 = .ok (.invokevirtual 98, 3) := by decide +kernel
theorem d_MD_body_57 : decode M_MD_body.2.1 57 = .ok (.invokevirtual 94, 3) := by decide +kernel
theorem d_MD_body_60 : decode M_MD_body.2.1 60 = .ok (.goto (88), 3) := by decide +kernel
theorem d_MD_body_63 : decode M_MD_body.2.1 63 = .ok (.aload_n 0, 1) := by decide +kernel
theorem d_MD_body_64 : decode M_MD_body.2.1 64 = .ok (.iload_n 1, 1) := by decide +kernel
theorem d_MD_body_65 : decode M_MD_body.2.1 65 = .ok (.iconst (5), 1) := by decide +kernel
theorem d_MD_body_66 : decode M_MD_body.2.1 66 = .ok (.idiv, 1) := by decide +kernel
theorem d_MD_body_67 : decode M_MD_body.2.1 67 = .ok (.iconst (4), 1) := by decide +kernel
theorem d_MD_body_68 : decode M_MD_body.2.1 68 = .ok (.imul, 1) := by decide +kernel
theorem d_MD_body_69 : decode M_MD_body.2.1 69 = .ok (.iload_n 1, 1) := by decide +kernel
theorem d_MD_body_70 : decode M_MD_body.2.1 70 = .ok (.iconst (5), 1) := by decide +kernel
theorem d_MD_body_71 : decode M_MD_body.2.1 71 = .ok (.irem, 1) := by decide +kernel
theorem d_MD_body_72 : decode M_MD_body.2.1 72 = .ok (.iadd, 1) := by decide +kernel
theorem d_MD_body_73 : decode M_MD_body.2.1 73 = .ok (.iconst (1), 1) := by decide +kernel
theorem d_MD_body_74 : decode M_MD_body.2.1 74 = .ok (.isub, 1) := by decide +kernel
theorem d_MD_body_75 : decode M_MD_body.2.1 75 = .ok (.invokevirtual 87, 3) := by decide +kernel
theorem d_MD_body_78 : decode M_MD_body.2.1 78 = .ok (.istore_n 3, 1) := by decide +kernel
theorem d_MD_body_79 : decode M_MD_body.2.1 79 = .ok (.aload_n 0, 1) := by decide +kernel
theorem d_MD_body_80 : decode M_MD_body.2.1 80 = .ok (.aload_n 0, 1) := by decide +kernel
theorem d_MD_body_81 : decode M_MD_body.2.1 81 = .ok (.getfield 30, 3) := by decide +kernel
theorem d_MD_body_84 : decode M_MD_body.2.1 84 = .ok (.iconst (4), 1) := by decide +kernel
theorem d_MD_body_85 : decode M_MD_body.2.1 85 = .ok (.iload_n 3, 1) := by decide +kernel
theorem d_MD_body_86 : decode M_MD_body.2.1 86 = .ok (.imul, 1) := by decide +kernel
theorem d_MD_body_87 : decode M_MD_body.2.1 87 = .ok (.iaload, 1) := by decide +kernel
theorem d_MD_body_88 : decode M_MD_body.2.1 88 = .ok (.aload_n 0, 1) := by decide +kernel
theorem d_MD_body_89 : decode M_MD_body.2.1 89 = .ok (.getfield 30, 3) := by decide +kernel
theorem d_MD_body_92 : decode M_MD_body.2.1 92 = .ok (.iconst (4), 1) := by decide +kernel
theorem d_MD_body_93 : decode M_MD_body.2.1 93 = .ok (.iload_n 3, 1) := by decide +kernel
theorem d_MD_body_94 : decode M_MD_body.2.1 94 = .ok (.imul, 1) := by decide +kernel
theorem d_MD_body_95 : decode M_MD_body.2.1 95 = .ok (.iconst (1), 1) := by decide +kernel
theorem d_MD_body_96 : decode M_MD_body.2.1 96 = .ok (.iadd, 1) := by decide +kernel
theorem d_MD_body_97 : decode M_MD_body.2.1 97 = .ok (.iaload, 1) := by decide +kernel
theorem d_MD_body_98 : decode M_MD_body.2.1 98 = .ok (.aload_n 0, 1) := by decide +kernel
theorem d_MD_body_99 : decode M_MD_body.2.1 99 = .ok (.getfield 30, 3) := by decide +kernel
theorem d_MD_body_102 : decode M_MD_body.2.1 102 = .ok (.iconst (4), 1) := by decide +kernel
theorem d_MD_body_103 : decode M_MD_body.2.1 103 = .ok (.iload_n 3, 1) := by decide +kernel
theorem d_MD_body_104 : decode M_MD_body.2.1 104 = .ok (.imul, 1) := by decide +kernel
theorem d_MD_body_105 : decode M_MD_body.2.1 105 = .ok (.iconst (2), 1) := by decide +kernel
theorem d_MD_body_106 : decode M_MD_body.2.1 106 = .ok (.iadd, 1) := by decide +kernel
theorem d_MD_body_107 : decode M_MD_body.2.1 107 = .ok (.iaload, 1) := by decide +kernel
theorem d_MD_body_108 : decode M_MD_body.2.1 108 = .ok (.aload_n 0, 1) := by decide +kernel
theorem d_MD_body_109 : decode M_MD_body.2.1 109 = .ok (.getfield 30, 3) := by decide +kernel
theorem d_MD_body_112 : decode M_MD_body.2.1 112 = .ok (.iconst (4), 1) := by decide +kernel
theorem d_MD_body_113 : decode M_MD_body.2.1 113 = .ok (.iload_n 3, 1) := by decide +kernel
theorem d_MD_body_114 : decode M_MD_body.2.1 114 = .ok (.imul, 1) := by decide +kernel
theorem d_MD_body_115 : decode M_MD_body.2.1 115 = .ok (.iconst (3), 1) := by decide +kernel
theorem d_MD_body_116 : decode M_MD_body.2.1 116 = .ok (.iadd, 1) := by decide +kernel
theorem d_MD_body_117 : decode M_MD_body.2.1 117 = .ok (.iaload, 1) := by decide +kernel
theorem d_MD_body_118 : decode M_MD_body.2.1 118 = .ok (.invokevirtual 94, 3) := by decide +kernel
theorem d_MD_body_121 : decode M_MD_body.2.1 121 = .ok (.aload_n 0, 1) := by decide +kernel
theorem d_MD_body_122 : decode M_MD_body.2.1 122 = .ok (.getfield 40, 3) := by decide +kernel
theorem d_MD_body_125 : decode M_MD_body.2.1 125 = .ok (.iconst (0), 1) := by decide +kernel
theorem d_MD_body_126 : decode M_MD_body.2.1 126 = .ok (.aload_n 0, 1) := by decide +kernel
theorem d_MD_body_127 : decode M_MD_body.2.1 127 = .ok (.getfield 40, 3) := by decide +kernel
theorem d_MD_body_130 : decode M_MD_body.2.1 130 = .ok (.iconst (0), 1) := by decide +kernel
theorem d_MD_body_131 : decode M_MD_body.2.1 131 = .ok (.iaload, 1) := by decide +kernel
theorem d_MD_body_132 : decode M_MD_body.2.1 132 = .ok (.ldc 49, 2) := by decide +kernel
theorem d_MD_body_134 : decode M_MD_body.2.1 134 = .ok (.if_icmp .ne (7), 3) := by decide +kernel
theorem d_MD_body_137 : decode M_MD_body.2.1 137 = .ok (.iconst (0), 1) := by decide +kernel
theorem d_MD_body_138 : decode M_MD_body.2.1 138 = .ok (.goto (9), 3) := by decide +kernel
theorem d_MD_body_141 : decode M_MD_body.2.1 141 = .ok (.aload_n 0, 1) := by decide +kernel
theorem d_MD_body_142 : decode M_MD_body.2.1 142 = .ok (.getfield 40, 3) := by decide +kernel
theorem d_MD_body_145 : decode M_MD_body.2.1 145 = .ok (.iconst (0), 1) := by decide +kernel
theorem d_MD_body_146 : decode M_MD_body.2.1 146 = .ok (.iaload, 1) := by decide +kernel
theorem d_MD_body_147 : decode M_MD_body.2.1 147 = .ok (.iastore, 1) := by decide +kernel
theorem d_MD_body_148 : decode M_MD_body.2.1 148 = .ok (.return_, 1) := by decide +kernel
theorem d_MD_sum_0 : decode M_MD_sum.2.1 0 = .ok (.aload_n 0, 1) := by decide +kernel
theorem d_MD_sum_1 : decode M_MD_sum.2.1 1 = .ok (.getfield 23, 3) := by decide +kernel
theorem d_MD_sum_4 : decode M_MD_sum.2.1 4 = .ok (.istore_n 2, 1) := by decide +kernel
theorem d_MD_sum_5 : decode M_MD_sum.2.1 5 = .ok (.iconst (0), 1) := by decide +kernel
theorem d_MD_sum_6 : decode M_MD_sum.2.1 6 = .ok (.istore_n 3, 1) := by decide +kernel
theorem d_MD_sum_7 : decode M_MD_sum.2.1 7 = .ok (.iload_n 3, 1) := by decide +kernel
theorem d_MD_sum_8 : decode M_MD_sum.2.1 8 = .ok (.iload_n 1, 1) := by decide +kernel
theorem d_MD_sum_9 : decode M_MD_sum.2.1 9 = .ok (.if_icmp .ge (41), 3) := by decide +kernel
theorem d_MD_sum_12 : decode M_MD_sum.2.1 12 = .ok (.aload_n 0, 1) := by decide +kernel
theorem d_MD_sum_13 : decode M_MD_sum.2.1 13 = .ok (.iload_n 3, 1) := by decide +kernel
theorem d_MD_sum_14 : decode M_MD_sum.2.1 14 = .ok (.invokevirtual 101, 3) := by decide +kernel
theorem d_MD_sum_17 : decode M_MD_sum.2.1 17 = .ok (.iconst (0), 1) := by decide +kernel
theorem d_MD_sum_18 : decode M_MD_sum.2.1 18 = .ok (.istore 4, 2) := by decide +kernel
theorem d_MD_sum_20 : decode M_MD_sum.2.1 20 = .ok (.iload 4, 2) := by decide +kernel
theorem d_MD_sum_22 : decode M_MD_sum.2.1 22 = .ok (.iconst (4), 1) := by decide +kernel
theorem d_MD_sum_23 : decode M_MD_sum.2.1 23 = .ok (.if_icmp .ge (21), 3) := by decide +kernel
theorem d_MD_sum_26 : decode M_MD_sum.2.1 26 = .ok (.iload_n 2, 1) := by decide +kernel
theorem d_MD_sum_27 : decode M_MD_sum.2.1 27 = .ok (.aload_n 0, 1) := by decide +kernel
theorem d_MD_sum_28 : decode M_MD_sum.2.1 28 = .ok (.getfield 40, 3) := by decide +kernel
theorem d_MD_sum_31 : decode M_MD_sum.2.1 31 = .ok (.iload 4, 2) := by decide +kernel
theorem d_MD_sum_33 : decode M_MD_sum.2.1 33 = .ok (.iaload, 1) := by decide +kernel
theorem d_MD_sum_34 : decode M_MD_sum.2.1 34 = .ok (.invokestatic 104, 3) := by decide +kernel
theorem d_MD_sum_37 : decode M_MD_sum.2.1 37 = .ok (.istore_n 2, 1) := by decide +kernel
theorem d_MD_sum_38 : decode M_MD_sum.2.1 38 = .ok (.iinc 4 (1), 3) := by decide +kernel
theorem d_MD_sum_41 : decode M_MD_sum.2.1 41 = .ok (.goto (-21), 3) := by decide +kernel
theorem d_MD_sum_44 : decode M_MD_sum.2.1 44 = .ok (.iinc 3 (1), 3) := by decide +kernel
theorem d_MD_sum_47 : decode M_MD_sum.2.1 47 = .ok (.goto (-40), 3) := by decide +kernel
theorem d_MD_sum_50 : decode M_MD_sum.2.1 50 = .ok (.iload_n 2, 1) := by decide +kernel
theorem d_MD_sum_51 : decode M_MD_sum.2.1 51 = .ok (.ireturn, 1) := by decide +kernel
theorem d_MD_mix_0 : decode M_MD_mix.2.1 0 = .ok (.iload_n 0, 1) := by decide +kernel
theorem d_MD_mix_1 : decode M_MD_mix.2.1 1 = .ok (.iload_n 1, 1) := by decide +kernel
theorem d_MD_mix_2 : decode M_MD_mix.2.1 2 = .ok (.ixor, 1) := by decide +kernel
theorem d_MD_mix_3 : decode M_MD_mix.2.1 3 = .ok (.ldc 57, 2) := by decide +kernel
theorem d_MD_mix_5 : decode M_MD_mix.2.1 5 = .ok (.imul, 1) := by decide +kernel
theorem d_MD_mix_6 : decode M_MD_mix.2.1 6 = .ok (.bipush (7), 2) := by decide +kernel
theorem d_MD_mix_8 : decode M_MD_mix.2.1 8 = .ok (.iadd, 1) := by decide +kernel
theorem d_MD_mix_9 : decode M_MD_mix.2.1 9 = .ok (.istore_n 2, 1) := by decide +kernel
theorem d_MD_mix_10 : decode M_MD_mix.2.1 10 = .ok (.iload_n 2, 1) := by decide +kernel
theorem d_MD_mix_11 : decode M_MD_mix.2.1 11 = .ok (.iload_n 2, 1) := by decide +kernel
theorem d_MD_mix_12 : decode M_MD_mix.2.1 12 = .ok (.bipush (15), 2) := by decide +kernel
theorem d_MD_mix_14 : decode M_MD_mix.2.1 14 = .ok (.iushr, 1) := by decide +kernel
theorem d_MD_mix_15 : decode M_MD_mix.2.1 15 = .ok (.ixor, 1) := by decide +kernel
theorem d_MD_mix_16 : decode M_MD_mix.2.1 16 = .ok (.ireturn, 1) := by decide +kernel
theorem d_MD_commit_0 : decode M_MD_commit.2.1 0 = .ok (.aload_n 0, 1) := by decide +kernel
theorem d_MD_commit_1 : decode M_MD_commit.2.1 1 = .ok (.invokevirtual 72, 3) := by decide +kernel
theorem d_MD_commit_4 : decode M_MD_commit.2.1 4 = .ok (.ifCond .eq (13), 3) := by decide +kernel
theorem d_MD_commit_7 : decode M_MD_commit.2.1 7 = .ok (.aload_n 0, 1) := by decide +kernel
theorem d_MD_commit_8 : decode M_MD_commit.2.1 8 = .ok (.iconst (0), 1) := by decide +kernel
theorem d_MD_commit_9 : decode M_MD_commit.2.1 9 = .ok (.invokevirtual 76, 3) := by decide +kernel
theorem d_MD_commit_12 : decode M_MD_commit.2.1 12 = .ok (.bipush (16), 2) := by decide +kernel
theorem d_MD_commit_14 : decode M_MD_commit.2.1 14 = .ok (.if_icmp .ne (5), 3) := by decide +kernel
theorem d_MD_commit_17 : decode M_MD_commit.2.1 17 = .ok (.iconst (-1), 1) := by decide +kernel
theorem d_MD_commit_18 : decode M_MD_commit.2.1 18 = .ok (.ireturn, 1) := by decide +kernel
end
section
theorem d_MD_commit_19 : decode M_MD_commit.2.1 19 = .ok (.aload_n 0, 1) := by decide +kernel
theorem d_MD_commit_20 : decode M_MD_commit.2.1 20 = .ok (.invokevirtual 107, 3) := by decide +kernel
theorem d_MD_commit_23 : decode M_MD_commit.2.1 23 = .ok (.istore_n 1, 1) := by decide +kernel
theorem d_MD_commit_24 : decode M_MD_commit.2.1 24 = .ok (.aload_n 0, 1) := by decide +kernel
theorem d_MD_commit_25 : decode M_MD_commit.2.1 25 = .ok (.getfield 110, 3) := by decide +kernel
theorem d_MD_commit_28 : decode M_MD_commit.2.1 28 = .ok (.iload_n 1, 1) := by decide +kernel
theorem d_MD_commit_29 : decode M_MD_commit.2.1 29 = .ok (.iadd, 1) := by decide +kernel
theorem d_MD_commit_30 : decode M_MD_commit.2.1 30 = .ok (.bipush (23), 2) := by decide +kernel
theorem d_MD_commit_32 : decode M_MD_commit.2.1 32 = .ok (.if_icmp .le (6), 3) := by decide +kernel
theorem d_MD_commit_35 : decode M_MD_commit.2.1 35 = .ok (.bipush (-2), 2) := by decide +kernel
theorem d_MD_commit_37 : decode M_MD_commit.2.1 37 = .ok (.ireturn, 1) := by decide +kernel
theorem d_MD_commit_38 : decode M_MD_commit.2.1 38 = .ok (.aload_n 0, 1) := by decide +kernel
theorem d_MD_commit_39 : decode M_MD_commit.2.1 39 = .ok (.iconst (2), 1) := by decide +kernel
theorem d_MD_commit_40 : decode M_MD_commit.2.1 40 = .ok (.putfield 69, 3) := by decide +kernel
theorem d_MD_commit_43 : decode M_MD_commit.2.1 43 = .ok (.aload_n 0, 1) := by decide +kernel
theorem d_MD_commit_44 : decode M_MD_commit.2.1 44 = .ok (.iconst (0), 1) := by decide +kernel
theorem d_MD_commit_45 : decode M_MD_commit.2.1 45 = .ok (.putfield 113, 3) := by decide +kernel
theorem d_MD_commit_48 : decode M_MD_commit.2.1 48 = .ok (.aload_n 0, 1) := by decide +kernel
theorem d_MD_commit_49 : decode M_MD_commit.2.1 49 = .ok (.iload_n 1, 1) := by decide +kernel
theorem d_MD_commit_50 : decode M_MD_commit.2.1 50 = .ok (.iconst (2), 1) := by decide +kernel
theorem d_MD_commit_51 : decode M_MD_commit.2.1 51 = .ok (.iadd, 1) := by decide +kernel
theorem d_MD_commit_52 : decode M_MD_commit.2.1 52 = .ok (.putfield 116, 3) := by decide +kernel
theorem d_MD_commit_55 : decode M_MD_commit.2.1 55 = .ok (.iload_n 1, 1) := by decide +kernel
theorem d_MD_commit_56 : decode M_MD_commit.2.1 56 = .ok (.ireturn, 1) := by decide +kernel
theorem d_MD_commitAction_0 : decode M_MD_commitAction.2.1 0 = .ok (.aload_n 0, 1) := by decide +kernel
theorem d_MD_commitAction_1 : decode M_MD_commitAction.2.1 1 = .ok (.getfield 116, 3) := by decide +kernel
theorem d_MD_commitAction_4 : decode M_MD_commitAction.2.1 4 = .ok (.iconst (2), 1) := by decide +kernel
theorem d_MD_commitAction_5 : decode M_MD_commitAction.2.1 5 = .ok (.isub, 1) := by decide +kernel
theorem d_MD_commitAction_6 : decode M_MD_commitAction.2.1 6 = .ok (.istore_n 2, 1) := by decide +kernel
theorem d_MD_commitAction_7 : decode M_MD_commitAction.2.1 7 = .ok (.iload_n 1, 1) := by decide +kernel
theorem d_MD_commitAction_8 : decode M_MD_commitAction.2.1 8 = .ok (.iload_n 2, 1) := by decide +kernel
theorem d_MD_commitAction_9 : decode M_MD_commitAction.2.1 9 = .ok (.iconst (1), 1) := by decide +kernel
theorem d_MD_commitAction_10 : decode M_MD_commitAction.2.1 10 = .ok (.isub, 1) := by decide +kernel
theorem d_MD_commitAction_11 : decode M_MD_commitAction.2.1 11 = .ok (.if_icmp .ge (27), 3) := by decide +kernel
theorem d_MD_commitAction_14 : decode M_MD_commitAction.2.1 14 = .ok (.aload_n 0, 1) := by decide +kernel
theorem d_MD_commitAction_15 : decode M_MD_commitAction.2.1 15 = .ok (.iload_n 1, 1) := by decide +kernel
theorem d_MD_commitAction_16 : decode M_MD_commitAction.2.1 16 = .ok (.invokevirtual 101, 3) := by decide +kernel
theorem d_MD_commitAction_19 : decode M_MD_commitAction.2.1 19 = .ok (.aload_n 0, 1) := by decide +kernel
theorem d_MD_commitAction_20 : decode M_MD_commitAction.2.1 20 = .ok (.bipush (17), 2) := by decide +kernel
theorem d_MD_commitAction_22 : decode M_MD_commitAction.2.1 22 = .ok (.aload_n 0, 1) := by decide +kernel
theorem d_MD_commitAction_23 : decode M_MD_commitAction.2.1 23 = .ok (.getfield 119, 3) := by decide +kernel
theorem d_MD_commitAction_26 : decode M_MD_commitAction.2.1 26 = .ok (.iload_n 1, 1) := by decide +kernel
theorem d_MD_commitAction_27 : decode M_MD_commitAction.2.1 27 = .ok (.iadd, 1) := by decide +kernel
theorem d_MD_commitAction_28 : decode M_MD_commitAction.2.1 28 = .ok (.bipush (24), 2) := by decide +kernel
theorem d_MD_commitAction_30 : decode M_MD_commitAction.2.1 30 = .ok (.irem, 1) := by decide +kernel
theorem d_MD_commitAction_31 : decode M_MD_commitAction.2.1 31 = .ok (.iadd, 1) := by decide +kernel
theorem d_MD_commitAction_32 : decode M_MD_commitAction.2.1 32 = .ok (.invokevirtual 83, 3) := by decide +kernel
theorem d_MD_commitAction_35 : decode M_MD_commitAction.2.1 35 = .ok (.goto (53), 3) := by decide +kernel
theorem d_MD_commitAction_38 : decode M_MD_commitAction.2.1 38 = .ok (.iload_n 1, 1) := by decide +kernel
theorem d_MD_commitAction_39 : decode M_MD_commitAction.2.1 39 = .ok (.iload_n 2, 1) := by decide +kernel
theorem d_MD_commitAction_40 : decode M_MD_commitAction.2.1 40 = .ok (.if_icmp .ne (44), 3) := by decide +kernel
theorem d_MD_commitAction_43 : decode M_MD_commitAction.2.1 43 = .ok (.aload_n 0, 1) := by decide +kernel
theorem d_MD_commitAction_44 : decode M_MD_commitAction.2.1 44 = .ok (.iload_n 2, 1) := by decide +kernel
theorem d_MD_commitAction_45 : decode M_MD_commitAction.2.1 45 = .ok (.iconst (1), 1) := by decide +kernel
theorem d_MD_commitAction_46 : decode M_MD_commitAction.2.1 46 = .ok (.isub, 1) := by decide +kernel
theorem d_MD_commitAction_47 : decode M_MD_commitAction.2.1 47 = .ok (.invokevirtual 122, 3) := by decide +kernel
theorem d_MD_commitAction_50 : decode M_MD_commitAction.2.1 50 = .ok (.istore_n 3, 1) := by decide +kernel
theorem d_MD_commitAction_51 : decode M_MD_commitAction.2.1 51 = .ok (.aload_n 0, 1) := by decide +kernel
theorem d_MD_commitAction_52 : decode M_MD_commitAction.2.1 52 = .ok (.ldc 49, 2) := by decide +kernel
theorem d_MD_commitAction_54 : decode M_MD_commitAction.2.1 54 = .ok (.iconst (3), 1) := by decide +kernel
theorem d_MD_commitAction_55 : decode M_MD_commitAction.2.1 55 = .ok (.aload_n 0, 1) := by decide +kernel
theorem d_MD_commitAction_56 : decode M_MD_commitAction.2.1 56 = .ok (.getfield 23, 3) := by decide +kernel
theorem d_MD_commitAction_59 : decode M_MD_commitAction.2.1 59 = .ok (.iload_n 3, 1) := by decide +kernel
theorem d_MD_commitAction_60 : decode M_MD_commitAction.2.1 60 = .ok (.invokevirtual 94, 3) := by decide +kernel
theorem d_MD_commitAction_63 : decode M_MD_commitAction.2.1 63 = .ok (.aload_n 0, 1) := by decide +kernel
theorem d_MD_commitAction_64 : decode M_MD_commitAction.2.1 64 = .ok (.bipush (17), 2) := by decide +kernel
theorem d_MD_commitAction_66 : decode M_MD_commitAction.2.1 66 = .ok (.aload_n 0, 1) := by decide +kernel
theorem d_MD_commitAction_67 : decode M_MD_commitAction.2.1 67 = .ok (.getfield 119, 3) := by decide +kernel
theorem d_MD_commitAction_70 : decode M_MD_commitAction.2.1 70 = .ok (.iload_n 2, 1) := by decide +kernel
theorem d_MD_commitAction_71 : decode M_MD_commitAction.2.1 71 = .ok (.iadd, 1) := by decide +kernel
theorem d_MD_commitAction_72 : decode M_MD_commitAction.2.1 72 = .ok (.iconst (1), 1) := by decide +kernel
theorem d_MD_commitAction_73 : decode M_MD_commitAction.2.1 73 = .ok (.isub, 1) := by decide +kernel
theorem d_MD_commitAction_74 : decode M_MD_commitAction.2.1 74 = .ok (.bipush (24), 2) := by decide +kernel
theorem d_MD_commitAction_76 : decode M_MD_commitAction.2.1 76 = .ok (.irem, 1) := by decide +kernel
theorem d_MD_commitAction_77 : decode M_MD_commitAction.2.1 77 = .ok (.iadd, 1) := by decide +kernel
theorem d_MD_commitAction_78 : decode M_MD_commitAction.2.1 78 = .ok (.invokevirtual 83, 3) := by decide +kernel
theorem d_MD_commitAction_81 : decode M_MD_commitAction.2.1 81 = .ok (.goto (7), 3) := by decide +kernel
theorem d_MD_commitAction_84 : decode M_MD_commitAction.2.1 84 = .ok (.aload_n 0, 1) := by decide +kernel
theorem d_MD_commitAction_85 : decode M_MD_commitAction.2.1 85 = .ok (.invokevirtual 125, 3) := by decide +kernel
theorem d_MD_commitAction_88 : decode M_MD_commitAction.2.1 88 = .ok (.return_, 1) := by decide +kernel
theorem d_MD_committed_0 : decode M_MD_committed.2.1 0 = .ok (.aload_n 0, 1) := by decide +kernel
theorem d_MD_committed_1 : decode M_MD_committed.2.1 1 = .ok (.getfield 116, 3) := by decide +kernel
theorem d_MD_committed_4 : decode M_MD_committed.2.1 4 = .ok (.iconst (2), 1) := by decide +kernel
theorem d_MD_committed_5 : decode M_MD_committed.2.1 5 = .ok (.isub, 1) := by decide +kernel
theorem d_MD_committed_6 : decode M_MD_committed.2.1 6 = .ok (.istore_n 1, 1) := by decide +kernel
theorem d_MD_committed_7 : decode M_MD_committed.2.1 7 = .ok (.aload_n 0, 1) := by decide +kernel
theorem d_MD_committed_8 : decode M_MD_committed.2.1 8 = .ok (.aload_n 0, 1) := by decide +kernel
theorem d_MD_committed_9 : decode M_MD_committed.2.1 9 = .ok (.getfield 119, 3) := by decide +kernel
theorem d_MD_committed_12 : decode M_MD_committed.2.1 12 = .ok (.iload_n 1, 1) := by decide +kernel
theorem d_MD_committed_13 : decode M_MD_committed.2.1 13 = .ok (.iadd, 1) := by decide +kernel
theorem d_MD_committed_14 : decode M_MD_committed.2.1 14 = .ok (.bipush (24), 2) := by decide +kernel
theorem d_MD_committed_16 : decode M_MD_committed.2.1 16 = .ok (.irem, 1) := by decide +kernel
theorem d_MD_committed_17 : decode M_MD_committed.2.1 17 = .ok (.putfield 119, 3) := by decide +kernel
theorem d_MD_committed_20 : decode M_MD_committed.2.1 20 = .ok (.aload_n 0, 1) := by decide +kernel
theorem d_MD_committed_21 : decode M_MD_committed.2.1 21 = .ok (.aload_n 0, 1) := by decide +kernel
theorem d_MD_committed_22 : decode M_MD_committed.2.1 22 = .ok (.getfield 110, 3) := by decide +kernel
theorem d_MD_committed_25 : decode M_MD_committed.2.1 25 = .ok (.iload_n 1, 1) := by decide +kernel
theorem d_MD_committed_26 : decode M_MD_committed.2.1 26 = .ok (.iadd, 1) := by decide +kernel
theorem d_MD_committed_27 : decode M_MD_committed.2.1 27 = .ok (.putfield 110, 3) := by decide +kernel
theorem d_MD_committed_30 : decode M_MD_committed.2.1 30 = .ok (.aload_n 0, 1) := by decide +kernel
theorem d_MD_committed_31 : decode M_MD_committed.2.1 31 = .ok (.aload_n 0, 1) := by decide +kernel
theorem d_MD_committed_32 : decode M_MD_committed.2.1 32 = .ok (.getfield 23, 3) := by decide +kernel
theorem d_MD_committed_35 : decode M_MD_committed.2.1 35 = .ok (.iconst (1), 1) := by decide +kernel
theorem d_MD_committed_36 : decode M_MD_committed.2.1 36 = .ok (.iadd, 1) := by decide +kernel
theorem d_MD_committed_37 : decode M_MD_committed.2.1 37 = .ok (.putfield 23, 3) := by decide +kernel
theorem d_MD_committed_40 : decode M_MD_committed.2.1 40 = .ok (.iconst (0), 1) := by decide +kernel
theorem d_MD_committed_41 : decode M_MD_committed.2.1 41 = .ok (.istore_n 2, 1) := by decide +kernel
theorem d_MD_committed_42 : decode M_MD_committed.2.1 42 = .ok (.iload_n 2, 1) := by decide +kernel
theorem d_MD_committed_43 : decode M_MD_committed.2.1 43 = .ok (.bipush (16), 2) := by decide +kernel
theorem d_MD_committed_45 : decode M_MD_committed.2.1 45 = .ok (.if_icmp .ge (111), 3) := by decide +kernel
theorem d_MD_committed_48 : decode M_MD_committed.2.1 48 = .ok (.iconst (0), 1) := by decide +kernel
theorem d_MD_committed_49 : decode M_MD_committed.2.1 49 = .ok (.istore_n 3, 1) := by decide +kernel
theorem d_MD_committed_50 : decode M_MD_committed.2.1 50 = .ok (.iload_n 3, 1) := by decide +kernel
theorem d_MD_committed_51 : decode M_MD_committed.2.1 51 = .ok (.iconst (4), 1) := by decide +kernel
theorem d_MD_committed_52 : decode M_MD_committed.2.1 52 = .ok (.if_icmp .ge (52), 3) := by decide +kernel
theorem d_MD_committed_55 : decode M_MD_committed.2.1 55 = .ok (.aload_n 0, 1) := by decide +kernel
theorem d_MD_committed_56 : decode M_MD_committed.2.1 56 = .ok (.getfield 37, 3) := by decide +kernel
theorem d_MD_committed_59 : decode M_MD_committed.2.1 59 = .ok (.iconst (4), 1) := by decide +kernel
theorem d_MD_committed_60 : decode M_MD_committed.2.1 60 = .ok (.iload_n 2, 1) := by decide +kernel
theorem d_MD_committed_61 : decode M_MD_committed.2.1 61 = .ok (.imul, 1) := by decide +kernel
theorem d_MD_committed_62 : decode M_MD_committed.2.1 62 = .ok (.iload_n 3, 1) := by decide +kernel
theorem d_MD_committed_63 : decode M_MD_committed.2.1 63 = .ok (.iadd, 1) := by decide +kernel
theorem d_MD_committed_64 : decode M_MD_committed.2.1 64 = .ok (.aload_n 0, 1) := by decide +kernel
theorem d_MD_committed_65 : decode M_MD_committed.2.1 65 = .ok (.getfield 27, 3) := by decide +kernel
theorem d_MD_committed_68 : decode M_MD_committed.2.1 68 = .ok (.iload_n 2, 1) := by decide +kernel
theorem d_MD_committed_69 : decode M_MD_committed.2.1 69 = .ok (.iaload, 1) := by decide +kernel
theorem d_MD_committed_70 : decode M_MD_committed.2.1 70 = .ok (.iconst (1), 1) := by decide +kernel
theorem d_MD_committed_71 : decode M_MD_committed.2.1 71 = .ok (.if_icmp .ne (16), 3) := by decide +kernel
theorem d_MD_committed_74 : decode M_MD_committed.2.1 74 = .ok (.aload_n 0, 1) := by decide +kernel
theorem d_MD_committed_75 : decode M_MD_committed.2.1 75 = .ok (.getfield 30, 3) := by decide +kernel
theorem d_MD_committed_78 : decode M_MD_committed.2.1 78 = .ok (.iconst (4), 1) := by decide +kernel
theorem d_MD_committed_79 : decode M_MD_committed.2.1 79 = .ok (.iload_n 2, 1) := by decide +kernel
theorem d_MD_committed_80 : decode M_MD_committed.2.1 80 = .ok (.imul, 1) := by decide +kernel
theorem d_MD_committed_81 : decode M_MD_committed.2.1 81 = .ok (.iload_n 3, 1) := by decide +kernel
theorem d_MD_committed_82 : decode M_MD_committed.2.1 82 = .ok (.iadd, 1) := by decide +kernel
theorem d_MD_committed_83 : decode M_MD_committed.2.1 83 = .ok (.iaload, 1) := by decide +kernel
theorem d_MD_committed_84 : decode M_MD_committed.2.1 84 = .ok (.goto (13), 3) := by decide +kernel
theorem d_MD_committed_87 : decode M_MD_committed.2.1 87 = .ok (.aload_n 0, 1) := by decide +kernel
theorem d_MD_committed_88 : decode M_MD_committed.2.1 88 = .ok (.getfield 37, 3) := by decide +kernel
theorem d_MD_committed_91 : decode M_MD_committed.2.1 91 = .ok (.iconst (4), 1) := by decide +kernel
theorem d_MD_committed_92 : decode M_MD_committed.2.1 92 = .ok (.iload_n 2, 1) := by decide +kernel
theorem d_MD_committed_93 : decode M_MD_committed.2.1 93 = .ok (.imul, 1) := by decide +kernel
theorem d_MD_committed_94 : decode M_MD_committed.2.1 94 = .ok (.iload_n 3, 1) := by decide +kernel
theorem d_MD_committed_95 : decode M_MD_committed.2.1 95 = .ok (.iadd, 1) := by decide +kernel
theorem d_MD_committed_96 : decode M_MD_committed.2.1 96 = .ok (.iaload, 1) := by decide +kernel
theorem d_MD_committed_97 : decode M_MD_committed.2.1 97 = .ok (.iastore, 1) := by decide +kernel
theorem d_MD_committed_98 : decode M_MD_committed.2.1 98 = .ok (.iinc 3 (1), 3) := by decide +kernel
theorem d_MD_committed_101 : decode M_MD_committed.2.1 101 = .ok (.goto (-51), 3) := by decide +kernel
theorem d_MD_committed_104 : decode M_MD_committed.2.1 104 = .ok (.aload_n 0, 1) := by decide +kernel
theorem d_MD_committed_105 : decode M_MD_committed.2.1 105 = .ok (.getfield 33, 3) := by decide +kernel
theorem d_MD_committed_108 : decode M_MD_committed.2.1 108 = .ok (.iload_n 2, 1) := by decide +kernel
theorem d_MD_committed_109 : decode M_MD_committed.2.1 109 = .ok (.aload_n 0, 1) := by decide +kernel
theorem d_MD_committed_110 : decode M_MD_committed.2.1 110 = .ok (.getfield 27, 3) := by decide +kernel
theorem d_MD_committed_113 : decode M_MD_committed.2.1 113 = .ok (.iload_n 2, 1) := by decide +kernel
theorem d_MD_committed_114 : decode M_MD_committed.2.1 114 = .ok (.iaload, 1) := by decide +kernel
theorem d_MD_committed_115 : decode M_MD_committed.2.1 115 = .ok (.iconst (1), 1) := by decide +kernel
theorem d_MD_committed_116 : decode M_MD_committed.2.1 116 = .ok (.if_icmp .eq (21), 3) := by decide +kernel
theorem d_MD_committed_119 : decode M_MD_committed.2.1 119 = .ok (.aload_n 0, 1) := by decide +kernel
theorem d_MD_committed_120 : decode M_MD_committed.2.1 120 = .ok (.getfield 27, 3) := by decide +kernel
theorem d_MD_committed_123 : decode M_MD_committed.2.1 123 = .ok (.iload_n 2, 1) := by decide +kernel
theorem d_MD_committed_124 : decode M_MD_committed.2.1 124 = .ok (.iaload, 1) := by decide +kernel
theorem d_MD_committed_125 : decode M_MD_committed.2.1 125 = .ok (.ifCond .ne (16), 3) := by decide +kernel
theorem d_MD_committed_128 : decode M_MD_committed.2.1 128 = .ok (.aload_n 0, 1) := by decide +kernel
theorem d_MD_committed_129 : decode M_MD_committed.2.1 129 = .ok (.getfield 33, 3) := by decide +kernel
theorem d_MD_committed_132 : decode M_MD_committed.2.1 132 = .ok (.iload_n 2, 1) := by decide +kernel
theorem d_MD_committed_133 : decode M_MD_committed.2.1 133 = .ok (.baload, 1) := by decide +kernel
theorem d_MD_committed_134 : decode M_MD_committed.2.1 134 = .ok (.ifCond .eq (7), 3) := by decide +kernel
theorem d_MD_committed_137 : decode M_MD_committed.2.1 137 = .ok (.iconst (1), 1) := by decide +kernel
theorem d_MD_committed_138 : decode M_MD_committed.2.1 138 = .ok (.goto (4), 3) := by decide +kernel
theorem d_MD_committed_141 : decode M_MD_committed.2.1 141 = .ok (.iconst (0), 1) := by decide +kernel
theorem d_MD_committed_142 : decode M_MD_committed.2.1 142 = .ok (.bastore, 1) := by decide +kernel
theorem d_MD_committed_143 : decode M_MD_committed.2.1 143 = .ok (.aload_n 0, 1) := by decide +kernel
theorem d_MD_committed_144 : decode M_MD_committed.2.1 144 = .ok (.getfield 27, 3) := by decide +kernel
theorem d_MD_committed_147 : decode M_MD_committed.2.1 147 = .ok (.iload_n 2, 1) := by decide +kernel
theorem d_MD_committed_148 : decode M_MD_committed.2.1 148 = .ok (.iconst (0), 1) := by decide +kernel
theorem d_MD_committed_149 : decode M_MD_committed.2.1 149 = .ok (.iastore, 1) := by decide +kernel
theorem d_MD_committed_150 : decode M_MD_committed.2.1 150 = .ok (.iinc 2 (1), 3) := by decide +kernel
theorem d_MD_committed_153 : decode M_MD_committed.2.1 153 = .ok (.goto (-111), 3) := by decide +kernel
theorem d_MD_committed_156 : decode M_MD_committed.2.1 156 = .ok (.return_, 1) := by decide +kernel
theorem d_MD_countPending_0 : decode M_MD_countPending.2.1 0 = .ok (.iconst (0), 1) := by decide +kernel
theorem d_MD_countPending_1 : decode M_MD_countPending.2.1 1 = .ok (.istore_n 1, 1) := by decide +kernel
theorem d_MD_countPending_2 : decode M_MD_countPending.2.1 2 = .ok (.iconst (0), 1) := by decide +kernel
theorem d_MD_countPending_3 : decode M_MD_countPending.2.1 3 = .ok (.istore_n 2, 1) := by decide +kernel
theorem d_MD_countPending_4 : decode M_MD_countPending.2.1 4 = .ok (.iload_n 2, 1) := by decide +kernel
theorem d_MD_countPending_5 : decode M_MD_countPending.2.1 5 = .ok (.bipush (16), 2) := by decide +kernel
theorem d_MD_countPending_7 : decode M_MD_countPending.2.1 7 = .ok (.if_icmp .ge (26), 3) := by decide +kernel
theorem d_MD_countPending_10 : decode M_MD_countPending.2.1 10 = .ok (.aload_n 0, 1) := by decide +kernel
theorem d_MD_countPending_11 : decode M_MD_countPending.2.1 11 = .ok (.getfield 33, 3) := by decide +kernel
theorem d_MD_countPending_14 : decode M_MD_countPending.2.1 14 = .ok (.iload_n 2, 1) := by decide +kernel
theorem d_MD_countPending_15 : decode M_MD_countPending.2.1 15 = .ok (.baload, 1) := by decide +kernel
theorem d_MD_countPending_16 : decode M_MD_countPending.2.1 16 = .ok (.ifCond .eq (9), 3) := by decide +kernel
theorem d_MD_countPending_19 : decode M_MD_countPending.2.1 19 = .ok (.iload_n 1, 1) := by decide +kernel
theorem d_MD_countPending_20 : decode M_MD_countPending.2.1 20 = .ok (.iconst (1), 1) := by decide +kernel
theorem d_MD_countPending_21 : decode M_MD_countPending.2.1 21 = .ok (.iadd, 1) := by decide +kernel
theorem d_MD_countPending_22 : decode M_MD_countPending.2.1 22 = .ok (.goto (4), 3) := by decide +kernel
theorem d_MD_countPending_25 : decode M_MD_countPending.2.1 25 = .ok (.iload_n 1, 1) := by decide +kernel
theorem d_MD_countPending_26 : decode M_MD_countPending.2.1 26 = .ok (.istore_n 1, 1) := by decide +kernel
theorem d_MD_countPending_27 : decode M_MD_countPending.2.1 27 = .ok (.iinc 2 (1), 3) := by decide +kernel
theorem d_MD_countPending_30 : decode M_MD_countPending.2.1 30 = .ok (.goto (-26), 3) := by decide +kernel
theorem d_MD_countPending_33 : decode M_MD_countPending.2.1 33 = .ok (.iload_n 1, 1) := by decide +kernel
theorem d_MD_countPending_34 : decode M_MD_countPending.2.1 34 = .ok (.ireturn, 1) := by decide +kernel
theorem d_MD_checkpoint_0 : decode M_MD_checkpoint.2.1 0 = .ok (.aload_n 0, 1) := by decide +kernel
theorem d_MD_checkpoint_1 : decode M_MD_checkpoint.2.1 1 = .ok (.invokevirtual 72, 3) := by decide +kernel
theorem d_MD_checkpoint_4 : decode M_MD_checkpoint.2.1 4 = .ok (.ifCond .ne (5), 3) := by decide +kernel
theorem d_MD_checkpoint_7 : decode M_MD_checkpoint.2.1 7 = .ok (.iconst (-1), 1) := by decide +kernel
theorem d_MD_checkpoint_8 : decode M_MD_checkpoint.2.1 8 = .ok (.ireturn, 1) := by decide +kernel
theorem d_MD_checkpoint_9 : decode M_MD_checkpoint.2.1 9 = .ok (.aload_n 0, 1) := by decide +kernel
theorem d_MD_checkpoint_10 : decode M_MD_checkpoint.2.1 10 = .ok (.iconst (3), 1) := by decide +kernel
theorem d_MD_checkpoint_11 : decode M_MD_checkpoint.2.1 11 = .ok (.putfield 69, 3) := by decide +kernel
theorem d_MD_checkpoint_14 : decode M_MD_checkpoint.2.1 14 = .ok (.aload_n 0, 1) := by decide +kernel
theorem d_MD_checkpoint_15 : decode M_MD_checkpoint.2.1 15 = .ok (.iconst (0), 1) := by decide +kernel
theorem d_MD_checkpoint_16 : decode M_MD_checkpoint.2.1 16 = .ok (.putfield 113, 3) := by decide +kernel
theorem d_MD_checkpoint_19 : decode M_MD_checkpoint.2.1 19 = .ok (.aload_n 0, 1) := by decide +kernel
theorem d_MD_checkpoint_20 : decode M_MD_checkpoint.2.1 20 = .ok (.aload_n 0, 1) := by decide +kernel
theorem d_MD_checkpoint_21 : decode M_MD_checkpoint.2.1 21 = .ok (.invokevirtual 128, 3) := by decide +kernel
theorem d_MD_checkpoint_24 : decode M_MD_checkpoint.2.1 24 = .ok (.iconst (3), 1) := by decide +kernel
theorem d_MD_checkpoint_25 : decode M_MD_checkpoint.2.1 25 = .ok (.iadd, 1) := by decide +kernel
theorem d_MD_checkpoint_26 : decode M_MD_checkpoint.2.1 26 = .ok (.putfield 116, 3) := by decide +kernel
theorem d_MD_checkpoint_29 : decode M_MD_checkpoint.2.1 29 = .ok (.aload_n 0, 1) := by decide +kernel
theorem d_MD_checkpoint_30 : decode M_MD_checkpoint.2.1 30 = .ok (.getfield 116, 3) := by decide +kernel
theorem d_MD_checkpoint_33 : decode M_MD_checkpoint.2.1 33 = .ok (.iconst (3), 1) := by decide +kernel
theorem d_MD_checkpoint_34 : decode M_MD_checkpoint.2.1 34 = .ok (.isub, 1) := by decide +kernel
theorem d_MD_checkpoint_35 : decode M_MD_checkpoint.2.1 35 = .ok (.ireturn, 1) := by decide +kernel
theorem d_MD_checkpointAction_0 : decode M_MD_checkpointAction.2.1 0 = .ok (.aload_n 0, 1) := by decide +kernel
theorem d_MD_checkpointAction_1 : decode M_MD_checkpointAction.2.1 1 = .ok (.getfield 116, 3) := by decide +kernel
theorem d_MD_checkpointAction_4 : decode M_MD_checkpointAction.2.1 4 = .ok (.iconst (3), 1) := by decide +kernel
theorem d_MD_checkpointAction_5 : decode M_MD_checkpointAction.2.1 5 = .ok (.isub, 1) := by decide +kernel
theorem d_MD_checkpointAction_6 : decode M_MD_checkpointAction.2.1 6 = .ok (.istore_n 2, 1) := by decide +kernel
theorem d_MD_checkpointAction_7 : decode M_MD_checkpointAction.2.1 7 = .ok (.iload_n 1, 1) := by decide +kernel
theorem d_MD_checkpointAction_8 : decode M_MD_checkpointAction.2.1 8 = .ok (.iload_n 2, 1) := by decide +kernel
theorem d_MD_checkpointAction_9 : decode M_MD_checkpointAction.2.1 9 = .ok (.if_icmp .ge (117), 3) := by decide +kernel
theorem d_MD_checkpointAction_12 : decode M_MD_checkpointAction.2.1 12 = .ok (.iconst (0), 1) := by decide +kernel
theorem d_MD_checkpointAction_13 : decode M_MD_checkpointAction.2.1 13 = .ok (.istore_n 3, 1) := by decide +kernel
theorem d_MD_checkpointAction_14 : decode M_MD_checkpointAction.2.1 14 = .ok (.iconst (0), 1) := by decide +kernel
theorem d_MD_checkpointAction_15 : decode M_MD_checkpointAction.2.1 15 = .ok (.istore 4, 2) := by decide +kernel
theorem d_MD_checkpointAction_17 : decode M_MD_checkpointAction.2.1 17 = .ok (.iload 4, 2) := by decide +kernel
theorem d_MD_checkpointAction_19 : decode M_MD_checkpointAction.2.1 19 = .ok (.bipush (16), 2) := by decide +kernel
theorem d_MD_checkpointAction_21 : decode M_MD_checkpointAction.2.1 21 = .ok (.if_icmp .ge (94), 3) := by decide +kernel
theorem d_MD_checkpointAction_24 : decode M_MD_checkpointAction.2.1 24 = .ok (.aload_n 0, 1) := by decide +kernel
theorem d_MD_checkpointAction_25 : decode M_MD_checkpointAction.2.1 25 = .ok (.getfield 33, 3) := by decide +kernel
theorem d_MD_checkpointAction_28 : decode M_MD_checkpointAction.2.1 28 = .ok (.iload 4, 2) := by decide +kernel
theorem d_MD_checkpointAction_30 : decode M_MD_checkpointAction.2.1 30 = .ok (.baload, 1) := by decide +kernel
theorem d_MD_checkpointAction_31 : decode M_MD_checkpointAction.2.1 31 = .ok (.ifCond .eq (60), 3) := by decide +kernel
theorem d_MD_checkpointAction_34 : decode M_MD_checkpointAction.2.1 34 = .ok (.iload_n 3, 1) := by decide +kernel
theorem d_MD_checkpointAction_35 : decode M_MD_checkpointAction.2.1 35 = .ok (.iload_n 1, 1) := by decide +kernel
theorem d_MD_checkpointAction_36 : decode M_MD_checkpointAction.2.1 36 = .ok (.if_icmp .ne (55), 3) := by decide +kernel
theorem d_MD_checkpointAction_39 : decode M_MD_checkpointAction.2.1 39 = .ok (.aload_n 0, 1) := by decide +kernel
theorem d_MD_checkpointAction_40 : decode M_MD_checkpointAction.2.1 40 = .ok (.aload_n 0, 1) := by decide +kernel
theorem d_MD_checkpointAction_41 : decode M_MD_checkpointAction.2.1 41 = .ok (.getfield 37, 3) := by decide +kernel
theorem d_MD_checkpointAction_44 : decode M_MD_checkpointAction.2.1 44 = .ok (.iconst (4), 1) := by decide +kernel
theorem d_MD_checkpointAction_45 : decode M_MD_checkpointAction.2.1 45 = .ok (.iload 4, 2) := by decide +kernel
theorem d_MD_checkpointAction_47 : decode M_MD_checkpointAction.2.1 47 = .ok (.imul, 1) := by decide +kernel
theorem d_MD_checkpointAction_48 : decode M_MD_checkpointAction.2.1 48 = .ok (.iaload, 1) := by decide +kernel
theorem d_MD_checkpointAction_49 : decode M_MD_checkpointAction.2.1 49 = .ok (.aload_n 0, 1) := by decide +kernel
theorem d_MD_checkpointAction_50 : decode M_MD_checkpointAction.2.1 50 = .ok (.getfield 37, 3) := by decide +kernel
theorem d_MD_checkpointAction_53 : decode M_MD_checkpointAction.2.1 53 = .ok (.iconst (4), 1) := by decide +kernel
theorem d_MD_checkpointAction_54 : decode M_MD_checkpointAction.2.1 54 = .ok (.iload 4, 2) := by decide +kernel
theorem d_MD_checkpointAction_56 : decode M_MD_checkpointAction.2.1 56 = .ok (.imul, 1) := by decide +kernel
theorem d_MD_checkpointAction_57 : decode M_MD_checkpointAction.2.1 57 = .ok (.iconst (1), 1) := by decide +kernel
theorem d_MD_checkpointAction_58 : decode M_MD_checkpointAction.2.1 58 = .ok (.iadd, 1) := by decide +kernel
theorem d_MD_checkpointAction_59 : decode M_MD_checkpointAction.2.1 59 = .ok (.iaload, 1) := by decide +kernel
theorem d_MD_checkpointAction_60 : decode M_MD_checkpointAction.2.1 60 = .ok (.aload_n 0, 1) := by decide +kernel
theorem d_MD_checkpointAction_61 : decode M_MD_checkpointAction.2.1 61 = .ok (.getfield 37, 3) := by decide +kernel
theorem d_MD_checkpointAction_64 : decode M_MD_checkpointAction.2.1 64 = .ok (.iconst (4), 1) := by decide +kernel
theorem d_MD_checkpointAction_65 : decode M_MD_checkpointAction.2.1 65 = .ok (.iload 4, 2) := by decide +kernel
theorem d_MD_checkpointAction_67 : decode M_MD_checkpointAction.2.1 67 = .ok (.imul, 1) := by decide +kernel
theorem d_MD_checkpointAction_68 : decode M_MD_checkpointAction.2.1 68 = .ok (.iconst (2), 1) := by decide +kernel
theorem d_MD_checkpointAction_69 : decode M_MD_checkpointAction.2.1 69 = .ok (.iadd, 1) := by decide +kernel
theorem d_MD_checkpointAction_70 : decode M_MD_checkpointAction.2.1 70 = .ok (.iaload, 1) := by decide +kernel
theorem d_MD_checkpointAction_71 : decode M_MD_checkpointAction.2.1 71 = .ok (.aload_n 0, 1) := by decide +kernel
theorem d_MD_checkpointAction_72 : decode M_MD_checkpointAction.2.1 72 = .ok (.getfield 37, 3) := by decide +kernel
theorem d_MD_checkpointAction_75 : decode M_MD_checkpointAction.2.1 75 = .ok (.iconst (4), 1) := by decide +kernel
theorem d_MD_checkpointAction_76 : decode M_MD_checkpointAction.2.1 76 = .ok (.iload 4, 2) := by decide +kernel
theorem d_MD_checkpointAction_78 : decode M_MD_checkpointAction.2.1 78 = .ok (.imul, 1) := by decide +kernel
theorem d_MD_checkpointAction_79 : decode M_MD_checkpointAction.2.1 79 = .ok (.iconst (3), 1) := by decide +kernel
theorem d_MD_checkpointAction_80 : decode M_MD_checkpointAction.2.1 80 = .ok (.iadd, 1) := by decide +kernel
theorem d_MD_checkpointAction_81 : decode M_MD_checkpointAction.2.1 81 = .ok (.iaload, 1) := by decide +kernel
theorem d_MD_checkpointAction_82 : decode M_MD_checkpointAction.2.1 82 = .ok (.invokevirtual 94, 3) := by decide +kernel
theorem d_MD_checkpointAction_85 : decode M_MD_checkpointAction.2.1 85 = .ok (.aload_n 0, 1) := by decide +kernel
theorem d_MD_checkpointAction_86 : decode M_MD_checkpointAction.2.1 86 = .ok (.iload 4, 2) := by decide +kernel
theorem d_MD_checkpointAction_88 : decode M_MD_checkpointAction.2.1 88 = .ok (.putfield 131, 3) := by decide +kernel
theorem d_MD_checkpointAction_91 : decode M_MD_checkpointAction.2.1 91 = .ok (.aload_n 0, 1) := by decide +kernel
theorem d_MD_checkpointAction_92 : decode M_MD_checkpointAction.2.1 92 = .ok (.getfield 33, 3) := by decide +kernel
theorem d_MD_checkpointAction_95 : decode M_MD_checkpointAction.2.1 95 = .ok (.iload 4, 2) := by decide +kernel
theorem d_MD_checkpointAction_97 : decode M_MD_checkpointAction.2.1 97 = .ok (.baload, 1) := by decide +kernel
theorem d_MD_checkpointAction_98 : decode M_MD_checkpointAction.2.1 98 = .ok (.ifCond .eq (9), 3) := by decide +kernel
theorem d_MD_checkpointAction_101 : decode M_MD_checkpointAction.2.1 101 = .ok (.iload_n 3, 1) := by decide +kernel
theorem d_MD_checkpointAction_102 : decode M_MD_checkpointAction.2.1 102 = .ok (.iconst (1), 1) := by decide +kernel
theorem d_MD_checkpointAction_103 : decode M_MD_checkpointAction.2.1 103 = .ok (.iadd, 1) := by decide +kernel
theorem d_MD_checkpointAction_104 : decode M_MD_checkpointAction.2.1 104 = .ok (.goto (4), 3) := by decide +kernel
theorem d_MD_checkpointAction_107 : decode M_MD_checkpointAction.2.1 107 = .ok (.iload_n 3, 1) := by decide +kernel
theorem d_MD_checkpointAction_108 : decode M_MD_checkpointAction.2.1 108 = .ok (.istore_n 3, 1) := by decide +kernel
theorem d_MD_checkpointAction_109 : decode M_MD_checkpointAction.2.1 109 = .ok (.iinc 4 (1), 3) := by decide +kernel
theorem d_MD_checkpointAction_112 : decode M_MD_checkpointAction.2.1 112 = .ok (.goto (-95), 3) := by decide +kernel
theorem d_MD_checkpointAction_115 : decode M_MD_checkpointAction.2.1 115 = .ok (.aload_n 0, 1) := by decide +kernel
theorem d_MD_checkpointAction_116 : decode M_MD_checkpointAction.2.1 116 = .ok (.aload_n 0, 1) := by decide +kernel
theorem d_MD_checkpointAction_117 : decode M_MD_checkpointAction.2.1 117 = .ok (.getfield 131, 3) := by decide +kernel
theorem d_MD_checkpointAction_120 : decode M_MD_checkpointAction.2.1 120 = .ok (.invokevirtual 83, 3) := by decide +kernel
theorem d_MD_checkpointAction_123 : decode M_MD_checkpointAction.2.1 123 = .ok (.goto (38), 3) := by decide +kernel
theorem d_MD_checkpointAction_126 : decode M_MD_checkpointAction.2.1 126 = .ok (.iload_n 1, 1) := by decide +kernel
theorem d_MD_checkpointAction_127 : decode M_MD_checkpointAction.2.1 127 = .ok (.iload_n 2, 1) := by decide +kernel
theorem d_MD_checkpointAction_128 : decode M_MD_checkpointAction.2.1 128 = .ok (.iconst (1), 1) := by decide +kernel
theorem d_MD_checkpointAction_129 : decode M_MD_checkpointAction.2.1 129 = .ok (.iadd, 1) := by decide +kernel
theorem d_MD_checkpointAction_130 : decode M_MD_checkpointAction.2.1 130 = .ok (.if_icmp .ne (27), 3) := by decide +kernel
theorem d_MD_checkpointAction_133 : decode M_MD_checkpointAction.2.1 133 = .ok (.aload_n 0, 1) := by decide +kernel
theorem d_MD_checkpointAction_134 : decode M_MD_checkpointAction.2.1 134 = .ok (.ldc 49, 2) := by decide +kernel
theorem d_MD_checkpointAction_136 : decode M_MD_checkpointAction.2.1 136 = .ok (.aload_n 0, 1) := by decide +kernel
theorem d_MD_checkpointAction_137 : decode M_MD_checkpointAction.2.1 137 = .ok (.getfield 23, 3) := by decide +kernel
theorem d_MD_checkpointAction_140 : decode M_MD_checkpointAction.2.1 140 = .ok (.aload_n 0, 1) := by decide +kernel
theorem d_MD_checkpointAction_141 : decode M_MD_checkpointAction.2.1 141 = .ok (.getfield 119, 3) := by decide +kernel
theorem d_MD_checkpointAction_144 : decode M_MD_checkpointAction.2.1 144 = .ok (.iconst (0), 1) := by decide +kernel
theorem d_MD_checkpointAction_145 : decode M_MD_checkpointAction.2.1 145 = .ok (.invokevirtual 94, 3) := by decide +kernel
theorem d_MD_checkpointAction_148 : decode M_MD_checkpointAction.2.1 148 = .ok (.aload_n 0, 1) := by decide +kernel
theorem d_MD_checkpointAction_149 : decode M_MD_checkpointAction.2.1 149 = .ok (.bipush (16), 2) := by decide +kernel
theorem d_MD_checkpointAction_151 : decode M_MD_checkpointAction.2.1 151 = .ok (.invokevirtual 83, 3) := by decide +kernel
theorem d_MD_checkpointAction_154 : decode M_MD_checkpointAction.2.1 154 = .ok (.goto (7), 3) := by decide +kernel
theorem d_MD_checkpointAction_157 : decode M_MD_checkpointAction.2.1 157 = .ok (.aload_n 0, 1) := by decide +kernel
theorem d_MD_checkpointAction_158 : decode M_MD_checkpointAction.2.1 158 = .ok (.invokevirtual 125, 3) := by decide +kernel
theorem d_MD_checkpointAction_161 : decode M_MD_checkpointAction.2.1 161 = .ok (.return_, 1) := by decide +kernel
theorem d_MD_checkpointed_0 : decode M_MD_checkpointed.2.1 0 = .ok (.aload_n 0, 1) := by decide +kernel
theorem d_MD_checkpointed_1 : decode M_MD_checkpointed.2.1 1 = .ok (.iconst (0), 1) := by decide +kernel
theorem d_MD_checkpointed_2 : decode M_MD_checkpointed.2.1 2 = .ok (.putfield 110, 3) := by decide +kernel
theorem d_MD_checkpointed_5 : decode M_MD_checkpointed.2.1 5 = .ok (.iconst (0), 1) := by decide +kernel
theorem d_MD_checkpointed_6 : decode M_MD_checkpointed.2.1 6 = .ok (.istore_n 1, 1) := by decide +kernel
theorem d_MD_checkpointed_7 : decode M_MD_checkpointed.2.1 7 = .ok (.iload_n 1, 1) := by decide +kernel
theorem d_MD_checkpointed_8 : decode M_MD_checkpointed.2.1 8 = .ok (.bipush (16), 2) := by decide +kernel
theorem d_MD_checkpointed_10 : decode M_MD_checkpointed.2.1 10 = .ok (.if_icmp .ge (16), 3) := by decide +kernel
theorem d_MD_checkpointed_13 : decode M_MD_checkpointed.2.1 13 = .ok (.aload_n 0, 1) := by decide +kernel
theorem d_MD_checkpointed_14 : decode M_MD_checkpointed.2.1 14 = .ok (.getfield 33, 3) := by decide +kernel
theorem d_MD_checkpointed_17 : decode M_MD_checkpointed.2.1 17 = .ok (.iload_n 1, 1) := by decide +kernel
theorem d_MD_checkpointed_18 : decode M_MD_checkpointed.2.1 18 = .ok (.iconst (0), 1) := by decide +kernel
theorem d_MD_checkpointed_19 : decode M_MD_checkpointed.2.1 19 = .ok (.bastore, 1) := by decide +kernel
theorem d_MD_checkpointed_20 : decode M_MD_checkpointed.2.1 20 = .ok (.iinc 1 (1), 3) := by decide +kernel
theorem d_MD_checkpointed_23 : decode M_MD_checkpointed.2.1 23 = .ok (.goto (-16), 3) := by decide +kernel
theorem d_MD_checkpointed_26 : decode M_MD_checkpointed.2.1 26 = .ok (.return_, 1) := by decide +kernel
theorem d_MD_logWord_0 : decode M_MD_logWord.2.1 0 = .ok (.aload_n 0, 1) := by decide +kernel
theorem d_MD_logWord_1 : decode M_MD_logWord.2.1 1 = .ok (.bipush (17), 2) := by decide +kernel
theorem d_MD_logWord_3 : decode M_MD_logWord.2.1 3 = .ok (.aload_n 0, 1) := by decide +kernel
theorem d_MD_logWord_4 : decode M_MD_logWord.2.1 4 = .ok (.getfield 134, 3) := by decide +kernel
theorem d_MD_logWord_7 : decode M_MD_logWord.2.1 7 = .ok (.iload_n 1, 1) := by decide +kernel
theorem d_MD_logWord_8 : decode M_MD_logWord.2.1 8 = .ok (.iadd, 1) := by decide +kernel
theorem d_MD_logWord_9 : decode M_MD_logWord.2.1 9 = .ok (.bipush (24), 2) := by decide +kernel
theorem d_MD_logWord_11 : decode M_MD_logWord.2.1 11 = .ok (.irem, 1) := by decide +kernel
theorem d_MD_logWord_12 : decode M_MD_logWord.2.1 12 = .ok (.iadd, 1) := by decide +kernel
theorem d_MD_logWord_13 : decode M_MD_logWord.2.1 13 = .ok (.iload_n 2, 1) := by decide +kernel
theorem d_MD_logWord_14 : decode M_MD_logWord.2.1 14 = .ok (.invokevirtual 65, 3) := by decide +kernel
theorem d_MD_logWord_17 : decode M_MD_logWord.2.1 17 = .ok (.ireturn, 1) := by decide +kernel
theorem d_MD_mixSector_0 : decode M_MD_mixSector.2.1 0 = .ok (.iload_n 1, 1) := by decide +kernel
theorem d_MD_mixSector_1 : decode M_MD_mixSector.2.1 1 = .ok (.istore_n 3, 1) := by decide +kernel
theorem d_MD_mixSector_2 : decode M_MD_mixSector.2.1 2 = .ok (.iconst (0), 1) := by decide +kernel
theorem d_MD_mixSector_3 : decode M_MD_mixSector.2.1 3 = .ok (.istore 4, 2) := by decide +kernel
theorem d_MD_mixSector_5 : decode M_MD_mixSector.2.1 5 = .ok (.iload 4, 2) := by decide +kernel
theorem d_MD_mixSector_7 : decode M_MD_mixSector.2.1 7 = .ok (.iconst (4), 1) := by decide +kernel
theorem d_MD_mixSector_8 : decode M_MD_mixSector.2.1 8 = .ok (.if_icmp .ge (21), 3) := by decide +kernel
theorem d_MD_mixSector_11 : decode M_MD_mixSector.2.1 11 = .ok (.iload_n 3, 1) := by decide +kernel
theorem d_MD_mixSector_12 : decode M_MD_mixSector.2.1 12 = .ok (.aload_n 0, 1) := by decide +kernel
theorem d_MD_mixSector_13 : decode M_MD_mixSector.2.1 13 = .ok (.iload_n 2, 1) := by decide +kernel
theorem d_MD_mixSector_14 : decode M_MD_mixSector.2.1 14 = .ok (.iload 4, 2) := by decide +kernel
theorem d_MD_mixSector_16 : decode M_MD_mixSector.2.1 16 = .ok (.invokevirtual 137, 3) := by decide +kernel
theorem d_MD_mixSector_19 : decode M_MD_mixSector.2.1 19 = .ok (.invokestatic 104, 3) := by decide +kernel
theorem d_MD_mixSector_22 : decode M_MD_mixSector.2.1 22 = .ok (.istore_n 3, 1) := by decide +kernel
theorem d_MD_mixSector_23 : decode M_MD_mixSector.2.1 23 = .ok (.iinc 4 (1), 3) := by decide +kernel
theorem d_MD_mixSector_26 : decode M_MD_mixSector.2.1 26 = .ok (.goto (-21), 3) := by decide +kernel
theorem d_MD_mixSector_29 : decode M_MD_mixSector.2.1 29 = .ok (.iload_n 3, 1) := by decide +kernel
theorem d_MD_mixSector_30 : decode M_MD_mixSector.2.1 30 = .ok (.ireturn, 1) := by decide +kernel
theorem d_MD_validAt_0 : decode M_MD_validAt.2.1 0 = .ok (.iload_n 2, 1) := by decide +kernel
theorem d_MD_validAt_1 : decode M_MD_validAt.2.1 1 = .ok (.istore_n 3, 1) := by decide +kernel
theorem d_MD_validAt_2 : decode M_MD_validAt.2.1 2 = .ok (.iload_n 1, 1) := by decide +kernel
theorem d_MD_validAt_3 : decode M_MD_validAt.2.1 3 = .ok (.istore 4, 2) := by decide +kernel
theorem d_MD_validAt_5 : decode M_MD_validAt.2.1 5 = .ok (.iconst (1), 1) := by decide +kernel
theorem d_MD_validAt_6 : decode M_MD_validAt.2.1 6 = .ok (.istore 5, 2) := by decide +kernel
theorem d_MD_validAt_8 : decode M_MD_validAt.2.1 8 = .ok (.iload 4, 2) := by decide +kernel
theorem d_MD_validAt_10 : decode M_MD_validAt.2.1 10 = .ok (.bipush (24), 2) := by decide +kernel
theorem d_MD_validAt_12 : decode M_MD_validAt.2.1 12 = .ok (.if_icmp .ge (189), 3) := by decide +kernel
theorem d_MD_validAt_15 : decode M_MD_validAt.2.1 15 = .ok (.aload_n 0, 1) := by decide +kernel
theorem d_MD_validAt_16 : decode M_MD_validAt.2.1 16 = .ok (.iload 4, 2) := by decide +kernel
theorem d_MD_validAt_18 : decode M_MD_validAt.2.1 18 = .ok (.iconst (0), 1) := by decide +kernel
theorem d_MD_validAt_19 : decode M_MD_validAt.2.1 19 = .ok (.invokevirtual 137, 3) := by decide +kernel
theorem d_MD_validAt_22 : decode M_MD_validAt.2.1 22 = .ok (.ldc 49, 2) := by decide +kernel
theorem d_MD_validAt_24 : decode M_MD_validAt.2.1 24 = .ok (.if_icmp .ne (177), 3) := by decide +kernel
theorem d_MD_validAt_27 : decode M_MD_validAt.2.1 27 = .ok (.aload_n 0, 1) := by decide +kernel
theorem d_MD_validAt_28 : decode M_MD_validAt.2.1 28 = .ok (.iload 4, 2) := by decide +kernel
theorem d_MD_validAt_30 : decode M_MD_validAt.2.1 30 = .ok (.iconst (2), 1) := by decide +kernel
theorem d_MD_validAt_31 : decode M_MD_validAt.2.1 31 = .ok (.invokevirtual 137, 3) := by decide +kernel
theorem d_MD_validAt_34 : decode M_MD_validAt.2.1 34 = .ok (.iload_n 2, 1) := by decide +kernel
theorem d_MD_validAt_35 : decode M_MD_validAt.2.1 35 = .ok (.if_icmp .ne (166), 3) := by decide +kernel
theorem d_MD_validAt_38 : decode M_MD_validAt.2.1 38 = .ok (.aload_n 0, 1) := by decide +kernel
theorem d_MD_validAt_39 : decode M_MD_validAt.2.1 39 = .ok (.iload 4, 2) := by decide +kernel
theorem d_MD_validAt_41 : decode M_MD_validAt.2.1 41 = .ok (.iconst (1), 1) := by decide +kernel
theorem d_MD_validAt_42 : decode M_MD_validAt.2.1 42 = .ok (.invokevirtual 137, 3) := by decide +kernel
theorem d_MD_validAt_45 : decode M_MD_validAt.2.1 45 = .ok (.istore 6, 2) := by decide +kernel
theorem d_MD_validAt_47 : decode M_MD_validAt.2.1 47 = .ok (.aload_n 0, 1) := by decide +kernel
theorem d_MD_validAt_48 : decode M_MD_validAt.2.1 48 = .ok (.iload 4, 2) := by decide +kernel
theorem d_MD_validAt_50 : decode M_MD_validAt.2.1 50 = .ok (.iconst (3), 1) := by decide +kernel
theorem d_MD_validAt_51 : decode M_MD_validAt.2.1 51 = .ok (.invokevirtual 137, 3) := by decide +kernel
theorem d_MD_validAt_54 : decode M_MD_validAt.2.1 54 = .ok (.bipush (7), 2) := by decide +kernel
theorem d_MD_validAt_56 : decode M_MD_validAt.2.1 56 = .ok (.iand, 1) := by decide +kernel
theorem d_MD_validAt_57 : decode M_MD_validAt.2.1 57 = .ok (.istore 7, 2) := by decide +kernel
theorem d_MD_validAt_59 : decode M_MD_validAt.2.1 59 = .ok (.iload 6, 2) := by decide +kernel
theorem d_MD_validAt_61 : decode M_MD_validAt.2.1 61 = .ok (.iconst (3), 1) := by decide +kernel
theorem d_MD_validAt_62 : decode M_MD_validAt.2.1 62 = .ok (.if_icmp .ne (25), 3) := by decide +kernel
theorem d_MD_validAt_65 : decode M_MD_validAt.2.1 65 = .ok (.aload_n 0, 1) := by decide +kernel
theorem d_MD_validAt_66 : decode M_MD_validAt.2.1 66 = .ok (.iload 4, 2) := by decide +kernel
theorem d_MD_validAt_68 : decode M_MD_validAt.2.1 68 = .ok (.iconst (3), 1) := by decide +kernel
theorem d_MD_validAt_69 : decode M_MD_validAt.2.1 69 = .ok (.invokevirtual 137, 3) := by decide +kernel
theorem d_MD_validAt_72 : decode M_MD_validAt.2.1 72 = .ok (.iload_n 3, 1) := by decide +kernel
theorem d_MD_validAt_73 : decode M_MD_validAt.2.1 73 = .ok (.if_icmp .ne (12), 3) := by decide +kernel
theorem d_MD_validAt_76 : decode M_MD_validAt.2.1 76 = .ok (.iload 4, 2) := by decide +kernel
theorem d_MD_validAt_78 : decode M_MD_validAt.2.1 78 = .ok (.iconst (1), 1) := by decide +kernel
theorem d_MD_validAt_79 : decode M_MD_validAt.2.1 79 = .ok (.iadd, 1) := by decide +kernel
theorem d_MD_validAt_80 : decode M_MD_validAt.2.1 80 = .ok (.iload_n 1, 1) := by decide +kernel
theorem d_MD_validAt_81 : decode M_MD_validAt.2.1 81 = .ok (.isub, 1) := by decide +kernel
theorem d_MD_validAt_82 : decode M_MD_validAt.2.1 82 = .ok (.goto (4), 3) := by decide +kernel
theorem d_MD_validAt_85 : decode M_MD_validAt.2.1 85 = .ok (.iconst (0), 1) := by decide +kernel
theorem d_MD_validAt_86 : decode M_MD_validAt.2.1 86 = .ok (.ireturn, 1) := by decide +kernel
theorem d_MD_validAt_87 : decode M_MD_validAt.2.1 87 = .ok (.iload 6, 2) := by decide +kernel
theorem d_MD_validAt_89 : decode M_MD_validAt.2.1 89 = .ok (.iconst (1), 1) := by decide +kernel
theorem d_MD_validAt_90 : decode M_MD_validAt.2.1 90 = .ok (.if_icmp .ne (34), 3) := by decide +kernel
theorem d_MD_validAt_93 : decode M_MD_validAt.2.1 93 = .ok (.iload 5, 2) := by decide +kernel
theorem d_MD_validAt_95 : decode M_MD_validAt.2.1 95 = .ok (.ifCond .eq (29), 3) := by decide +kernel
theorem d_MD_validAt_98 : decode M_MD_validAt.2.1 98 = .ok (.iload 7, 2) := by decide +kernel
theorem d_MD_validAt_100 : decode M_MD_validAt.2.1 100 = .ok (.iconst (1), 1) := by decide +kernel
theorem d_MD_validAt_101 : decode M_MD_validAt.2.1 101 = .ok (.if_icmp .lt (23), 3) := by decide +kernel
theorem d_MD_validAt_104 : decode M_MD_validAt.2.1 104 = .ok (.iload 7, 2) := by decide +kernel
theorem d_MD_validAt_106 : decode M_MD_validAt.2.1 106 = .ok (.iconst (4), 1) := by decide +kernel
theorem d_MD_validAt_107 : decode M_MD_validAt.2.1 107 = .ok (.if_icmp .gt (17), 3) := by decide +kernel
theorem d_MD_validAt_110 : decode M_MD_validAt.2.1 110 = .ok (.iload 4, 2) := by decide +kernel
theorem d_MD_validAt_112 : decode M_MD_validAt.2.1 112 = .ok (.iload 7, 2) := by decide +kernel
theorem d_MD_validAt_114 : decode M_MD_validAt.2.1 114 = .ok (.iadd, 1) := by decide +kernel
theorem d_MD_validAt_115 : decode M_MD_validAt.2.1 115 = .ok (.bipush (24), 2) := by decide +kernel
theorem d_MD_validAt_117 : decode M_MD_validAt.2.1 117 = .ok (.if_icmp .ge (7), 3) := by decide +kernel
theorem d_MD_validAt_120 : decode M_MD_validAt.2.1 120 = .ok (.iconst (1), 1) := by decide +kernel
theorem d_MD_validAt_121 : decode M_MD_validAt.2.1 121 = .ok (.goto (4), 3) := by decide +kernel
theorem d_MD_validAt_124 : decode M_MD_validAt.2.1 124 = .ok (.iconst (0), 1) := by decide +kernel
theorem d_MD_validAt_125 : decode M_MD_validAt.2.1 125 = .ok (.istore 8, 2) := by decide +kernel
theorem d_MD_validAt_127 : decode M_MD_validAt.2.1 127 = .ok (.iload 8, 2) := by decide +kernel
theorem d_MD_validAt_129 : decode M_MD_validAt.2.1 129 = .ok (.ifCond .ne (16), 3) := by decide +kernel
theorem d_MD_validAt_132 : decode M_MD_validAt.2.1 132 = .ok (.iload 6, 2) := by decide +kernel
theorem d_MD_validAt_134 : decode M_MD_validAt.2.1 134 = .ok (.iconst (2), 1) := by decide +kernel
theorem d_MD_validAt_135 : decode M_MD_validAt.2.1 135 = .ok (.if_icmp .ne (8), 3) := by decide +kernel
theorem d_MD_validAt_138 : decode M_MD_validAt.2.1 138 = .ok (.iload 5, 2) := by decide +kernel
theorem d_MD_validAt_140 : decode M_MD_validAt.2.1 140 = .ok (.ifCond .ne (5), 3) := by decide +kernel
theorem d_MD_validAt_143 : decode M_MD_validAt.2.1 143 = .ok (.iconst (0), 1) := by decide +kernel
theorem d_MD_validAt_144 : decode M_MD_validAt.2.1 144 = .ok (.ireturn, 1) := by decide +kernel
theorem d_MD_validAt_145 : decode M_MD_validAt.2.1 145 = .ok (.iload 8, 2) := by decide +kernel
theorem d_MD_validAt_147 : decode M_MD_validAt.2.1 147 = .ok (.ifCond .eq (10), 3) := by decide +kernel
theorem d_MD_validAt_150 : decode M_MD_validAt.2.1 150 = .ok (.iconst (1), 1) := by decide +kernel
theorem d_MD_validAt_151 : decode M_MD_validAt.2.1 151 = .ok (.iload 7, 2) := by decide +kernel
theorem d_MD_validAt_153 : decode M_MD_validAt.2.1 153 = .ok (.iadd, 1) := by decide +kernel
theorem d_MD_validAt_154 : decode M_MD_validAt.2.1 154 = .ok (.goto (4), 3) := by decide +kernel
theorem d_MD_validAt_157 : decode M_MD_validAt.2.1 157 = .ok (.iconst (1), 1) := by decide +kernel
theorem d_MD_validAt_158 : decode M_MD_validAt.2.1 158 = .ok (.istore 9, 2) := by decide +kernel
theorem d_MD_validAt_160 : decode M_MD_validAt.2.1 160 = .ok (.iconst (0), 1) := by decide +kernel
theorem d_MD_validAt_161 : decode M_MD_validAt.2.1 161 = .ok (.istore 10, 2) := by decide +kernel
theorem d_MD_validAt_163 : decode M_MD_validAt.2.1 163 = .ok (.iload 10, 2) := by decide +kernel
theorem d_MD_validAt_165 : decode M_MD_validAt.2.1 165 = .ok (.iload 9, 2) := by decide +kernel
theorem d_MD_validAt_167 : decode M_MD_validAt.2.1 167 = .ok (.if_icmp .ge (20), 3) := by decide +kernel
theorem d_MD_validAt_170 : decode M_MD_validAt.2.1 170 = .ok (.aload_n 0, 1) := by decide +kernel
theorem d_MD_validAt_171 : decode M_MD_validAt.2.1 171 = .ok (.iload_n 3, 1) := by decide +kernel
theorem d_MD_validAt_172 : decode M_MD_validAt.2.1 172 = .ok (.iload 4, 2) := by decide +kernel
theorem d_MD_validAt_174 : decode M_MD_validAt.2.1 174 = .ok (.iload 10, 2) := by decide +kernel
theorem d_MD_validAt_176 : decode M_MD_validAt.2.1 176 = .ok (.iadd, 1) := by decide +kernel
theorem d_MD_validAt_177 : decode M_MD_validAt.2.1 177 = .ok (.invokevirtual 140, 3) := by decide +kernel
theorem d_MD_validAt_180 : decode M_MD_validAt.2.1 180 = .ok (.istore_n 3, 1) := by decide +kernel
theorem d_MD_validAt_181 : decode M_MD_validAt.2.1 181 = .ok (.iinc 10 (1), 3) := by decide +kernel
theorem d_MD_validAt_184 : decode M_MD_validAt.2.1 184 = .ok (.goto (-21), 3) := by decide +kernel
theorem d_MD_validAt_187 : decode M_MD_validAt.2.1 187 = .ok (.iload 4, 2) := by decide +kernel
theorem d_MD_validAt_189 : decode M_MD_validAt.2.1 189 = .ok (.iload 9, 2) := by decide +kernel
theorem d_MD_validAt_191 : decode M_MD_validAt.2.1 191 = .ok (.iadd, 1) := by decide +kernel
theorem d_MD_validAt_192 : decode M_MD_validAt.2.1 192 = .ok (.istore 4, 2) := by decide +kernel
theorem d_MD_validAt_194 : decode M_MD_validAt.2.1 194 = .ok (.iload 8, 2) := by decide +kernel
theorem d_MD_validAt_196 : decode M_MD_validAt.2.1 196 = .ok (.istore 5, 2) := by decide +kernel
theorem d_MD_validAt_198 : decode M_MD_validAt.2.1 198 = .ok (.goto (-190), 3) := by decide +kernel
theorem d_MD_validAt_201 : decode M_MD_validAt.2.1 201 = .ok (.iconst (0), 1) := by decide +kernel
theorem d_MD_validAt_202 : decode M_MD_validAt.2.1 202 = .ok (.ireturn, 1) := by decide +kernel
theorem d_MD_findHead_0 : decode M_MD_findHead.2.1 0 = .ok (.aload_n 0, 1) := by decide +kernel
theorem d_MD_findHead_1 : decode M_MD_findHead.2.1 1 = .ok (.bipush (16), 2) := by decide +kernel
theorem d_MD_findHead_3 : decode M_MD_findHead.2.1 3 = .ok (.iconst (0), 1) := by decide +kernel
theorem d_MD_findHead_4 : decode M_MD_findHead.2.1 4 = .ok (.invokevirtual 65, 3) := by decide +kernel
theorem d_MD_findHead_7 : decode M_MD_findHead.2.1 7 = .ok (.ldc 49, 2) := by decide +kernel
theorem d_MD_findHead_9 : decode M_MD_findHead.2.1 9 = .ok (.if_icmp .ne (29), 3) := by decide +kernel
theorem d_MD_findHead_12 : decode M_MD_findHead.2.1 12 = .ok (.aload_n 0, 1) := by decide +kernel
theorem d_MD_findHead_13 : decode M_MD_findHead.2.1 13 = .ok (.bipush (16), 2) := by decide +kernel
theorem d_MD_findHead_15 : decode M_MD_findHead.2.1 15 = .ok (.iconst (2), 1) := by decide +kernel
theorem d_MD_findHead_16 : decode M_MD_findHead.2.1 16 = .ok (.invokevirtual 65, 3) := by decide +kernel
theorem d_MD_findHead_19 : decode M_MD_findHead.2.1 19 = .ok (.ifCond .lt (19), 3) := by decide +kernel
theorem d_MD_findHead_22 : decode M_MD_findHead.2.1 22 = .ok (.aload_n 0, 1) := by decide +kernel
theorem d_MD_findHead_23 : decode M_MD_findHead.2.1 23 = .ok (.bipush (16), 2) := by decide +kernel
theorem d_MD_findHead_25 : decode M_MD_findHead.2.1 25 = .ok (.iconst (2), 1) := by decide +kernel
theorem d_MD_findHead_26 : decode M_MD_findHead.2.1 26 = .ok (.invokevirtual 65, 3) := by decide +kernel
theorem d_MD_findHead_29 : decode M_MD_findHead.2.1 29 = .ok (.bipush (23), 2) := by decide +kernel
theorem d_MD_findHead_31 : decode M_MD_findHead.2.1 31 = .ok (.if_icmp .gt (7), 3) := by decide +kernel
theorem d_MD_findHead_34 : decode M_MD_findHead.2.1 34 = .ok (.iconst (1), 1) := by decide +kernel
theorem d_MD_findHead_35 : decode M_MD_findHead.2.1 35 = .ok (.goto (4), 3) := by decide +kernel
theorem d_MD_findHead_38 : decode M_MD_findHead.2.1 38 = .ok (.iconst (0), 1) := by decide +kernel
theorem d_MD_findHead_39 : decode M_MD_findHead.2.1 39 = .ok (.istore_n 1, 1) := by decide +kernel
theorem d_MD_findHead_40 : decode M_MD_findHead.2.1 40 = .ok (.aload_n 0, 1) := by decide +kernel
theorem d_MD_findHead_41 : decode M_MD_findHead.2.1 41 = .ok (.iload_n 1, 1) := by decide +kernel
theorem d_MD_findHead_42 : decode M_MD_findHead.2.1 42 = .ok (.ifCond .eq (13), 3) := by decide +kernel
theorem d_MD_findHead_45 : decode M_MD_findHead.2.1 45 = .ok (.aload_n 0, 1) := by decide +kernel
theorem d_MD_findHead_46 : decode M_MD_findHead.2.1 46 = .ok (.bipush (16), 2) := by decide +kernel
theorem d_MD_findHead_48 : decode M_MD_findHead.2.1 48 = .ok (.iconst (2), 1) := by decide +kernel
theorem d_MD_findHead_49 : decode M_MD_findHead.2.1 49 = .ok (.invokevirtual 65, 3) := by decide +kernel
theorem d_MD_findHead_52 : decode M_MD_findHead.2.1 52 = .ok (.goto (4), 3) := by decide +kernel
theorem d_MD_findHead_55 : decode M_MD_findHead.2.1 55 = .ok (.iconst (0), 1) := by decide +kernel
theorem d_MD_findHead_56 : decode M_MD_findHead.2.1 56 = .ok (.putfield 134, 3) := by decide +kernel
theorem d_MD_findHead_59 : decode M_MD_findHead.2.1 59 = .ok (.aload_n 0, 1) := by decide +kernel
theorem d_MD_findHead_60 : decode M_MD_findHead.2.1 60 = .ok (.iload_n 1, 1) := by decide +kernel
theorem d_MD_findHead_61 : decode M_MD_findHead.2.1 61 = .ok (.ifCond .eq (13), 3) := by decide +kernel
theorem d_MD_findHead_64 : decode M_MD_findHead.2.1 64 = .ok (.aload_n 0, 1) := by decide +kernel
theorem d_MD_findHead_65 : decode M_MD_findHead.2.1 65 = .ok (.bipush (16), 2) := by decide +kernel
theorem d_MD_findHead_67 : decode M_MD_findHead.2.1 67 = .ok (.iconst (1), 1) := by decide +kernel
theorem d_MD_findHead_68 : decode M_MD_findHead.2.1 68 = .ok (.invokevirtual 65, 3) := by decide +kernel
theorem d_MD_findHead_71 : decode M_MD_findHead.2.1 71 = .ok (.goto (4), 3) := by decide +kernel
theorem d_MD_findHead_74 : decode M_MD_findHead.2.1 74 = .ok (.iconst (1), 1) := by decide +kernel
theorem d_MD_findHead_75 : decode M_MD_findHead.2.1 75 = .ok (.putfield 143, 3) := by decide +kernel
theorem d_MD_findHead_78 : decode M_MD_findHead.2.1 78 = .ok (.return_, 1) := by decide +kernel
theorem d_MD_findRevocations_0 : decode M_MD_findRevocations.2.1 0 = .ok (.aload_n 0, 1) := by decide +kernel
theorem d_MD_findRevocations_1 : decode M_MD_findRevocations.2.1 1 = .ok (.invokevirtual 146, 3) := by decide +kernel
theorem d_MD_findRevocations_4 : decode M_MD_findRevocations.2.1 4 = .ok (.iconst (0), 1) := by decide +kernel
theorem d_MD_findRevocations_5 : decode M_MD_findRevocations.2.1 5 = .ok (.istore_n 1, 1) := by decide +kernel
theorem d_MD_findRevocations_6 : decode M_MD_findRevocations.2.1 6 = .ok (.iload_n 1, 1) := by decide +kernel
theorem d_MD_findRevocations_7 : decode M_MD_findRevocations.2.1 7 = .ok (.bipush (16), 2) := by decide +kernel
theorem d_MD_findRevocations_9 : decode M_MD_findRevocations.2.1 9 = .ok (.if_icmp .ge (16), 3) := by decide +kernel
theorem d_MD_findRevocations_12 : decode M_MD_findRevocations.2.1 12 = .ok (.aload_n 0, 1) := by decide +kernel
theorem d_MD_findRevocations_13 : decode M_MD_findRevocations.2.1 13 = .ok (.getfield 46, 3) := by decide +kernel
theorem d_MD_findRevocations_16 : decode M_MD_findRevocations.2.1 16 = .ok (.iload_n 1, 1) := by decide +kernel
theorem d_MD_findRevocations_17 : decode M_MD_findRevocations.2.1 17 = .ok (.iconst (0), 1) := by decide +kernel
theorem d_MD_findRevocations_18 : decode M_MD_findRevocations.2.1 18 = .ok (.bastore, 1) := by decide +kernel
theorem d_MD_findRevocations_19 : decode M_MD_findRevocations.2.1 19 = .ok (.iinc 1 (1), 3) := by decide +kernel
theorem d_MD_findRevocations_22 : decode M_MD_findRevocations.2.1 22 = .ok (.goto (-16), 3) := by decide +kernel
theorem d_MD_findRevocations_25 : decode M_MD_findRevocations.2.1 25 = .ok (.aload_n 0, 1) := by decide +kernel
theorem d_MD_findRevocations_26 : decode M_MD_findRevocations.2.1 26 = .ok (.iconst (0), 1) := by decide +kernel
theorem d_MD_findRevocations_27 : decode M_MD_findRevocations.2.1 27 = .ok (.putfield 149, 3) := by decide +kernel
theorem d_MD_findRevocations_30 : decode M_MD_findRevocations.2.1 30 = .ok (.aload_n 0, 1) := by decide +kernel
theorem d_MD_findRevocations_31 : decode M_MD_findRevocations.2.1 31 = .ok (.aload_n 0, 1) := by decide +kernel
theorem d_MD_findRevocations_32 : decode M_MD_findRevocations.2.1 32 = .ok (.getfield 143, 3) := by decide +kernel
theorem d_MD_findRevocations_35 : decode M_MD_findRevocations.2.1 35 = .ok (.putfield 152, 3) := by decide +kernel
theorem d_MD_findRevocations_38 : decode M_MD_findRevocations.2.1 38 = .ok (.aload_n 0, 1) := by decide +kernel
theorem d_MD_findRevocations_39 : decode M_MD_findRevocations.2.1 39 = .ok (.iconst (0), 1) := by decide +kernel
theorem d_MD_findRevocations_40 : decode M_MD_findRevocations.2.1 40 = .ok (.aload_n 0, 1) := by decide +kernel
theorem d_MD_findRevocations_41 : decode M_MD_findRevocations.2.1 41 = .ok (.getfield 152, 3) := by decide +kernel
theorem d_MD_findRevocations_44 : decode M_MD_findRevocations.2.1 44 = .ok (.invokevirtual 155, 3) := by decide +kernel
theorem d_MD_findRevocations_47 : decode M_MD_findRevocations.2.1 47 = .ok (.istore_n 1, 1) := by decide +kernel
theorem d_MD_findRevocations_48 : decode M_MD_findRevocations.2.1 48 = .ok (.iload_n 1, 1) := by decide +kernel
theorem d_MD_findRevocations_49 : decode M_MD_findRevocations.2.1 49 = .ok (.ifCond .le (159), 3) := by decide +kernel
theorem d_MD_findRevocations_52 : decode M_MD_findRevocations.2.1 52 = .ok (.aload_n 0, 1) := by decide +kernel
theorem d_MD_findRevocations_53 : decode M_MD_findRevocations.2.1 53 = .ok (.getfield 149, 3) := by decide +kernel
theorem d_MD_findRevocations_56 : decode M_MD_findRevocations.2.1 56 = .ok (.iload_n 1, 1) := by decide +kernel
theorem d_MD_findRevocations_57 : decode M_MD_findRevocations.2.1 57 = .ok (.iadd, 1) := by decide +kernel
theorem d_MD_findRevocations_58 : decode M_MD_findRevocations.2.1 58 = .ok (.iconst (2), 1) := by decide +kernel
theorem d_MD_findRevocations_59 : decode M_MD_findRevocations.2.1 59 = .ok (.isub, 1) := by decide +kernel
theorem d_MD_findRevocations_60 : decode M_MD_findRevocations.2.1 60 = .ok (.istore_n 2, 1) := by decide +kernel
theorem d_MD_findRevocations_61 : decode M_MD_findRevocations.2.1 61 = .ok (.iload_n 1, 1) := by decide +kernel
theorem d_MD_findRevocations_62 : decode M_MD_findRevocations.2.1 62 = .ok (.iconst (1), 1) := by decide +kernel
theorem d_MD_findRevocations_63 : decode M_MD_findRevocations.2.1 63 = .ok (.if_icmp .le (53), 3) := by decide +kernel
theorem d_MD_findRevocations_66 : decode M_MD_findRevocations.2.1 66 = .ok (.aload_n 0, 1) := by decide +kernel
theorem d_MD_findRevocations_67 : decode M_MD_findRevocations.2.1 67 = .ok (.iload_n 2, 1) := by decide +kernel
theorem d_MD_findRevocations_68 : decode M_MD_findRevocations.2.1 68 = .ok (.iconst (0), 1) := by decide +kernel
theorem d_MD_findRevocations_69 : decode M_MD_findRevocations.2.1 69 = .ok (.invokevirtual 137, 3) := by decide +kernel
theorem d_MD_findRevocations_72 : decode M_MD_findRevocations.2.1 72 = .ok (.ldc 49, 2) := by decide +kernel
theorem d_MD_findRevocations_74 : decode M_MD_findRevocations.2.1 74 = .ok (.if_icmp .ne (42), 3) := by decide +kernel
theorem d_MD_findRevocations_77 : decode M_MD_findRevocations.2.1 77 = .ok (.aload_n 0, 1) := by decide +kernel
theorem d_MD_findRevocations_78 : decode M_MD_findRevocations.2.1 78 = .ok (.iload_n 2, 1) := by decide +kernel
theorem d_MD_findRevocations_79 : decode M_MD_findRevocations.2.1 79 = .ok (.iconst (1), 1) := by decide +kernel
theorem d_MD_findRevocations_80 : decode M_MD_findRevocations.2.1 80 = .ok (.invokevirtual 137, 3) := by decide +kernel
theorem d_MD_findRevocations_83 : decode M_MD_findRevocations.2.1 83 = .ok (.iconst (2), 1) := by decide +kernel
theorem d_MD_findRevocations_84 : decode M_MD_findRevocations.2.1 84 = .ok (.if_icmp .ne (32), 3) := by decide +kernel
theorem d_MD_findRevocations_87 : decode M_MD_findRevocations.2.1 87 = .ok (.aload_n 0, 1) := by decide +kernel
theorem d_MD_findRevocations_88 : decode M_MD_findRevocations.2.1 88 = .ok (.iload_n 2, 1) := by decide +kernel
theorem d_MD_findRevocations_89 : decode M_MD_findRevocations.2.1 89 = .ok (.iconst (2), 1) := by decide +kernel
theorem d_MD_findRevocations_90 : decode M_MD_findRevocations.2.1 90 = .ok (.invokevirtual 137, 3) := by decide +kernel
theorem d_MD_findRevocations_93 : decode M_MD_findRevocations.2.1 93 = .ok (.aload_n 0, 1) := by decide +kernel
theorem d_MD_findRevocations_94 : decode M_MD_findRevocations.2.1 94 = .ok (.getfield 152, 3) := by decide +kernel
theorem d_MD_findRevocations_97 : decode M_MD_findRevocations.2.1 97 = .ok (.if_icmp .ne (19), 3) := by decide +kernel
theorem d_MD_findRevocations_100 : decode M_MD_findRevocations.2.1 100 = .ok (.aload_n 0, 1) := by decide +kernel
theorem d_MD_findRevocations_101 : decode M_MD_findRevocations.2.1 101 = .ok (.aload_n 0, 1) := by decide +kernel
theorem d_MD_findRevocations_102 : decode M_MD_findRevocations.2.1 102 = .ok (.getfield 149, 3) := by decide +kernel
theorem d_MD_findRevocations_105 : decode M_MD_findRevocations.2.1 105 = .ok (.iload_n 2, 1) := by decide +kernel
theorem d_MD_findRevocations_106 : decode M_MD_findRevocations.2.1 106 = .ok (.invokevirtual 158, 3) := by decide +kernel
theorem d_MD_findRevocations_109 : decode M_MD_findRevocations.2.1 109 = .ok (.ifCond .eq (7), 3) := by decide +kernel
theorem d_MD_findRevocations_112 : decode M_MD_findRevocations.2.1 112 = .ok (.iconst (1), 1) := by decide +kernel
theorem d_MD_findRevocations_113 : decode M_MD_findRevocations.2.1 113 = .ok (.goto (4), 3) := by decide +kernel
theorem d_MD_findRevocations_116 : decode M_MD_findRevocations.2.1 116 = .ok (.iconst (0), 1) := by decide +kernel
theorem d_MD_findRevocations_117 : decode M_MD_findRevocations.2.1 117 = .ok (.istore_n 3, 1) := by decide +kernel
theorem d_MD_findRevocations_118 : decode M_MD_findRevocations.2.1 118 = .ok (.iconst (0), 1) := by decide +kernel
theorem d_MD_findRevocations_119 : decode M_MD_findRevocations.2.1 119 = .ok (.istore 4, 2) := by decide +kernel
theorem d_MD_findRevocations_121 : decode M_MD_findRevocations.2.1 121 = .ok (.iload 4, 2) := by decide +kernel
theorem d_MD_findRevocations_123 : decode M_MD_findRevocations.2.1 123 = .ok (.bipush (16), 2) := by decide +kernel
theorem d_MD_findRevocations_125 : decode M_MD_findRevocations.2.1 125 = .ok (.if_icmp .ge (47), 3) := by decide +kernel
theorem d_MD_findRevocations_128 : decode M_MD_findRevocations.2.1 128 = .ok (.iload_n 3, 1) := by decide +kernel
theorem d_MD_findRevocations_129 : decode M_MD_findRevocations.2.1 129 = .ok (.ifCond .eq (43), 3) := by decide +kernel
theorem d_MD_findRevocations_132 : decode M_MD_findRevocations.2.1 132 = .ok (.aload_n 0, 1) := by decide +kernel
theorem d_MD_findRevocations_133 : decode M_MD_findRevocations.2.1 133 = .ok (.iload_n 2, 1) := by decide +kernel
theorem d_MD_findRevocations_134 : decode M_MD_findRevocations.2.1 134 = .ok (.iconst (3), 1) := by decide +kernel
theorem d_MD_findRevocations_135 : decode M_MD_findRevocations.2.1 135 = .ok (.invokevirtual 137, 3) := by decide +kernel
theorem d_MD_findRevocations_138 : decode M_MD_findRevocations.2.1 138 = .ok (.iload 4, 2) := by decide +kernel
theorem d_MD_findRevocations_140 : decode M_MD_findRevocations.2.1 140 = .ok (.ishr, 1) := by decide +kernel
theorem d_MD_findRevocations_141 : decode M_MD_findRevocations.2.1 141 = .ok (.iconst (1), 1) := by decide +kernel
theorem d_MD_findRevocations_142 : decode M_MD_findRevocations.2.1 142 = .ok (.iand, 1) := by decide +kernel
theorem d_MD_findRevocations_143 : decode M_MD_findRevocations.2.1 143 = .ok (.iconst (1), 1) := by decide +kernel
theorem d_MD_findRevocations_144 : decode M_MD_findRevocations.2.1 144 = .ok (.if_icmp .ne (22), 3) := by decide +kernel
theorem d_MD_findRevocations_147 : decode M_MD_findRevocations.2.1 147 = .ok (.aload_n 0, 1) := by decide +kernel
theorem d_MD_findRevocations_148 : decode M_MD_findRevocations.2.1 148 = .ok (.getfield 46, 3) := by decide +kernel
theorem d_MD_findRevocations_151 : decode M_MD_findRevocations.2.1 151 = .ok (.iload 4, 2) := by decide +kernel
theorem d_MD_findRevocations_153 : decode M_MD_findRevocations.2.1 153 = .ok (.iconst (1), 1) := by decide +kernel
theorem d_MD_findRevocations_154 : decode M_MD_findRevocations.2.1 154 = .ok (.bastore, 1) := by decide +kernel
theorem d_MD_findRevocations_155 : decode M_MD_findRevocations.2.1 155 = .ok (.aload_n 0, 1) := by decide +kernel
theorem d_MD_findRevocations_156 : decode M_MD_findRevocations.2.1 156 = .ok (.getfield 43, 3) := by decide +kernel
theorem d_MD_findRevocations_159 : decode M_MD_findRevocations.2.1 159 = .ok (.iload 4, 2) := by decide +kernel
theorem d_MD_findRevocations_161 : decode M_MD_findRevocations.2.1 161 = .ok (.aload_n 0, 1) := by decide +kernel
theorem d_MD_findRevocations_162 : decode M_MD_findRevocations.2.1 162 = .ok (.getfield 152, 3) := by decide +kernel
theorem d_MD_findRevocations_165 : decode M_MD_findRevocations.2.1 165 = .ok (.iastore, 1) := by decide +kernel
theorem d_MD_findRevocations_166 : decode M_MD_findRevocations.2.1 166 = .ok (.iinc 4 (1), 3) := by decide +kernel
theorem d_MD_findRevocations_169 : decode M_MD_findRevocations.2.1 169 = .ok (.goto (-48), 3) := by decide +kernel
theorem d_MD_findRevocations_172 : decode M_MD_findRevocations.2.1 172 = .ok (.aload_n 0, 1) := by decide +kernel
theorem d_MD_findRevocations_173 : decode M_MD_findRevocations.2.1 173 = .ok (.aload_n 0, 1) := by decide +kernel
theorem d_MD_findRevocations_174 : decode M_MD_findRevocations.2.1 174 = .ok (.getfield 149, 3) := by decide +kernel
theorem d_MD_findRevocations_177 : decode M_MD_findRevocations.2.1 177 = .ok (.iload_n 1, 1) := by decide +kernel
theorem d_MD_findRevocations_178 : decode M_MD_findRevocations.2.1 178 = .ok (.iadd, 1) := by decide +kernel
theorem d_MD_findRevocations_179 : decode M_MD_findRevocations.2.1 179 = .ok (.putfield 149, 3) := by decide +kernel
theorem d_MD_findRevocations_182 : decode M_MD_findRevocations.2.1 182 = .ok (.aload_n 0, 1) := by decide +kernel
theorem d_MD_findRevocations_183 : decode M_MD_findRevocations.2.1 183 = .ok (.aload_n 0, 1) := by decide +kernel
theorem d_MD_findRevocations_184 : decode M_MD_findRevocations.2.1 184 = .ok (.getfield 152, 3) := by decide +kernel
theorem d_MD_findRevocations_187 : decode M_MD_findRevocations.2.1 187 = .ok (.iconst (1), 1) := by decide +kernel
theorem d_MD_findRevocations_188 : decode M_MD_findRevocations.2.1 188 = .ok (.iadd, 1) := by decide +kernel
theorem d_MD_findRevocations_189 : decode M_MD_findRevocations.2.1 189 = .ok (.putfield 152, 3) := by decide +kernel
theorem d_MD_findRevocations_192 : decode M_MD_findRevocations.2.1 192 = .ok (.aload_n 0, 1) := by decide +kernel
theorem d_MD_findRevocations_193 : decode M_MD_findRevocations.2.1 193 = .ok (.aload_n 0, 1) := by decide +kernel
theorem d_MD_findRevocations_194 : decode M_MD_findRevocations.2.1 194 = .ok (.getfield 149, 3) := by decide +kernel
theorem d_MD_findRevocations_197 : decode M_MD_findRevocations.2.1 197 = .ok (.aload_n 0, 1) := by decide +kernel
theorem d_MD_findRevocations_198 : decode M_MD_findRevocations.2.1 198 = .ok (.getfield 152, 3) := by decide +kernel
theorem d_MD_findRevocations_201 : decode M_MD_findRevocations.2.1 201 = .ok (.invokevirtual 155, 3) := by decide +kernel
theorem d_MD_findRevocations_204 : decode M_MD_findRevocations.2.1 204 = .ok (.istore_n 1, 1) := by decide +kernel
theorem d_MD_findRevocations_205 : decode M_MD_findRevocations.2.1 205 = .ok (.goto (-157), 3) := by decide +kernel
theorem d_MD_findRevocations_208 : decode M_MD_findRevocations.2.1 208 = .ok (.return_, 1) := by decide +kernel
theorem d_MD_isRevocation_0 : decode M_MD_isRevocation.2.1 0 = .ok (.iload_n 1, 1) := by decide +kernel
theorem d_MD_isRevocation_1 : decode M_MD_isRevocation.2.1 1 = .ok (.istore_n 3, 1) := by decide +kernel
theorem d_MD_isRevocation_2 : decode M_MD_isRevocation.2.1 2 = .ok (.iload_n 3, 1) := by decide +kernel
theorem d_MD_isRevocation_3 : decode M_MD_isRevocation.2.1 3 = .ok (.iload_n 2, 1) := by decide +kernel
theorem d_MD_isRevocation_4 : decode M_MD_isRevocation.2.1 4 = .ok (.if_icmp .ge (30), 3) := by decide +kernel
theorem d_MD_isRevocation_7 : decode M_MD_isRevocation.2.1 7 = .ok (.aload_n 0, 1) := by decide +kernel
theorem d_MD_isRevocation_8 : decode M_MD_isRevocation.2.1 8 = .ok (.iload_n 3, 1) := by decide +kernel
theorem d_MD_isRevocation_9 : decode M_MD_isRevocation.2.1 9 = .ok (.iconst (1), 1) := by decide +kernel
theorem d_MD_isRevocation_10 : decode M_MD_isRevocation.2.1 10 = .ok (.invokevirtual 137, 3) := by decide +kernel
theorem d_MD_isRevocation_13 : decode M_MD_isRevocation.2.1 13 = .ok (.iconst (1), 1) := by decide +kernel
theorem d_MD_isRevocation_14 : decode M_MD_isRevocation.2.1 14 = .ok (.if_icmp .ne (20), 3) := by decide +kernel
theorem d_MD_isRevocation_17 : decode M_MD_isRevocation.2.1 17 = .ok (.iload_n 3, 1) := by decide +kernel
theorem d_MD_isRevocation_18 : decode M_MD_isRevocation.2.1 18 = .ok (.iconst (1), 1) := by decide +kernel
theorem d_MD_isRevocation_19 : decode M_MD_isRevocation.2.1 19 = .ok (.iadd, 1) := by decide +kernel
theorem d_MD_isRevocation_20 : decode M_MD_isRevocation.2.1 20 = .ok (.aload_n 0, 1) := by decide +kernel
theorem d_MD_isRevocation_21 : decode M_MD_isRevocation.2.1 21 = .ok (.iload_n 3, 1) := by decide +kernel
theorem d_MD_isRevocation_22 : decode M_MD_isRevocation.2.1 22 = .ok (.iconst (3), 1) := by decide +kernel
theorem d_MD_isRevocation_23 : decode M_MD_isRevocation.2.1 23 = .ok (.invokevirtual 137, 3) := by decide +kernel
theorem d_MD_isRevocation_26 : decode M_MD_isRevocation.2.1 26 = .ok (.bipush (7), 2) := by decide +kernel
theorem d_MD_isRevocation_28 : decode M_MD_isRevocation.2.1 28 = .ok (.iand, 1) := by decide +kernel
theorem d_MD_isRevocation_29 : decode M_MD_isRevocation.2.1 29 = .ok (.iadd, 1) := by decide +kernel
theorem d_MD_isRevocation_30 : decode M_MD_isRevocation.2.1 30 = .ok (.istore_n 3, 1) := by decide +kernel
theorem d_MD_isRevocation_31 : decode M_MD_isRevocation.2.1 31 = .ok (.goto (-29), 3) := by decide +kernel
theorem d_MD_isRevocation_34 : decode M_MD_isRevocation.2.1 34 = .ok (.iload_n 3, 1) := by decide +kernel
theorem d_MD_isRevocation_35 : decode M_MD_isRevocation.2.1 35 = .ok (.iload_n 2, 1) := by decide +kernel
theorem d_MD_isRevocation_36 : decode M_MD_isRevocation.2.1 36 = .ok (.if_icmp .ne (7), 3) := by decide +kernel
theorem d_MD_isRevocation_39 : decode M_MD_isRevocation.2.1 39 = .ok (.iconst (1), 1) := by decide +kernel
theorem d_MD_isRevocation_40 : decode M_MD_isRevocation.2.1 40 = .ok (.goto (4), 3) := by decide +kernel
theorem d_MD_isRevocation_43 : decode M_MD_isRevocation.2.1 43 = .ok (.iconst (0), 1) := by decide +kernel
theorem d_MD_isRevocation_44 : decode M_MD_isRevocation.2.1 44 = .ok (.ireturn, 1) := by decide +kernel
theorem d_MD_replay_0 : decode M_MD_replay.2.1 0 = .ok (.aload_n 0, 1) := by decide +kernel
theorem d_MD_replay_1 : decode M_MD_replay.2.1 1 = .ok (.invokevirtual 162, 3) := by decide +kernel
theorem d_MD_replay_4 : decode M_MD_replay.2.1 4 = .ok (.iconst (0), 1) := by decide +kernel
theorem d_MD_replay_5 : decode M_MD_replay.2.1 5 = .ok (.istore_n 2, 1) := by decide +kernel
theorem d_MD_replay_6 : decode M_MD_replay.2.1 6 = .ok (.iconst (0), 1) := by decide +kernel
theorem d_MD_replay_7 : decode M_MD_replay.2.1 7 = .ok (.istore_n 3, 1) := by decide +kernel
theorem d_MD_replay_8 : decode M_MD_replay.2.1 8 = .ok (.aload_n 0, 1) := by decide +kernel
theorem d_MD_replay_9 : decode M_MD_replay.2.1 9 = .ok (.getfield 143, 3) := by decide +kernel
theorem d_MD_replay_12 : decode M_MD_replay.2.1 12 = .ok (.istore 4, 2) := by decide +kernel
theorem d_MD_replay_14 : decode M_MD_replay.2.1 14 = .ok (.iload_n 3, 1) := by decide +kernel
theorem d_MD_replay_15 : decode M_MD_replay.2.1 15 = .ok (.aload_n 0, 1) := by decide +kernel
theorem d_MD_replay_16 : decode M_MD_replay.2.1 16 = .ok (.getfield 149, 3) := by decide +kernel
theorem d_MD_replay_19 : decode M_MD_replay.2.1 19 = .ok (.if_icmp .ge (213), 3) := by decide +kernel
theorem d_MD_replay_22 : decode M_MD_replay.2.1 22 = .ok (.aload_n 0, 1) := by decide +kernel
theorem d_MD_replay_23 : decode M_MD_replay.2.1 23 = .ok (.iload_n 3, 1) := by decide +kernel
theorem d_MD_replay_24 : decode M_MD_replay.2.1 24 = .ok (.iconst (1), 1) := by decide +kernel
theorem d_MD_replay_25 : decode M_MD_replay.2.1 25 = .ok (.invokevirtual 137, 3) := by decide +kernel
theorem d_MD_replay_28 : decode M_MD_replay.2.1 28 = .ok (.iconst (1), 1) := by decide +kernel
theorem d_MD_replay_29 : decode M_MD_replay.2.1 29 = .ok (.if_icmp .ne (175), 3) := by decide +kernel
theorem d_MD_replay_32 : decode M_MD_replay.2.1 32 = .ok (.aload_n 0, 1) := by decide +kernel
theorem d_MD_replay_33 : decode M_MD_replay.2.1 33 = .ok (.iload_n 3, 1) := by decide +kernel
theorem d_MD_replay_34 : decode M_MD_replay.2.1 34 = .ok (.iconst (3), 1) := by decide +kernel
theorem d_MD_replay_35 : decode M_MD_replay.2.1 35 = .ok (.invokevirtual 137, 3) := by decide +kernel
theorem d_MD_replay_38 : decode M_MD_replay.2.1 38 = .ok (.istore 5, 2) := by decide +kernel
theorem d_MD_replay_40 : decode M_MD_replay.2.1 40 = .ok (.iconst (0), 1) := by decide +kernel
theorem d_MD_replay_41 : decode M_MD_replay.2.1 41 = .ok (.istore 6, 2) := by decide +kernel
theorem d_MD_replay_43 : decode M_MD_replay.2.1 43 = .ok (.iload 6, 2) := by decide +kernel
theorem d_MD_replay_45 : decode M_MD_replay.2.1 45 = .ok (.iload 5, 2) := by decide +kernel
theorem d_MD_replay_47 : decode M_MD_replay.2.1 47 = .ok (.bipush (7), 2) := by decide +kernel
theorem d_MD_replay_49 : decode M_MD_replay.2.1 49 = .ok (.iand, 1) := by decide +kernel
theorem d_MD_replay_50 : decode M_MD_replay.2.1 50 = .ok (.if_icmp .ge (141), 3) := by decide +kernel
theorem d_MD_replay_53 : decode M_MD_replay.2.1 53 = .ok (.iload 5, 2) := by decide +kernel
theorem d_MD_replay_55 : decode M_MD_replay.2.1 55 = .ok (.iconst (3), 1) := by decide +kernel
theorem d_MD_replay_56 : decode M_MD_replay.2.1 56 = .ok (.iconst (5), 1) := by decide +kernel
end
section
theorem d_MD_replay_57 : decode M_MD_replay.2.1 57 = .ok (.iload 6, 2) := by decide +kernel
theorem d_MD_replay_59 : decode M_MD_replay.2.1 59 = .ok (.imul, 1) := by decide +kernel
theorem d_MD_replay_60 : decode M_MD_replay.2.1 60 = .ok (.iadd, 1) := by decide +kernel
theorem d_MD_replay_61 : decode M_MD_replay.2.1 61 = .ok (.iushr, 1) := by decide +kernel
theorem d_MD_replay_62 : decode M_MD_replay.2.1 62 = .ok (.bipush (15), 2) := by decide +kernel
theorem d_MD_replay_64 : decode M_MD_replay.2.1 64 = .ok (.iand, 1) := by decide +kernel
theorem d_MD_replay_65 : decode M_MD_replay.2.1 65 = .ok (.istore 7, 2) := by decide +kernel
theorem d_MD_replay_67 : decode M_MD_replay.2.1 67 = .ok (.aload_n 0, 1) := by decide +kernel
theorem d_MD_replay_68 : decode M_MD_replay.2.1 68 = .ok (.getfield 46, 3) := by decide +kernel
theorem d_MD_replay_71 : decode M_MD_replay.2.1 71 = .ok (.iload 7, 2) := by decide +kernel
theorem d_MD_replay_73 : decode M_MD_replay.2.1 73 = .ok (.baload, 1) := by decide +kernel
theorem d_MD_replay_74 : decode M_MD_replay.2.1 74 = .ok (.ifCond .eq (15), 3) := by decide +kernel
theorem d_MD_replay_77 : decode M_MD_replay.2.1 77 = .ok (.aload_n 0, 1) := by decide +kernel
theorem d_MD_replay_78 : decode M_MD_replay.2.1 78 = .ok (.getfield 43, 3) := by decide +kernel
theorem d_MD_replay_81 : decode M_MD_replay.2.1 81 = .ok (.iload 7, 2) := by decide +kernel
theorem d_MD_replay_83 : decode M_MD_replay.2.1 83 = .ok (.iaload, 1) := by decide +kernel
theorem d_MD_replay_84 : decode M_MD_replay.2.1 84 = .ok (.iload 4, 2) := by decide +kernel
theorem d_MD_replay_86 : decode M_MD_replay.2.1 86 = .ok (.if_icmp .gt (99), 3) := by decide +kernel
theorem d_MD_replay_89 : decode M_MD_replay.2.1 89 = .ok (.iload_n 2, 1) := by decide +kernel
theorem d_MD_replay_90 : decode M_MD_replay.2.1 90 = .ok (.iload_n 1, 1) := by decide +kernel
theorem d_MD_replay_91 : decode M_MD_replay.2.1 91 = .ok (.if_icmp .ne (90), 3) := by decide +kernel
theorem d_MD_replay_94 : decode M_MD_replay.2.1 94 = .ok (.iload 5, 2) := by decide +kernel
theorem d_MD_replay_96 : decode M_MD_replay.2.1 96 = .ok (.bipush (7), 2) := by decide +kernel
theorem d_MD_replay_98 : decode M_MD_replay.2.1 98 = .ok (.iconst (5), 1) := by decide +kernel
theorem d_MD_replay_99 : decode M_MD_replay.2.1 99 = .ok (.iload 6, 2) := by decide +kernel
theorem d_MD_replay_101 : decode M_MD_replay.2.1 101 = .ok (.imul, 1) := by decide +kernel
theorem d_MD_replay_102 : decode M_MD_replay.2.1 102 = .ok (.iadd, 1) := by decide +kernel
theorem d_MD_replay_103 : decode M_MD_replay.2.1 103 = .ok (.iushr, 1) := by decide +kernel
theorem d_MD_replay_104 : decode M_MD_replay.2.1 104 = .ok (.iconst (1), 1) := by decide +kernel
theorem d_MD_replay_105 : decode M_MD_replay.2.1 105 = .ok (.iand, 1) := by decide +kernel
theorem d_MD_replay_106 : decode M_MD_replay.2.1 106 = .ok (.iconst (1), 1) := by decide +kernel
theorem d_MD_replay_107 : decode M_MD_replay.2.1 107 = .ok (.if_icmp .ne (7), 3) := by decide +kernel
theorem d_MD_replay_110 : decode M_MD_replay.2.1 110 = .ok (.iconst (1), 1) := by decide +kernel
theorem d_MD_replay_111 : decode M_MD_replay.2.1 111 = .ok (.goto (4), 3) := by decide +kernel
theorem d_MD_replay_114 : decode M_MD_replay.2.1 114 = .ok (.iconst (0), 1) := by decide +kernel
theorem d_MD_replay_115 : decode M_MD_replay.2.1 115 = .ok (.istore 8, 2) := by decide +kernel
theorem d_MD_replay_117 : decode M_MD_replay.2.1 117 = .ok (.aload_n 0, 1) := by decide +kernel
theorem d_MD_replay_118 : decode M_MD_replay.2.1 118 = .ok (.iload 8, 2) := by decide +kernel
theorem d_MD_replay_120 : decode M_MD_replay.2.1 120 = .ok (.ifCond .eq (8), 3) := by decide +kernel
theorem d_MD_replay_123 : decode M_MD_replay.2.1 123 = .ok (.ldc 49, 2) := by decide +kernel
theorem d_MD_replay_125 : decode M_MD_replay.2.1 125 = .ok (.goto (14), 3) := by decide +kernel
theorem d_MD_replay_128 : decode M_MD_replay.2.1 128 = .ok (.aload_n 0, 1) := by decide +kernel
theorem d_MD_replay_129 : decode M_MD_replay.2.1 129 = .ok (.iload_n 3, 1) := by decide +kernel
theorem d_MD_replay_130 : decode M_MD_replay.2.1 130 = .ok (.iconst (1), 1) := by decide +kernel
theorem d_MD_replay_131 : decode M_MD_replay.2.1 131 = .ok (.iadd, 1) := by decide +kernel
theorem d_MD_replay_132 : decode M_MD_replay.2.1 132 = .ok (.iload 6, 2) := by decide +kernel
theorem d_MD_replay_134 : decode M_MD_replay.2.1 134 = .ok (.iadd, 1) := by decide +kernel
theorem d_MD_replay_135 : decode M_MD_replay.2.1 135 = .ok (.iconst (0), 1) := by decide +kernel
theorem d_MD_replay_136 : decode M_MD_replay.2.1 136 = .ok (.invokevirtual 137, 3) := by decide +kernel
theorem d_MD_replay_139 : decode M_MD_replay.2.1 139 = .ok (.aload_n 0, 1) := by decide +kernel
theorem d_MD_replay_140 : decode M_MD_replay.2.1 140 = .ok (.iload_n 3, 1) := by decide +kernel
theorem d_MD_replay_141 : decode M_MD_replay.2.1 141 = .ok (.iconst (1), 1) := by decide +kernel
theorem d_MD_replay_142 : decode M_MD_replay.2.1 142 = .ok (.iadd, 1) := by decide +kernel
theorem d_MD_replay_143 : decode M_MD_replay.2.1 143 = .ok (.iload 6, 2) := by decide +kernel
theorem d_MD_replay_145 : decode M_MD_replay.2.1 145 = .ok (.iadd, 1) := by decide +kernel
theorem d_MD_replay_146 : decode M_MD_replay.2.1 146 = .ok (.iconst (1), 1) := by decide +kernel
theorem d_MD_replay_147 : decode M_MD_replay.2.1 147 = .ok (.invokevirtual 137, 3) := by decide +kernel
theorem d_MD_replay_150 : decode M_MD_replay.2.1 150 = .ok (.aload_n 0, 1) := by decide +kernel
theorem d_MD_replay_151 : decode M_MD_replay.2.1 151 = .ok (.iload_n 3, 1) := by decide +kernel
theorem d_MD_replay_152 : decode M_MD_replay.2.1 152 = .ok (.iconst (1), 1) := by decide +kernel
theorem d_MD_replay_153 : decode M_MD_replay.2.1 153 = .ok (.iadd, 1) := by decide +kernel
theorem d_MD_replay_154 : decode M_MD_replay.2.1 154 = .ok (.iload 6, 2) := by decide +kernel
theorem d_MD_replay_156 : decode M_MD_replay.2.1 156 = .ok (.iadd, 1) := by decide +kernel
theorem d_MD_replay_157 : decode M_MD_replay.2.1 157 = .ok (.iconst (2), 1) := by decide +kernel
theorem d_MD_replay_158 : decode M_MD_replay.2.1 158 = .ok (.invokevirtual 137, 3) := by decide +kernel
theorem d_MD_replay_161 : decode M_MD_replay.2.1 161 = .ok (.aload_n 0, 1) := by decide +kernel
theorem d_MD_replay_162 : decode M_MD_replay.2.1 162 = .ok (.iload_n 3, 1) := by decide +kernel
theorem d_MD_replay_163 : decode M_MD_replay.2.1 163 = .ok (.iconst (1), 1) := by decide +kernel
theorem d_MD_replay_164 : decode M_MD_replay.2.1 164 = .ok (.iadd, 1) := by decide +kernel
theorem d_MD_replay_165 : decode M_MD_replay.2.1 165 = .ok (.iload 6, 2) := by decide +kernel
theorem d_MD_replay_167 : decode M_MD_replay.2.1 167 = .ok (.iadd, 1) := by decide +kernel
theorem d_MD_replay_168 : decode M_MD_replay.2.1 168 = .ok (.iconst (3), 1) := by decide +kernel
theorem d_MD_replay_169 : decode M_MD_replay.2.1 169 = .ok (.invokevirtual 137, 3) := by decide +kernel
theorem d_MD_replay_172 : decode M_MD_replay.2.1 172 = .ok (.invokevirtual 94, 3) := by decide +kernel
theorem d_MD_replay_175 : decode M_MD_replay.2.1 175 = .ok (.aload_n 0, 1) := by decide +kernel
theorem d_MD_replay_176 : decode M_MD_replay.2.1 176 = .ok (.iload 7, 2) := by decide +kernel
theorem d_MD_replay_178 : decode M_MD_replay.2.1 178 = .ok (.putfield 131, 3) := by decide +kernel
theorem d_MD_replay_181 : decode M_MD_replay.2.1 181 = .ok (.iload_n 2, 1) := by decide +kernel
theorem d_MD_replay_182 : decode M_MD_replay.2.1 182 = .ok (.iconst (1), 1) := by decide +kernel
theorem d_MD_replay_183 : decode M_MD_replay.2.1 183 = .ok (.iadd, 1) := by decide +kernel
theorem d_MD_replay_184 : decode M_MD_replay.2.1 184 = .ok (.istore_n 2, 1) := by decide +kernel
theorem d_MD_replay_185 : decode M_MD_replay.2.1 185 = .ok (.iinc 6 (1), 3) := by decide +kernel
theorem d_MD_replay_188 : decode M_MD_replay.2.1 188 = .ok (.goto (-145), 3) := by decide +kernel
theorem d_MD_replay_191 : decode M_MD_replay.2.1 191 = .ok (.iload_n 3, 1) := by decide +kernel
theorem d_MD_replay_192 : decode M_MD_replay.2.1 192 = .ok (.iconst (1), 1) := by decide +kernel
theorem d_MD_replay_193 : decode M_MD_replay.2.1 193 = .ok (.iadd, 1) := by decide +kernel
theorem d_MD_replay_194 : decode M_MD_replay.2.1 194 = .ok (.iload 5, 2) := by decide +kernel
theorem d_MD_replay_196 : decode M_MD_replay.2.1 196 = .ok (.bipush (7), 2) := by decide +kernel
theorem d_MD_replay_198 : decode M_MD_replay.2.1 198 = .ok (.iand, 1) := by decide +kernel
theorem d_MD_replay_199 : decode M_MD_replay.2.1 199 = .ok (.iadd, 1) := by decide +kernel
theorem d_MD_replay_200 : decode M_MD_replay.2.1 200 = .ok (.istore_n 3, 1) := by decide +kernel
theorem d_MD_replay_201 : decode M_MD_replay.2.1 201 = .ok (.goto (-187), 3) := by decide +kernel
theorem d_MD_replay_204 : decode M_MD_replay.2.1 204 = .ok (.aload_n 0, 1) := by decide +kernel
theorem d_MD_replay_205 : decode M_MD_replay.2.1 205 = .ok (.iload_n 3, 1) := by decide +kernel
theorem d_MD_replay_206 : decode M_MD_replay.2.1 206 = .ok (.iconst (1), 1) := by decide +kernel
theorem d_MD_replay_207 : decode M_MD_replay.2.1 207 = .ok (.invokevirtual 137, 3) := by decide +kernel
theorem d_MD_replay_210 : decode M_MD_replay.2.1 210 = .ok (.iconst (3), 1) := by decide +kernel
theorem d_MD_replay_211 : decode M_MD_replay.2.1 211 = .ok (.if_icmp .ne (10), 3) := by decide +kernel
theorem d_MD_replay_214 : decode M_MD_replay.2.1 214 = .ok (.iload 4, 2) := by decide +kernel
theorem d_MD_replay_216 : decode M_MD_replay.2.1 216 = .ok (.iconst (1), 1) := by decide +kernel
theorem d_MD_replay_217 : decode M_MD_replay.2.1 217 = .ok (.iadd, 1) := by decide +kernel
theorem d_MD_replay_218 : decode M_MD_replay.2.1 218 = .ok (.goto (5), 3) := by decide +kernel
theorem d_MD_replay_221 : decode M_MD_replay.2.1 221 = .ok (.iload 4, 2) := by decide +kernel
theorem d_MD_replay_223 : decode M_MD_replay.2.1 223 = .ok (.istore 4, 2) := by decide +kernel
theorem d_MD_replay_225 : decode M_MD_replay.2.1 225 = .ok (.iload_n 3, 1) := by decide +kernel
theorem d_MD_replay_226 : decode M_MD_replay.2.1 226 = .ok (.iconst (1), 1) := by decide +kernel
theorem d_MD_replay_227 : decode M_MD_replay.2.1 227 = .ok (.iadd, 1) := by decide +kernel
theorem d_MD_replay_228 : decode M_MD_replay.2.1 228 = .ok (.istore_n 3, 1) := by decide +kernel
theorem d_MD_replay_229 : decode M_MD_replay.2.1 229 = .ok (.goto (-215), 3) := by decide +kernel
theorem d_MD_replay_232 : decode M_MD_replay.2.1 232 = .ok (.iload_n 2, 1) := by decide +kernel
theorem d_MD_replay_233 : decode M_MD_replay.2.1 233 = .ok (.ireturn, 1) := by decide +kernel
theorem d_MD_recover_0 : decode M_MD_recover.2.1 0 = .ok (.aload_n 0, 1) := by decide +kernel
theorem d_MD_recover_1 : decode M_MD_recover.2.1 1 = .ok (.getfield 19, 3) := by decide +kernel
theorem d_MD_recover_4 : decode M_MD_recover.2.1 4 = .ok (.ifCond .ne (10), 3) := by decide +kernel
theorem d_MD_recover_7 : decode M_MD_recover.2.1 7 = .ok (.aload_n 0, 1) := by decide +kernel
theorem d_MD_recover_8 : decode M_MD_recover.2.1 8 = .ok (.getfield 69, 3) := by decide +kernel
theorem d_MD_recover_11 : decode M_MD_recover.2.1 11 = .ok (.ifCond .eq (5), 3) := by decide +kernel
theorem d_MD_recover_14 : decode M_MD_recover.2.1 14 = .ok (.iconst (-1), 1) := by decide +kernel
theorem d_MD_recover_15 : decode M_MD_recover.2.1 15 = .ok (.ireturn, 1) := by decide +kernel
theorem d_MD_recover_16 : decode M_MD_recover.2.1 16 = .ok (.aload_n 0, 1) := by decide +kernel
theorem d_MD_recover_17 : decode M_MD_recover.2.1 17 = .ok (.iconst (4), 1) := by decide +kernel
theorem d_MD_recover_18 : decode M_MD_recover.2.1 18 = .ok (.putfield 69, 3) := by decide +kernel
theorem d_MD_recover_21 : decode M_MD_recover.2.1 21 = .ok (.aload_n 0, 1) := by decide +kernel
theorem d_MD_recover_22 : decode M_MD_recover.2.1 22 = .ok (.iconst (0), 1) := by decide +kernel
theorem d_MD_recover_23 : decode M_MD_recover.2.1 23 = .ok (.putfield 113, 3) := by decide +kernel
theorem d_MD_recover_26 : decode M_MD_recover.2.1 26 = .ok (.aload_n 0, 1) := by decide +kernel
theorem d_MD_recover_27 : decode M_MD_recover.2.1 27 = .ok (.aload_n 0, 1) := by decide +kernel
theorem d_MD_recover_28 : decode M_MD_recover.2.1 28 = .ok (.iconst (-1), 1) := by decide +kernel
theorem d_MD_recover_29 : decode M_MD_recover.2.1 29 = .ok (.invokevirtual 165, 3) := by decide +kernel
theorem d_MD_recover_32 : decode M_MD_recover.2.1 32 = .ok (.iconst (3), 1) := by decide +kernel
theorem d_MD_recover_33 : decode M_MD_recover.2.1 33 = .ok (.iadd, 1) := by decide +kernel
theorem d_MD_recover_34 : decode M_MD_recover.2.1 34 = .ok (.putfield 116, 3) := by decide +kernel
theorem d_MD_recover_37 : decode M_MD_recover.2.1 37 = .ok (.aload_n 0, 1) := by decide +kernel
theorem d_MD_recover_38 : decode M_MD_recover.2.1 38 = .ok (.getfield 116, 3) := by decide +kernel
theorem d_MD_recover_41 : decode M_MD_recover.2.1 41 = .ok (.iconst (3), 1) := by decide +kernel
theorem d_MD_recover_42 : decode M_MD_recover.2.1 42 = .ok (.isub, 1) := by decide +kernel
theorem d_MD_recover_43 : decode M_MD_recover.2.1 43 = .ok (.ireturn, 1) := by decide +kernel
theorem d_MD_recoveryAction_0 : decode M_MD_recoveryAction.2.1 0 = .ok (.aload_n 0, 1) := by decide +kernel
theorem d_MD_recoveryAction_1 : decode M_MD_recoveryAction.2.1 1 = .ok (.getfield 116, 3) := by decide +kernel
theorem d_MD_recoveryAction_4 : decode M_MD_recoveryAction.2.1 4 = .ok (.iconst (3), 1) := by decide +kernel
theorem d_MD_recoveryAction_5 : decode M_MD_recoveryAction.2.1 5 = .ok (.isub, 1) := by decide +kernel
theorem d_MD_recoveryAction_6 : decode M_MD_recoveryAction.2.1 6 = .ok (.istore_n 2, 1) := by decide +kernel
theorem d_MD_recoveryAction_7 : decode M_MD_recoveryAction.2.1 7 = .ok (.iload_n 1, 1) := by decide +kernel
theorem d_MD_recoveryAction_8 : decode M_MD_recoveryAction.2.1 8 = .ok (.iload_n 2, 1) := by decide +kernel
theorem d_MD_recoveryAction_9 : decode M_MD_recoveryAction.2.1 9 = .ok (.if_icmp .ge (20), 3) := by decide +kernel
theorem d_MD_recoveryAction_12 : decode M_MD_recoveryAction.2.1 12 = .ok (.aload_n 0, 1) := by decide +kernel
theorem d_MD_recoveryAction_13 : decode M_MD_recoveryAction.2.1 13 = .ok (.iload_n 1, 1) := by decide +kernel
theorem d_MD_recoveryAction_14 : decode M_MD_recoveryAction.2.1 14 = .ok (.invokevirtual 165, 3) := by decide +kernel
theorem d_MD_recoveryAction_17 : decode M_MD_recoveryAction.2.1 17 = .ok (.pop, 1) := by decide +kernel
theorem d_MD_recoveryAction_18 : decode M_MD_recoveryAction.2.1 18 = .ok (.aload_n 0, 1) := by decide +kernel
theorem d_MD_recoveryAction_19 : decode M_MD_recoveryAction.2.1 19 = .ok (.aload_n 0, 1) := by decide +kernel
theorem d_MD_recoveryAction_20 : decode M_MD_recoveryAction.2.1 20 = .ok (.getfield 131, 3) := by decide +kernel
theorem d_MD_recoveryAction_23 : decode M_MD_recoveryAction.2.1 23 = .ok (.invokevirtual 83, 3) := by decide +kernel
theorem d_MD_recoveryAction_26 : decode M_MD_recoveryAction.2.1 26 = .ok (.goto (50), 3) := by decide +kernel
theorem d_MD_recoveryAction_29 : decode M_MD_recoveryAction.2.1 29 = .ok (.iload_n 1, 1) := by decide +kernel
theorem d_MD_recoveryAction_30 : decode M_MD_recoveryAction.2.1 30 = .ok (.iload_n 2, 1) := by decide +kernel
theorem d_MD_recoveryAction_31 : decode M_MD_recoveryAction.2.1 31 = .ok (.iconst (1), 1) := by decide +kernel
theorem d_MD_recoveryAction_32 : decode M_MD_recoveryAction.2.1 32 = .ok (.iadd, 1) := by decide +kernel
theorem d_MD_recoveryAction_33 : decode M_MD_recoveryAction.2.1 33 = .ok (.if_icmp .ne (39), 3) := by decide +kernel
theorem d_MD_recoveryAction_36 : decode M_MD_recoveryAction.2.1 36 = .ok (.aload_n 0, 1) := by decide +kernel
theorem d_MD_recoveryAction_37 : decode M_MD_recoveryAction.2.1 37 = .ok (.invokevirtual 162, 3) := by decide +kernel
theorem d_MD_recoveryAction_40 : decode M_MD_recoveryAction.2.1 40 = .ok (.aload_n 0, 1) := by decide +kernel
theorem d_MD_recoveryAction_41 : decode M_MD_recoveryAction.2.1 41 = .ok (.ldc 49, 2) := by decide +kernel
theorem d_MD_recoveryAction_43 : decode M_MD_recoveryAction.2.1 43 = .ok (.aload_n 0, 1) := by decide +kernel
theorem d_MD_recoveryAction_44 : decode M_MD_recoveryAction.2.1 44 = .ok (.getfield 152, 3) := by decide +kernel
theorem d_MD_recoveryAction_47 : decode M_MD_recoveryAction.2.1 47 = .ok (.aload_n 0, 1) := by decide +kernel
theorem d_MD_recoveryAction_48 : decode M_MD_recoveryAction.2.1 48 = .ok (.getfield 134, 3) := by decide +kernel
theorem d_MD_recoveryAction_51 : decode M_MD_recoveryAction.2.1 51 = .ok (.aload_n 0, 1) := by decide +kernel
theorem d_MD_recoveryAction_52 : decode M_MD_recoveryAction.2.1 52 = .ok (.getfield 149, 3) := by decide +kernel
theorem d_MD_recoveryAction_55 : decode M_MD_recoveryAction.2.1 55 = .ok (.iadd, 1) := by decide +kernel
theorem d_MD_recoveryAction_56 : decode M_MD_recoveryAction.2.1 56 = .ok (.bipush (24), 2) := by decide +kernel
theorem d_MD_recoveryAction_58 : decode M_MD_recoveryAction.2.1 58 = .ok (.irem, 1) := by decide +kernel
theorem d_MD_recoveryAction_59 : decode M_MD_recoveryAction.2.1 59 = .ok (.iconst (0), 1) := by decide +kernel
theorem d_MD_recoveryAction_60 : decode M_MD_recoveryAction.2.1 60 = .ok (.invokevirtual 94, 3) := by decide +kernel
theorem d_MD_recoveryAction_63 : decode M_MD_recoveryAction.2.1 63 = .ok (.aload_n 0, 1) := by decide +kernel
theorem d_MD_recoveryAction_64 : decode M_MD_recoveryAction.2.1 64 = .ok (.bipush (16), 2) := by decide +kernel
theorem d_MD_recoveryAction_66 : decode M_MD_recoveryAction.2.1 66 = .ok (.invokevirtual 83, 3) := by decide +kernel
theorem d_MD_recoveryAction_69 : decode M_MD_recoveryAction.2.1 69 = .ok (.goto (7), 3) := by decide +kernel
theorem d_MD_recoveryAction_72 : decode M_MD_recoveryAction.2.1 72 = .ok (.aload_n 0, 1) := by decide +kernel
theorem d_MD_recoveryAction_73 : decode M_MD_recoveryAction.2.1 73 = .ok (.invokevirtual 125, 3) := by decide +kernel
theorem d_MD_recoveryAction_76 : decode M_MD_recoveryAction.2.1 76 = .ok (.return_, 1) := by decide +kernel
theorem d_MD_recovered_0 : decode M_MD_recovered.2.1 0 = .ok (.aload_n 0, 1) := by decide +kernel
theorem d_MD_recovered_1 : decode M_MD_recovered.2.1 1 = .ok (.iconst (1), 1) := by decide +kernel
theorem d_MD_recovered_2 : decode M_MD_recovered.2.1 2 = .ok (.putfield 19, 3) := by decide +kernel
theorem d_MD_recovered_5 : decode M_MD_recovered.2.1 5 = .ok (.aload_n 0, 1) := by decide +kernel
theorem d_MD_recovered_6 : decode M_MD_recovered.2.1 6 = .ok (.aload_n 0, 1) := by decide +kernel
theorem d_MD_recovered_7 : decode M_MD_recovered.2.1 7 = .ok (.bipush (16), 2) := by decide +kernel
theorem d_MD_recovered_9 : decode M_MD_recovered.2.1 9 = .ok (.iconst (1), 1) := by decide +kernel
theorem d_MD_recovered_10 : decode M_MD_recovered.2.1 10 = .ok (.invokevirtual 65, 3) := by decide +kernel
theorem d_MD_recovered_13 : decode M_MD_recovered.2.1 13 = .ok (.putfield 23, 3) := by decide +kernel
theorem d_MD_recovered_16 : decode M_MD_recovered.2.1 16 = .ok (.aload_n 0, 1) := by decide +kernel
theorem d_MD_recovered_17 : decode M_MD_recovered.2.1 17 = .ok (.aload_n 0, 1) := by decide +kernel
theorem d_MD_recovered_18 : decode M_MD_recovered.2.1 18 = .ok (.bipush (16), 2) := by decide +kernel
theorem d_MD_recovered_20 : decode M_MD_recovered.2.1 20 = .ok (.iconst (2), 1) := by decide +kernel
theorem d_MD_recovered_21 : decode M_MD_recovered.2.1 21 = .ok (.invokevirtual 65, 3) := by decide +kernel
theorem d_MD_recovered_24 : decode M_MD_recovered.2.1 24 = .ok (.putfield 119, 3) := by decide +kernel
theorem d_MD_recovered_27 : decode M_MD_recovered.2.1 27 = .ok (.aload_n 0, 1) := by decide +kernel
theorem d_MD_recovered_28 : decode M_MD_recovered.2.1 28 = .ok (.iconst (0), 1) := by decide +kernel
theorem d_MD_recovered_29 : decode M_MD_recovered.2.1 29 = .ok (.putfield 110, 3) := by decide +kernel
theorem d_MD_recovered_32 : decode M_MD_recovered.2.1 32 = .ok (.iconst (0), 1) := by decide +kernel
theorem d_MD_recovered_33 : decode M_MD_recovered.2.1 33 = .ok (.istore_n 1, 1) := by decide +kernel
theorem d_MD_recovered_34 : decode M_MD_recovered.2.1 34 = .ok (.iload_n 1, 1) := by decide +kernel
theorem d_MD_recovered_35 : decode M_MD_recovered.2.1 35 = .ok (.bipush (16), 2) := by decide +kernel
theorem d_MD_recovered_37 : decode M_MD_recovered.2.1 37 = .ok (.if_icmp .ge (23), 3) := by decide +kernel
theorem d_MD_recovered_40 : decode M_MD_recovered.2.1 40 = .ok (.aload_n 0, 1) := by decide +kernel
theorem d_MD_recovered_41 : decode M_MD_recovered.2.1 41 = .ok (.getfield 27, 3) := by decide +kernel
theorem d_MD_recovered_44 : decode M_MD_recovered.2.1 44 = .ok (.iload_n 1, 1) := by decide +kernel
theorem d_MD_recovered_45 : decode M_MD_recovered.2.1 45 = .ok (.iconst (0), 1) := by decide +kernel
theorem d_MD_recovered_46 : decode M_MD_recovered.2.1 46 = .ok (.iastore, 1) := by decide +kernel
theorem d_MD_recovered_47 : decode M_MD_recovered.2.1 47 = .ok (.aload_n 0, 1) := by decide +kernel
theorem d_MD_recovered_48 : decode M_MD_recovered.2.1 48 = .ok (.getfield 33, 3) := by decide +kernel
theorem d_MD_recovered_51 : decode M_MD_recovered.2.1 51 = .ok (.iload_n 1, 1) := by decide +kernel
theorem d_MD_recovered_52 : decode M_MD_recovered.2.1 52 = .ok (.iconst (0), 1) := by decide +kernel
theorem d_MD_recovered_53 : decode M_MD_recovered.2.1 53 = .ok (.bastore, 1) := by decide +kernel
theorem d_MD_recovered_54 : decode M_MD_recovered.2.1 54 = .ok (.iinc 1 (1), 3) := by decide +kernel
theorem d_MD_recovered_57 : decode M_MD_recovered.2.1 57 = .ok (.goto (-23), 3) := by decide +kernel
theorem d_MD_recovered_60 : decode M_MD_recovered.2.1 60 = .ok (.return_, 1) := by decide +kernel
theorem d_MD_finish_0 : decode M_MD_finish.2.1 0 = .ok (.aload_n 0, 1) := by decide +kernel
theorem d_MD_finish_1 : decode M_MD_finish.2.1 1 = .ok (.getfield 69, 3) := by decide +kernel
theorem d_MD_finish_4 : decode M_MD_finish.2.1 4 = .ok (.istore_n 1, 1) := by decide +kernel
theorem d_MD_finish_5 : decode M_MD_finish.2.1 5 = .ok (.aload_n 0, 1) := by decide +kernel
theorem d_MD_finish_6 : decode M_MD_finish.2.1 6 = .ok (.iconst (0), 1) := by decide +kernel
theorem d_MD_finish_7 : decode M_MD_finish.2.1 7 = .ok (.putfield 69, 3) := by decide +kernel
theorem d_MD_finish_10 : decode M_MD_finish.2.1 10 = .ok (.iload_n 1, 1) := by decide +kernel
theorem d_MD_finish_11 : decode M_MD_finish.2.1 11 = .ok (.iconst (2), 1) := by decide +kernel
theorem d_MD_finish_12 : decode M_MD_finish.2.1 12 = .ok (.if_icmp .ne (10), 3) := by decide +kernel
theorem d_MD_finish_15 : decode M_MD_finish.2.1 15 = .ok (.aload_n 0, 1) := by decide +kernel
theorem d_MD_finish_16 : decode M_MD_finish.2.1 16 = .ok (.invokevirtual 168, 3) := by decide +kernel
theorem d_MD_finish_19 : decode M_MD_finish.2.1 19 = .ok (.goto (19), 3) := by decide +kernel
theorem d_MD_finish_22 : decode M_MD_finish.2.1 22 = .ok (.iload_n 1, 1) := by decide +kernel
theorem d_MD_finish_23 : decode M_MD_finish.2.1 23 = .ok (.iconst (3), 1) := by decide +kernel
theorem d_MD_finish_24 : decode M_MD_finish.2.1 24 = .ok (.if_icmp .ne (10), 3) := by decide +kernel
theorem d_MD_finish_27 : decode M_MD_finish.2.1 27 = .ok (.aload_n 0, 1) := by decide +kernel
theorem d_MD_finish_28 : decode M_MD_finish.2.1 28 = .ok (.invokevirtual 171, 3) := by decide +kernel
theorem d_MD_finish_31 : decode M_MD_finish.2.1 31 = .ok (.goto (7), 3) := by decide +kernel
theorem d_MD_finish_34 : decode M_MD_finish.2.1 34 = .ok (.aload_n 0, 1) := by decide +kernel
theorem d_MD_finish_35 : decode M_MD_finish.2.1 35 = .ok (.invokevirtual 174, 3) := by decide +kernel
theorem d_MD_finish_38 : decode M_MD_finish.2.1 38 = .ok (.return_, 1) := by decide +kernel
theorem d_MD_step_0 : decode M_MD_step.2.1 0 = .ok (.aload_n 0, 1) := by decide +kernel
theorem d_MD_step_1 : decode M_MD_step.2.1 1 = .ok (.getfield 69, 3) := by decide +kernel
theorem d_MD_step_4 : decode M_MD_step.2.1 4 = .ok (.ifCond .eq (14), 3) := by decide +kernel
theorem d_MD_step_7 : decode M_MD_step.2.1 7 = .ok (.iload_n 1, 1) := by decide +kernel
theorem d_MD_step_8 : decode M_MD_step.2.1 8 = .ok (.iconst (1), 1) := by decide +kernel
theorem d_MD_step_9 : decode M_MD_step.2.1 9 = .ok (.if_icmp .lt (9), 3) := by decide +kernel
theorem d_MD_step_12 : decode M_MD_step.2.1 12 = .ok (.iload_n 1, 1) := by decide +kernel
theorem d_MD_step_13 : decode M_MD_step.2.1 13 = .ok (.bipush (10), 2) := by decide +kernel
theorem d_MD_step_15 : decode M_MD_step.2.1 15 = .ok (.if_icmp .le (5), 3) := by decide +kernel
theorem d_MD_step_18 : decode M_MD_step.2.1 18 = .ok (.iconst (-1), 1) := by decide +kernel
theorem d_MD_step_19 : decode M_MD_step.2.1 19 = .ok (.ireturn, 1) := by decide +kernel
theorem d_MD_step_20 : decode M_MD_step.2.1 20 = .ok (.iconst (0), 1) := by decide +kernel
theorem d_MD_step_21 : decode M_MD_step.2.1 21 = .ok (.istore_n 2, 1) := by decide +kernel
theorem d_MD_step_22 : decode M_MD_step.2.1 22 = .ok (.iload_n 2, 1) := by decide +kernel
theorem d_MD_step_23 : decode M_MD_step.2.1 23 = .ok (.iload_n 1, 1) := by decide +kernel
theorem d_MD_step_24 : decode M_MD_step.2.1 24 = .ok (.if_icmp .ge (88), 3) := by decide +kernel
theorem d_MD_step_27 : decode M_MD_step.2.1 27 = .ok (.aload_n 0, 1) := by decide +kernel
theorem d_MD_step_28 : decode M_MD_step.2.1 28 = .ok (.getfield 69, 3) := by decide +kernel
theorem d_MD_step_31 : decode M_MD_step.2.1 31 = .ok (.ifCond .eq (81), 3) := by decide +kernel
theorem d_MD_step_34 : decode M_MD_step.2.1 34 = .ok (.aload_n 0, 1) := by decide +kernel
theorem d_MD_step_35 : decode M_MD_step.2.1 35 = .ok (.getfield 69, 3) := by decide +kernel
theorem d_MD_step_38 : decode M_MD_step.2.1 38 = .ok (.iconst (2), 1) := by decide +kernel
theorem d_MD_step_39 : decode M_MD_step.2.1 39 = .ok (.if_icmp .ne (14), 3) := by decide +kernel
theorem d_MD_step_42 : decode M_MD_step.2.1 42 = .ok (.aload_n 0, 1) := by decide +kernel
theorem d_MD_step_43 : decode M_MD_step.2.1 43 = .ok (.aload_n 0, 1) := by decide +kernel
theorem d_MD_step_44 : decode M_MD_step.2.1 44 = .ok (.getfield 113, 3) := by decide +kernel
theorem d_MD_step_47 : decode M_MD_step.2.1 47 = .ok (.invokevirtual 177, 3) := by decide +kernel
theorem d_MD_step_50 : decode M_MD_step.2.1 50 = .ok (.goto (30), 3) := by decide +kernel
theorem d_MD_step_53 : decode M_MD_step.2.1 53 = .ok (.aload_n 0, 1) := by decide +kernel
theorem d_MD_step_54 : decode M_MD_step.2.1 54 = .ok (.getfield 69, 3) := by decide +kernel
theorem d_MD_step_57 : decode M_MD_step.2.1 57 = .ok (.iconst (3), 1) := by decide +kernel
theorem d_MD_step_58 : decode M_MD_step.2.1 58 = .ok (.if_icmp .ne (14), 3) := by decide +kernel
theorem d_MD_step_61 : decode M_MD_step.2.1 61 = .ok (.aload_n 0, 1) := by decide +kernel
theorem d_MD_step_62 : decode M_MD_step.2.1 62 = .ok (.aload_n 0, 1) := by decide +kernel
theorem d_MD_step_63 : decode M_MD_step.2.1 63 = .ok (.getfield 113, 3) := by decide +kernel
theorem d_MD_step_66 : decode M_MD_step.2.1 66 = .ok (.invokevirtual 180, 3) := by decide +kernel
theorem d_MD_step_69 : decode M_MD_step.2.1 69 = .ok (.goto (11), 3) := by decide +kernel
theorem d_MD_step_72 : decode M_MD_step.2.1 72 = .ok (.aload_n 0, 1) := by decide +kernel
theorem d_MD_step_73 : decode M_MD_step.2.1 73 = .ok (.aload_n 0, 1) := by decide +kernel
theorem d_MD_step_74 : decode M_MD_step.2.1 74 = .ok (.getfield 113, 3) := by decide +kernel
theorem d_MD_step_77 : decode M_MD_step.2.1 77 = .ok (.invokevirtual 183, 3) := by decide +kernel
theorem d_MD_step_80 : decode M_MD_step.2.1 80 = .ok (.aload_n 0, 1) := by decide +kernel
theorem d_MD_step_81 : decode M_MD_step.2.1 81 = .ok (.aload_n 0, 1) := by decide +kernel
theorem d_MD_step_82 : decode M_MD_step.2.1 82 = .ok (.getfield 113, 3) := by decide +kernel
theorem d_MD_step_85 : decode M_MD_step.2.1 85 = .ok (.iconst (1), 1) := by decide +kernel
theorem d_MD_step_86 : decode M_MD_step.2.1 86 = .ok (.iadd, 1) := by decide +kernel
theorem d_MD_step_87 : decode M_MD_step.2.1 87 = .ok (.putfield 113, 3) := by decide +kernel
theorem d_MD_step_90 : decode M_MD_step.2.1 90 = .ok (.iload_n 2, 1) := by decide +kernel
theorem d_MD_step_91 : decode M_MD_step.2.1 91 = .ok (.iconst (1), 1) := by decide +kernel
theorem d_MD_step_92 : decode M_MD_step.2.1 92 = .ok (.iadd, 1) := by decide +kernel
theorem d_MD_step_93 : decode M_MD_step.2.1 93 = .ok (.istore_n 2, 1) := by decide +kernel
theorem d_MD_step_94 : decode M_MD_step.2.1 94 = .ok (.aload_n 0, 1) := by decide +kernel
theorem d_MD_step_95 : decode M_MD_step.2.1 95 = .ok (.getfield 113, 3) := by decide +kernel
theorem d_MD_step_98 : decode M_MD_step.2.1 98 = .ok (.aload_n 0, 1) := by decide +kernel
theorem d_MD_step_99 : decode M_MD_step.2.1 99 = .ok (.getfield 116, 3) := by decide +kernel
theorem d_MD_step_102 : decode M_MD_step.2.1 102 = .ok (.if_icmp .ne (-80), 3) := by decide +kernel
theorem d_MD_step_105 : decode M_MD_step.2.1 105 = .ok (.aload_n 0, 1) := by decide +kernel
theorem d_MD_step_106 : decode M_MD_step.2.1 106 = .ok (.invokevirtual 186, 3) := by decide +kernel
theorem d_MD_step_109 : decode M_MD_step.2.1 109 = .ok (.goto (-87), 3) := by decide +kernel
theorem d_MD_step_112 : decode M_MD_step.2.1 112 = .ok (.iload_n 2, 1) := by decide +kernel
theorem d_MD_step_113 : decode M_MD_step.2.1 113 = .ok (.ireturn, 1) := by decide +kernel
theorem d_MD_crash_0 : decode M_MD_crash.2.1 0 = .ok (.iconst (-1), 1) := by decide +kernel
theorem d_MD_crash_1 : decode M_MD_crash.2.1 1 = .ok (.istore_n 3, 1) := by decide +kernel
theorem d_MD_crash_2 : decode M_MD_crash.2.1 2 = .ok (.iconst (0), 1) := by decide +kernel
theorem d_MD_crash_3 : decode M_MD_crash.2.1 3 = .ok (.istore 4, 2) := by decide +kernel
theorem d_MD_crash_5 : decode M_MD_crash.2.1 5 = .ok (.iconst (0), 1) := by decide +kernel
theorem d_MD_crash_6 : decode M_MD_crash.2.1 6 = .ok (.istore 5, 2) := by decide +kernel
theorem d_MD_crash_8 : decode M_MD_crash.2.1 8 = .ok (.iload 5, 2) := by decide +kernel
theorem d_MD_crash_10 : decode M_MD_crash.2.1 10 = .ok (.aload_n 0, 1) := by decide +kernel
theorem d_MD_crash_11 : decode M_MD_crash.2.1 11 = .ok (.getfield 50, 3) := by decide +kernel
theorem d_MD_crash_14 : decode M_MD_crash.2.1 14 = .ok (.if_icmp .ge (54), 3) := by decide +kernel
theorem d_MD_crash_17 : decode M_MD_crash.2.1 17 = .ok (.iload_n 1, 1) := by decide +kernel
theorem d_MD_crash_18 : decode M_MD_crash.2.1 18 = .ok (.iload 5, 2) := by decide +kernel
theorem d_MD_crash_20 : decode M_MD_crash.2.1 20 = .ok (.ishr, 1) := by decide +kernel
theorem d_MD_crash_21 : decode M_MD_crash.2.1 21 = .ok (.iconst (1), 1) := by decide +kernel
theorem d_MD_crash_22 : decode M_MD_crash.2.1 22 = .ok (.iand, 1) := by decide +kernel
theorem d_MD_crash_23 : decode M_MD_crash.2.1 23 = .ok (.iconst (1), 1) := by decide +kernel
theorem d_MD_crash_24 : decode M_MD_crash.2.1 24 = .ok (.if_icmp .ne (7), 3) := by decide +kernel
theorem d_MD_crash_27 : decode M_MD_crash.2.1 27 = .ok (.iconst (1), 1) := by decide +kernel
theorem d_MD_crash_28 : decode M_MD_crash.2.1 28 = .ok (.goto (4), 3) := by decide +kernel
theorem d_MD_crash_31 : decode M_MD_crash.2.1 31 = .ok (.iconst (0), 1) := by decide +kernel
theorem d_MD_crash_32 : decode M_MD_crash.2.1 32 = .ok (.istore 6, 2) := by decide +kernel
theorem d_MD_crash_34 : decode M_MD_crash.2.1 34 = .ok (.iload 6, 2) := by decide +kernel
theorem d_MD_crash_36 : decode M_MD_crash.2.1 36 = .ok (.ifCond .eq (8), 3) := by decide +kernel
theorem d_MD_crash_39 : decode M_MD_crash.2.1 39 = .ok (.iload 5, 2) := by decide +kernel
theorem d_MD_crash_41 : decode M_MD_crash.2.1 41 = .ok (.goto (4), 3) := by decide +kernel
theorem d_MD_crash_44 : decode M_MD_crash.2.1 44 = .ok (.iload_n 3, 1) := by decide +kernel
theorem d_MD_crash_45 : decode M_MD_crash.2.1 45 = .ok (.istore_n 3, 1) := by decide +kernel
theorem d_MD_crash_46 : decode M_MD_crash.2.1 46 = .ok (.iload 6, 2) := by decide +kernel
theorem d_MD_crash_48 : decode M_MD_crash.2.1 48 = .ok (.ifCond .eq (8), 3) := by decide +kernel
theorem d_MD_crash_51 : decode M_MD_crash.2.1 51 = .ok (.iload 4, 2) := by decide +kernel
theorem d_MD_crash_53 : decode M_MD_crash.2.1 53 = .ok (.goto (7), 3) := by decide +kernel
theorem d_MD_crash_56 : decode M_MD_crash.2.1 56 = .ok (.iload 4, 2) := by decide +kernel
theorem d_MD_crash_58 : decode M_MD_crash.2.1 58 = .ok (.iconst (1), 1) := by decide +kernel
theorem d_MD_crash_59 : decode M_MD_crash.2.1 59 = .ok (.iadd, 1) := by decide +kernel
theorem d_MD_crash_60 : decode M_MD_crash.2.1 60 = .ok (.istore 4, 2) := by decide +kernel
theorem d_MD_crash_62 : decode M_MD_crash.2.1 62 = .ok (.iinc 5 (1), 3) := by decide +kernel
theorem d_MD_crash_65 : decode M_MD_crash.2.1 65 = .ok (.goto (-57), 3) := by decide +kernel
theorem d_MD_crash_68 : decode M_MD_crash.2.1 68 = .ok (.iconst (0), 1) := by decide +kernel
theorem d_MD_crash_69 : decode M_MD_crash.2.1 69 = .ok (.istore 5, 2) := by decide +kernel
theorem d_MD_crash_71 : decode M_MD_crash.2.1 71 = .ok (.iload 5, 2) := by decide +kernel
theorem d_MD_crash_73 : decode M_MD_crash.2.1 73 = .ok (.aload_n 0, 1) := by decide +kernel
theorem d_MD_crash_74 : decode M_MD_crash.2.1 74 = .ok (.getfield 50, 3) := by decide +kernel
theorem d_MD_crash_77 : decode M_MD_crash.2.1 77 = .ok (.if_icmp .ge (45), 3) := by decide +kernel
theorem d_MD_crash_80 : decode M_MD_crash.2.1 80 = .ok (.iload_n 1, 1) := by decide +kernel
theorem d_MD_crash_81 : decode M_MD_crash.2.1 81 = .ok (.iload 5, 2) := by decide +kernel
theorem d_MD_crash_83 : decode M_MD_crash.2.1 83 = .ok (.ishr, 1) := by decide +kernel
theorem d_MD_crash_84 : decode M_MD_crash.2.1 84 = .ok (.iconst (1), 1) := by decide +kernel
theorem d_MD_crash_85 : decode M_MD_crash.2.1 85 = .ok (.iand, 1) := by decide +kernel
theorem d_MD_crash_86 : decode M_MD_crash.2.1 86 = .ok (.iconst (1), 1) := by decide +kernel
theorem d_MD_crash_87 : decode M_MD_crash.2.1 87 = .ok (.if_icmp .ne (29), 3) := by decide +kernel
theorem d_MD_crash_90 : decode M_MD_crash.2.1 90 = .ok (.aload_n 0, 1) := by decide +kernel
theorem d_MD_crash_91 : decode M_MD_crash.2.1 91 = .ok (.iload 5, 2) := by decide +kernel
theorem d_MD_crash_93 : decode M_MD_crash.2.1 93 = .ok (.iload 5, 2) := by decide +kernel
theorem d_MD_crash_95 : decode M_MD_crash.2.1 95 = .ok (.iload_n 3, 1) := by decide +kernel
theorem d_MD_crash_96 : decode M_MD_crash.2.1 96 = .ok (.if_icmp .ne (16), 3) := by decide +kernel
theorem d_MD_crash_99 : decode M_MD_crash.2.1 99 = .ok (.iload_n 2, 1) := by decide +kernel
theorem d_MD_crash_100 : decode M_MD_crash.2.1 100 = .ok (.ifCond .lt (12), 3) := by decide +kernel
theorem d_MD_crash_103 : decode M_MD_crash.2.1 103 = .ok (.iload_n 2, 1) := by decide +kernel
theorem d_MD_crash_104 : decode M_MD_crash.2.1 104 = .ok (.iconst (3), 1) := by decide +kernel
theorem d_MD_crash_105 : decode M_MD_crash.2.1 105 = .ok (.if_icmp .gt (7), 3) := by decide +kernel
theorem d_MD_crash_108 : decode M_MD_crash.2.1 108 = .ok (.iload_n 2, 1) := by decide +kernel
theorem d_MD_crash_109 : decode M_MD_crash.2.1 109 = .ok (.goto (4), 3) := by decide +kernel
theorem d_MD_crash_112 : decode M_MD_crash.2.1 112 = .ok (.iconst (4), 1) := by decide +kernel
theorem d_MD_crash_113 : decode M_MD_crash.2.1 113 = .ok (.invokevirtual 53, 3) := by decide +kernel
theorem d_MD_crash_116 : decode M_MD_crash.2.1 116 = .ok (.iinc 5 (1), 3) := by decide +kernel
theorem d_MD_crash_119 : decode M_MD_crash.2.1 119 = .ok (.goto (-48), 3) := by decide +kernel
theorem d_MD_crash_122 : decode M_MD_crash.2.1 122 = .ok (.aload_n 0, 1) := by decide +kernel
theorem d_MD_crash_123 : decode M_MD_crash.2.1 123 = .ok (.iconst (0), 1) := by decide +kernel
theorem d_MD_crash_124 : decode M_MD_crash.2.1 124 = .ok (.putfield 50, 3) := by decide +kernel
theorem d_MD_crash_127 : decode M_MD_crash.2.1 127 = .ok (.aload_n 0, 1) := by decide +kernel
theorem d_MD_crash_128 : decode M_MD_crash.2.1 128 = .ok (.iconst (0), 1) := by decide +kernel
theorem d_MD_crash_129 : decode M_MD_crash.2.1 129 = .ok (.putfield 19, 3) := by decide +kernel
theorem d_MD_crash_132 : decode M_MD_crash.2.1 132 = .ok (.aload_n 0, 1) := by decide +kernel
theorem d_MD_crash_133 : decode M_MD_crash.2.1 133 = .ok (.iconst (0), 1) := by decide +kernel
theorem d_MD_crash_134 : decode M_MD_crash.2.1 134 = .ok (.putfield 69, 3) := by decide +kernel
theorem d_MD_crash_137 : decode M_MD_crash.2.1 137 = .ok (.iload 4, 2) := by decide +kernel
theorem d_MD_crash_139 : decode M_MD_crash.2.1 139 = .ok (.ireturn, 1) := by decide +kernel
theorem d_MD_state_0 : decode M_MD_state.2.1 0 = .ok (.aload_n 0, 1) := by decide +kernel
theorem d_MD_state_1 : decode M_MD_state.2.1 1 = .ok (.getfield 69, 3) := by decide +kernel
theorem d_MD_state_4 : decode M_MD_state.2.1 4 = .ok (.ifCond .eq (10), 3) := by decide +kernel
theorem d_MD_state_7 : decode M_MD_state.2.1 7 = .ok (.aload_n 0, 1) := by decide +kernel
theorem d_MD_state_8 : decode M_MD_state.2.1 8 = .ok (.getfield 69, 3) := by decide +kernel
theorem d_MD_state_11 : decode M_MD_state.2.1 11 = .ok (.goto (15), 3) := by decide +kernel
theorem d_MD_state_14 : decode M_MD_state.2.1 14 = .ok (.aload_n 0, 1) := by decide +kernel
theorem d_MD_state_15 : decode M_MD_state.2.1 15 = .ok (.getfield 19, 3) := by decide +kernel
theorem d_MD_state_18 : decode M_MD_state.2.1 18 = .ok (.ifCond .eq (7), 3) := by decide +kernel
theorem d_MD_state_21 : decode M_MD_state.2.1 21 = .ok (.iconst (1), 1) := by decide +kernel
theorem d_MD_state_22 : decode M_MD_state.2.1 22 = .ok (.goto (4), 3) := by decide +kernel
theorem d_MD_state_25 : decode M_MD_state.2.1 25 = .ok (.iconst (0), 1) := by decide +kernel
theorem d_MD_state_26 : decode M_MD_state.2.1 26 = .ok (.ireturn, 1) := by decide +kernel
theorem d_MD_number_0 : decode M_MD_number.2.1 0 = .ok (.aload_n 0, 1) := by decide +kernel
theorem d_MD_number_1 : decode M_MD_number.2.1 1 = .ok (.getfield 19, 3) := by decide +kernel
theorem d_MD_number_4 : decode M_MD_number.2.1 4 = .ok (.ifCond .eq (10), 3) := by decide +kernel
theorem d_MD_number_7 : decode M_MD_number.2.1 7 = .ok (.aload_n 0, 1) := by decide +kernel
theorem d_MD_number_8 : decode M_MD_number.2.1 8 = .ok (.getfield 23, 3) := by decide +kernel
theorem d_MD_number_11 : decode M_MD_number.2.1 11 = .ok (.goto (4), 3) := by decide +kernel
theorem d_MD_number_14 : decode M_MD_number.2.1 14 = .ok (.iconst (-1), 1) := by decide +kernel
theorem d_MD_number_15 : decode M_MD_number.2.1 15 = .ok (.ireturn, 1) := by decide +kernel
theorem d_MD_used_0 : decode M_MD_used.2.1 0 = .ok (.aload_n 0, 1) := by decide +kernel
theorem d_MD_used_1 : decode M_MD_used.2.1 1 = .ok (.getfield 19, 3) := by decide +kernel
theorem d_MD_used_4 : decode M_MD_used.2.1 4 = .ok (.ifCond .eq (10), 3) := by decide +kernel
theorem d_MD_used_7 : decode M_MD_used.2.1 7 = .ok (.aload_n 0, 1) := by decide +kernel
theorem d_MD_used_8 : decode M_MD_used.2.1 8 = .ok (.getfield 110, 3) := by decide +kernel
theorem d_MD_used_11 : decode M_MD_used.2.1 11 = .ok (.goto (4), 3) := by decide +kernel
theorem d_MD_used_14 : decode M_MD_used.2.1 14 = .ok (.iconst (-1), 1) := by decide +kernel
theorem d_MD_used_15 : decode M_MD_used.2.1 15 = .ok (.ireturn, 1) := by decide +kernel
theorem d_MD_left_0 : decode M_MD_left.2.1 0 = .ok (.aload_n 0, 1) := by decide +kernel
theorem d_MD_left_1 : decode M_MD_left.2.1 1 = .ok (.getfield 69, 3) := by decide +kernel
theorem d_MD_left_4 : decode M_MD_left.2.1 4 = .ok (.ifCond .ne (7), 3) := by decide +kernel
theorem d_MD_left_7 : decode M_MD_left.2.1 7 = .ok (.iconst (0), 1) := by decide +kernel
theorem d_MD_left_8 : decode M_MD_left.2.1 8 = .ok (.goto (12), 3) := by decide +kernel
theorem d_MD_left_11 : decode M_MD_left.2.1 11 = .ok (.aload_n 0, 1) := by decide +kernel
theorem d_MD_left_12 : decode M_MD_left.2.1 12 = .ok (.getfield 116, 3) := by decide +kernel
theorem d_MD_left_15 : decode M_MD_left.2.1 15 = .ok (.aload_n 0, 1) := by decide +kernel
theorem d_MD_left_16 : decode M_MD_left.2.1 16 = .ok (.getfield 113, 3) := by decide +kernel
theorem d_MD_left_19 : decode M_MD_left.2.1 19 = .ok (.isub, 1) := by decide +kernel
theorem d_MD_left_20 : decode M_MD_left.2.1 20 = .ok (.ireturn, 1) := by decide +kernel
end
section
set_option maxRecDepth 100000 in
set_option maxHeartbeats 4000000 in
theorem k_JA_fill_0 {l : Launch} {E : xE} {x1 : Int32} {h : xh} {Q : Option Int32 → xh → Prop}
    (e1 : WP l E M_JA_fill 5 [(0, .inr 22), (1, .inl (x1)), (2, .inl (nI 0)), (3, .inl (nI 16))] [] h Q) : MC l E M_JA_fill [.inr 22, .inl (x1)] h Q := by
  refine wp_iconst (v := nI 0) d_JA_fill_0 c_iconst_0 ?_
  refine wp_istore_n (ls' := [(0, .inr 22), (1, .inl (x1)), (2, .inl (nI 0))]) d_JA_fill_1 (by decide) rfl ?_
  refine wp_aload_n d_JA_fill_2 rfl ?_
  refine wp_alen d_JA_fill_3 rfl ?_
  refine wp_istore_n (ls' := [(0, .inr 22), (1, .inl (x1)), (2, .inl (nI 0)), (3, .inl (nI 16))]) d_JA_fill_4 (by decide) rfl ?_
  exact e1
set_option maxRecDepth 100000 in
set_option maxHeartbeats 4000000 in
theorem k_JA_fill_5 {l : Launch} {E : xE} {x1 x2 x3 : Int32} {h : xh} {Q : Option Int32 → xh → Prop}
    (e1 : x3 ≤ x2 → Q none h)
    (o1 : ¬ x3 ≤ x2 → vp_in (x2) 16)
    (e2 : ¬ x3 ≤ x2 → WP l E M_JA_fill 5 [(0, .inr 22), (1, .inl (x1)), (2, .inl (x2 + nI 1)), (3, .inl (x3))] [] (hw h 22 ((x2).toNatClampNeg) (x1)) Q) : WP l E M_JA_fill 5 [(0, .inr 22), (1, .inl (x1)), (2, .inl (x2)), (3, .inl (x3))] [] h Q := by
  refine wp_iload_n d_JA_fill_5 rfl ?_
  refine wp_iload_n d_JA_fill_6 rfl ?_
  refine wp_ic_ge (tgt := 20) d_JA_fill_7 (by decide) (fun c1 => ?_) (fun c1 => ?_)
  · refine wp_return d_JA_fill_20 rfl ?_
    exact e1 c1
  · refine wp_aload_n d_JA_fill_10 rfl ?_
    refine wp_iload_n d_JA_fill_11 rfl ?_
    refine wp_iload_n d_JA_fill_12 rfl ?_
    refine wp_iastore d_JA_fill_13 rfl (o1 c1) ?_
    refine wp_iinc (v := x2 + nI 1) (ls' := [(0, .inr 22), (1, .inl (x1)), (2, .inl (x2 + nI 1)), (3, .inl (x3))]) d_JA_fill_14 rfl (c_inc_1 _) (by decide) rfl ?_
    refine wp_goto (tgt := 5) d_JA_fill_17 (by decide) ?_
    exact e2 c1
end
section
set_option maxRecDepth 100000 in
set_option maxHeartbeats 4000000 in
theorem k_DV_newestWord_0 {l : Launch} {E : xE} {x1 x2 : Int32} {h : xh} {Q : Option Int32 → xh → Prop}
    (e1 : WP l E M_DV_newestWord 7 [(0, .inr 1), (1, .inl (x1)), (2, .inl (x2)), (3, .inl ((h 1 3) - (nI 1)))] [] h Q) : MC l E M_DV_newestWord [.inr 1, .inl (x1), .inl (x2)] h Q := by
  refine wp_aload_n d_DV_newestWord_0 rfl ?_
  refine wp_getI d_DV_newestWord_1 fl_DV_21 rfl rfl ?_
  refine wp_iconst (v := nI 1) d_DV_newestWord_4 c_iconst_1 ?_
  refine wp_isub d_DV_newestWord_5 ?_
  refine wp_istore_n (ls' := [(0, .inr 1), (1, .inl (x1)), (2, .inl (x2)), (3, .inl ((h 1 3) - (nI 1)))]) d_DV_newestWord_6 (by decide) rfl ?_
  exact e1
set_option maxRecDepth 100000 in
set_option maxHeartbeats 4000000 in
theorem k_DV_newestWord_7 {l : Launch} {E : xE} {x1 x2 x3 : Int32} {h : xh} {Q : Option Int32 → xh → Prop}
    (o1 : x3 < 0 → vp_in (((x1) * (nI 4)) + (x2)) 164)
    (e1 : x3 < 0 → Q (some (h 8 ((((x1) * (nI 4)) + (x2)).toNatClampNeg))) h)
    (o2 : ¬ x3 < 0 → vp_in (x3) 28)
    (e2 : ¬ x3 < 0 → (h 9 ((x3).toNatClampNeg)) ≠ x1 → WP l E M_DV_newestWord 7 [(0, .inr 1), (1, .inl (x1)), (2, .inl (x2)), (3, .inl (x3 - nI 1))] [] h Q)
    (o3 : ¬ x3 < 0 → (h 9 ((x3).toNatClampNeg)) = x1 → vp_in (((x3) * (nI 4)) + (x2)) 112)
    (e3 : ¬ x3 < 0 → (h 9 ((x3).toNatClampNeg)) = x1 → Q (some (h 10 ((((x3) * (nI 4)) + (x2)).toNatClampNeg))) h) : WP l E M_DV_newestWord 7 [(0, .inr 1), (1, .inl (x1)), (2, .inl (x2)), (3, .inl (x3))] [] h Q := by
  refine wp_iload_n d_DV_newestWord_7 rfl ?_
  refine wp_if_lt (tgt := 38) d_DV_newestWord_8 (by decide) (fun c1 => ?_) (fun c1 => ?_)
  · refine wp_aload_n d_DV_newestWord_38 rfl ?_
    refine wp_iload_n d_DV_newestWord_39 rfl ?_
    refine wp_iload_n d_DV_newestWord_40 rfl ?_
    refine wp_callV (as := [.inl (x1), .inl (x2)]) (rest := []) (Q' := fun r h' => WP l E M_DV_newestWord 44 [(0, .inr 1), (1, .inl (x1)), (2, .inl (x2)), (3, .inl (x3))] (rpush r []) h' _) d_DV_newestWord_41 vb_DV_newestWord_26 ⟨gw_1_229, gw_1_230⟩ rfl rfl rfl rfl (Nat.le_of_ble_eq_true rfl) rfl (Nat.le_of_ble_eq_true rfl) ?_ (fun r h' z => z)
    show WP l E M_DV_ownWord 0 [(0, .inr 1), (1, .inl (x1)), (2, .inl (x2))] [] h _
    refine wp_aload_n d_DV_ownWord_0 rfl ?_
    refine wp_getR d_DV_ownWord_1 fl_DV_9 rfl rfl ?_
    refine wp_iload_n d_DV_ownWord_4 rfl ?_
    refine wp_iconst (v := nI 4) d_DV_ownWord_5 c_iconst_4 ?_
    refine wp_imul d_DV_ownWord_6 ?_
    refine wp_iload_n d_DV_ownWord_7 rfl ?_
    refine wp_iadd d_DV_ownWord_8 ?_
    refine wp_iaload d_DV_ownWord_9 rfl (o1 c1) ?_
    refine wp_ireturn d_DV_ownWord_10 rfl ?_
    show WP l E M_DV_newestWord 44 [(0, .inr 1), (1, .inl (x1)), (2, .inl (x2)), (3, .inl (x3))] [.inl (h 8 ((((x1) * (nI 4)) + (x2)).toNatClampNeg))] h _
    refine wp_ireturn d_DV_newestWord_44 rfl ?_
    exact e1 c1
  · refine wp_aload_n d_DV_newestWord_11 rfl ?_
    refine wp_getR d_DV_newestWord_12 fl_DV_15 rfl rfl ?_
    refine wp_iload_n d_DV_newestWord_15 rfl ?_
    refine wp_iaload d_DV_newestWord_16 rfl (o2 c1) ?_
    refine wp_iload_n d_DV_newestWord_17 rfl ?_
    refine wp_ic_ne (tgt := 32) d_DV_newestWord_18 (by decide) (fun c2 => ?_) (fun c2 => ?_)
    · refine wp_iinc (v := x3 - nI 1) (ls' := [(0, .inr 1), (1, .inl (x1)), (2, .inl (x2)), (3, .inl (x3 - nI 1))]) d_DV_newestWord_32 rfl (c_inc_m1 _) (by decide) rfl ?_
      refine wp_goto (tgt := 7) d_DV_newestWord_35 (by decide) ?_
      exact e2 c1 c2
    · refine wp_aload_n d_DV_newestWord_21 rfl ?_
      refine wp_getR d_DV_newestWord_22 fl_DV_18 rfl rfl ?_
      refine wp_iload_n d_DV_newestWord_25 rfl ?_
      refine wp_iconst (v := nI 4) d_DV_newestWord_26 c_iconst_4 ?_
      refine wp_imul d_DV_newestWord_27 ?_
      refine wp_iload_n d_DV_newestWord_28 rfl ?_
      refine wp_iadd d_DV_newestWord_29 ?_
      refine wp_iaload d_DV_newestWord_30 rfl (o3 c1 c2) ?_
      refine wp_ireturn d_DV_newestWord_31 rfl ?_
      exact e3 c1 c2
set_option maxRecDepth 100000 in
set_option maxHeartbeats 4000000 in
theorem k_DV_write_0 {l : Launch} {E : xE} {x1 x3 : Int32} {h : xh} {Q : Option Int32 → xh → Prop}
    (o1 : (h 1 3) < (nI 28) → ¬ x3 < 0)
    (o2 : (h 1 3) < (nI 28) → ¬ ((h 1 3) * (nI 4)) < 0)
    (o3 : (h 1 3) < (nI 28) → (x3).toNatClampNeg + (nI 4).toNatClampNeg ≤ 108)
    (o4 : (h 1 3) < (nI 28) → ((h 1 3) * (nI 4)).toNatClampNeg + (nI 4).toNatClampNeg ≤ 112)
    (o5 : (h 1 3) < (nI 28) → vp_in (h 1 3) 28)
    (e1 : (h 1 3) < (nI 28) → Q none (hw (hw (hc h 24 10 (x3) ((h 1 3) * (nI 4)) (nI 4)) 9 ((h 1 3).toNatClampNeg) (x1)) 1 3 ((h 1 3) + (nI 1))))
    (e2 : ¬ (h 1 3) < (nI 28) → Q none h) : MC l E M_DV_write [.inr 1, .inl (x1), .inr 24, .inl (x3)] h Q := by
  refine wp_aload_n d_DV_write_0 rfl ?_
  refine wp_getI d_DV_write_1 fl_DV_21 rfl rfl ?_
  refine wp_bipush (v := nI 28) d_DV_write_4 c_bipush_28 ?_
  refine wp_ic_lt (tgt := 10) d_DV_write_6 (by decide) (fun c1 => ?_) (fun c1 => ?_)
  · refine wp_aload_n d_DV_write_10 rfl ?_
    refine wp_iload_n d_DV_write_11 rfl ?_
    refine wp_aload_n d_DV_write_12 rfl ?_
    refine wp_getR d_DV_write_13 fl_DV_18 rfl rfl ?_
    refine wp_aload_n d_DV_write_16 rfl ?_
    refine wp_getI d_DV_write_17 fl_DV_21 rfl rfl ?_
    refine wp_iconst (v := nI 4) d_DV_write_20 c_iconst_4 ?_
    refine wp_imul d_DV_write_21 ?_
    refine wp_iconst (v := nI 4) d_DV_write_22 c_iconst_4 ?_
    refine wp_copy d_DV_write_23 gw_2_178 gw_2_180 gw_2_179 gw_1_10 rfl rfl (Nat.le_of_ble_eq_true rfl) (Nat.le_of_ble_eq_true rfl) (o1 c1) (o2 c1) (by decide +kernel) (o3 c1) (o4 c1) ?_
    refine wp_aload_n d_DV_write_26 rfl ?_
    refine wp_getR d_DV_write_27 fl_DV_15 rfl rfl ?_
    refine wp_aload_n d_DV_write_30 rfl ?_
    refine wp_getI d_DV_write_31 fl_DV_21 rfl rfl ?_
    show WP l E M_DV_write 34 [(0, .inr 1), (1, .inl (x1)), (2, .inr 24), (3, .inl (x3))] [.inl (h 1 3), .inr 9] (hc h 24 10 (x3) ((h 1 3) * (nI 4)) (nI 4)) _
    refine wp_iload_n d_DV_write_34 rfl ?_
    refine wp_iastore d_DV_write_35 rfl (o5 c1) ?_
    refine wp_aload_n d_DV_write_36 rfl ?_
    refine wp_dup d_DV_write_37 ?_
    refine wp_getI d_DV_write_38 fl_DV_21 rfl rfl ?_
    show WP l E M_DV_write 41 [(0, .inr 1), (1, .inl (x1)), (2, .inr 24), (3, .inl (x3))] [.inl (h 1 3), .inr 1] (hw (hc h 24 10 (x3) ((h 1 3) * (nI 4)) (nI 4)) 9 ((h 1 3).toNatClampNeg) (x1)) _
    refine wp_iconst (v := nI 1) d_DV_write_41 c_iconst_1 ?_
    refine wp_iadd d_DV_write_42 ?_
    refine wp_putI d_DV_write_43 fm_DV_21 rfl rfl ?_
    refine wp_return d_DV_write_46 rfl ?_
    exact e1 c1
  · refine wp_return d_DV_write_9 rfl ?_
    exact e2 c1
set_option maxRecDepth 100000 in
set_option maxHeartbeats 4000000 in
theorem k_DV_writeChanged_0 {l : Launch} {E : xE} {x1 x2 x3 : Int32} {h : xh} {Q : Option Int32 → xh → Prop}
    (e1 : (h 1 3) < (nI 28) → WP l E M_DV_writeChanged 21 [(0, .inr 1), (1, .inl (x1)), (2, .inl (x2)), (3, .inl (x3)), (4, .inl ((h 1 3) * (nI 4))), (5, .inl (nI 0))] [] h Q)
    (e2 : ¬ (h 1 3) < (nI 28) → Q none h) : MC l E M_DV_writeChanged [.inr 1, .inl (x1), .inl (x2), .inl (x3)] h Q := by
  refine wp_aload_n d_DV_writeChanged_0 rfl ?_
  refine wp_getI d_DV_writeChanged_1 fl_DV_21 rfl rfl ?_
  refine wp_bipush (v := nI 28) d_DV_writeChanged_4 c_bipush_28 ?_
  refine wp_ic_lt (tgt := 10) d_DV_writeChanged_6 (by decide) (fun c1 => ?_) (fun c1 => ?_)
  · refine wp_aload_n d_DV_writeChanged_10 rfl ?_
    refine wp_getI d_DV_writeChanged_11 fl_DV_21 rfl rfl ?_
    refine wp_iconst (v := nI 4) d_DV_writeChanged_14 c_iconst_4 ?_
    refine wp_imul d_DV_writeChanged_15 ?_
    refine wp_istore (ls' := [(0, .inr 1), (1, .inl (x1)), (2, .inl (x2)), (3, .inl (x3)), (4, .inl ((h 1 3) * (nI 4)))]) d_DV_writeChanged_16 (by decide) rfl ?_
    refine wp_iconst (v := nI 0) d_DV_writeChanged_18 c_iconst_0 ?_
    refine wp_istore (ls' := [(0, .inr 1), (1, .inl (x1)), (2, .inl (x2)), (3, .inl (x3)), (4, .inl ((h 1 3) * (nI 4))), (5, .inl (nI 0))]) d_DV_writeChanged_19 (by decide) rfl ?_
    exact e1 c1
  · refine wp_return d_DV_writeChanged_9 rfl ?_
    exact e2 c1
set_option maxRecDepth 100000 in
set_option maxHeartbeats 4000000 in
theorem k_DV_writeChanged_21 {l : Launch} {E : xE} {x1 x2 x3 x4 x5 : Int32} {h : xh} {Q : Option Int32 → xh → Prop}
    (o1 : (nI 4) ≤ x5 → vp_in (h 1 3) 28)
    (e1 : (nI 4) ≤ x5 → Q none (hw (hw h 9 ((h 1 3).toNatClampNeg) (x1)) 1 3 ((h 1 3) + (nI 1))))
    (e2 : ¬ (nI 4) ≤ x5 → x5 ≠ x2 → MC l E M_DV_newestWord [.inr 1, .inl (x1), .inl (x5)] h (fun r h' => WP l E M_DV_writeChanged 53 [(0, .inr 1), (1, .inl (x1)), (2, .inl (x2)), (3, .inl (x3)), (4, .inl (x4)), (5, .inl (x5))] (rpush r [.inl ((x4) + (x5)), .inr 10]) h' Q))
    (o2 : ¬ (nI 4) ≤ x5 → x5 = x2 → vp_in ((x4) + (x5)) 112)
    (e3 : ¬ (nI 4) ≤ x5 → x5 = x2 → WP l E M_DV_writeChanged 21 [(0, .inr 1), (1, .inl (x1)), (2, .inl (x2)), (3, .inl (x3)), (4, .inl (x4)), (5, .inl (x5 + nI 1))] [] (hw h 10 (((x4) + (x5)).toNatClampNeg) (x3)) Q) : WP l E M_DV_writeChanged 21 [(0, .inr 1), (1, .inl (x1)), (2, .inl (x2)), (3, .inl (x3)), (4, .inl (x4)), (5, .inl (x5))] [] h Q := by
  refine wp_iload d_DV_writeChanged_21 rfl ?_
  refine wp_iconst (v := nI 4) d_DV_writeChanged_23 c_iconst_4 ?_
  refine wp_ic_ge (tgt := 60) d_DV_writeChanged_24 (by decide) (fun c1 => ?_) (fun c1 => ?_)
  · refine wp_aload_n d_DV_writeChanged_60 rfl ?_
    refine wp_getR d_DV_writeChanged_61 fl_DV_15 rfl rfl ?_
    refine wp_aload_n d_DV_writeChanged_64 rfl ?_
    refine wp_getI d_DV_writeChanged_65 fl_DV_21 rfl rfl ?_
    refine wp_iload_n d_DV_writeChanged_68 rfl ?_
    refine wp_iastore d_DV_writeChanged_69 rfl (o1 c1) ?_
    refine wp_aload_n d_DV_writeChanged_70 rfl ?_
    refine wp_dup d_DV_writeChanged_71 ?_
    refine wp_getI d_DV_writeChanged_72 fl_DV_21 rfl rfl ?_
    show WP l E M_DV_writeChanged 75 [(0, .inr 1), (1, .inl (x1)), (2, .inl (x2)), (3, .inl (x3)), (4, .inl (x4)), (5, .inl (x5))] [.inl (h 1 3), .inr 1] (hw h 9 ((h 1 3).toNatClampNeg) (x1)) _
    refine wp_iconst (v := nI 1) d_DV_writeChanged_75 c_iconst_1 ?_
    refine wp_iadd d_DV_writeChanged_76 ?_
    refine wp_putI d_DV_writeChanged_77 fm_DV_21 rfl rfl ?_
    refine wp_return d_DV_writeChanged_80 rfl ?_
    exact e1 c1
  · refine wp_aload_n d_DV_writeChanged_27 rfl ?_
    refine wp_getR d_DV_writeChanged_28 fl_DV_18 rfl rfl ?_
    refine wp_iload d_DV_writeChanged_31 rfl ?_
    refine wp_iload d_DV_writeChanged_33 rfl ?_
    refine wp_iadd d_DV_writeChanged_35 ?_
    refine wp_iload d_DV_writeChanged_36 rfl ?_
    refine wp_iload_n d_DV_writeChanged_38 rfl ?_
    refine wp_ic_ne (tgt := 46) d_DV_writeChanged_39 (by decide) (fun c2 => ?_) (fun c2 => ?_)
    · refine wp_aload_n d_DV_writeChanged_46 rfl ?_
      refine wp_iload_n d_DV_writeChanged_47 rfl ?_
      refine wp_iload d_DV_writeChanged_48 rfl ?_
      refine wp_callV (as := [.inl (x1), .inl (x5)]) (rest := [.inl ((x4) + (x5)), .inr 10]) (Q' := fun r h' => WP l E M_DV_writeChanged 53 [(0, .inr 1), (1, .inl (x1)), (2, .inl (x2)), (3, .inl (x3)), (4, .inl (x4)), (5, .inl (x5))] (rpush r [.inl ((x4) + (x5)), .inr 10]) h' Q) d_DV_writeChanged_50 vb_DV_writeChanged_36 ⟨gw_1_225, gw_1_226⟩ rfl rfl rfl rfl (Nat.le_of_ble_eq_true rfl) rfl (Nat.le_of_ble_eq_true rfl) ?_ (fun r h' z => z)
      exact e2 c1 c2
    · refine wp_iload_n d_DV_writeChanged_42 rfl ?_
      refine wp_goto (tgt := 53) d_DV_writeChanged_43 (by decide) ?_
      refine wp_iastore d_DV_writeChanged_53 rfl (o2 c1 c2) ?_
      refine wp_iinc (v := x5 + nI 1) (ls' := [(0, .inr 1), (1, .inl (x1)), (2, .inl (x2)), (3, .inl (x3)), (4, .inl (x4)), (5, .inl (x5 + nI 1))]) d_DV_writeChanged_54 rfl (c_inc_1 _) (by decide) rfl ?_
      refine wp_goto (tgt := 21) d_DV_writeChanged_57 (by decide) ?_
      exact e3 c1 c2
set_option maxRecDepth 100000 in
set_option maxHeartbeats 4000000 in
theorem k_DV_writeChanged_53 {l : Launch} {E : xE} {r s1 x1 x2 x3 x4 x5 : Int32} {h : xh} {Q : Option Int32 → xh → Prop}
    (o1 : vp_in (s1) 112)
    (e1 : WP l E M_DV_writeChanged 21 [(0, .inr 1), (1, .inl (x1)), (2, .inl (x2)), (3, .inl (x3)), (4, .inl (x4)), (5, .inl (x5 + nI 1))] [] (hw h 10 ((s1).toNatClampNeg) (r)) Q) : WP l E M_DV_writeChanged 53 [(0, .inr 1), (1, .inl (x1)), (2, .inl (x2)), (3, .inl (x3)), (4, .inl (x4)), (5, .inl (x5))] [.inl (r), .inl (s1), .inr 10] h Q := by
  refine wp_iastore d_DV_writeChanged_53 rfl o1 ?_
  refine wp_iinc (v := x5 + nI 1) (ls' := [(0, .inr 1), (1, .inl (x1)), (2, .inl (x2)), (3, .inl (x3)), (4, .inl (x4)), (5, .inl (x5 + nI 1))]) d_DV_writeChanged_54 rfl (c_inc_1 _) (by decide) rfl ?_
  refine wp_goto (tgt := 21) d_DV_writeChanged_57 (by decide) ?_
  exact e1
set_option maxRecDepth 100000 in
set_option maxHeartbeats 4000000 in
theorem k_DV_flush_0 {l : Launch} {E : xE} {h : xh} {Q : Option Int32 → xh → Prop}
    (e1 : WP l E M_DV_flush 2 [(0, .inr 1), (1, .inl (nI 0))] [] h Q) : MC l E M_DV_flush [.inr 1] h Q := by
  refine wp_iconst (v := nI 0) d_DV_flush_0 c_iconst_0 ?_
  refine wp_istore_n (ls' := [(0, .inr 1), (1, .inl (nI 0))]) d_DV_flush_1 (by decide) rfl ?_
  exact e1
set_option maxRecDepth 100000 in
set_option maxHeartbeats 4000000 in
theorem k_DV_flush_2 {l : Launch} {E : xE} {x1 : Int32} {h : xh} {Q : Option Int32 → xh → Prop}
    (e1 : (h 1 3) ≤ x1 → Q none (hw h 1 3 (nI 0)))
    (e2 : ¬ (h 1 3) ≤ x1 → MC l E M_DV_settle [.inr 1, .inl (x1), .inl (nI 4)] h (fun r h' => WP l E M_DV_flush 16 [(0, .inr 1), (1, .inl (x1))] (rpush r []) h' Q)) : WP l E M_DV_flush 2 [(0, .inr 1), (1, .inl (x1))] [] h Q := by
  refine wp_iload_n d_DV_flush_2 rfl ?_
  refine wp_aload_n d_DV_flush_3 rfl ?_
  refine wp_getI d_DV_flush_4 fl_DV_21 rfl rfl ?_
  refine wp_ic_ge (tgt := 22) d_DV_flush_7 (by decide) (fun c1 => ?_) (fun c1 => ?_)
  · refine wp_aload_n d_DV_flush_22 rfl ?_
    refine wp_iconst (v := nI 0) d_DV_flush_23 c_iconst_0 ?_
    refine wp_putI d_DV_flush_24 fm_DV_21 rfl rfl ?_
    refine wp_return d_DV_flush_27 rfl ?_
    exact e1 c1
  · refine wp_aload_n d_DV_flush_10 rfl ?_
    refine wp_iload_n d_DV_flush_11 rfl ?_
    refine wp_iconst (v := nI 4) d_DV_flush_12 c_iconst_4 ?_
    refine wp_callV (as := [.inl (x1), .inl (nI 4)]) (rest := []) (Q' := fun r h' => WP l E M_DV_flush 16 [(0, .inr 1), (1, .inl (x1))] (rpush r []) h' Q) d_DV_flush_13 vb_DV_flush_39 ⟨gw_2_176, sw_17⟩ rfl rfl rfl rfl (Nat.le_of_ble_eq_true rfl) rfl (Nat.le_of_ble_eq_true rfl) ?_ (fun r h' z => z)
    exact e2 c1
set_option maxRecDepth 100000 in
set_option maxHeartbeats 4000000 in
theorem k_DV_flush_16 {l : Launch} {E : xE} {x1 : Int32} {h : xh} {Q : Option Int32 → xh → Prop}
    (e1 : WP l E M_DV_flush 2 [(0, .inr 1), (1, .inl (x1 + nI 1))] [] h Q) : WP l E M_DV_flush 16 [(0, .inr 1), (1, .inl (x1))] [] h Q := by
  refine wp_iinc (v := x1 + nI 1) (ls' := [(0, .inr 1), (1, .inl (x1 + nI 1))]) d_DV_flush_16 rfl (c_inc_1 _) (by decide) rfl ?_
  refine wp_goto (tgt := 2) d_DV_flush_19 (by decide) ?_
  exact e1
set_option maxRecDepth 100000 in
set_option maxHeartbeats 4000000 in
theorem k_DV_breakDown_0 {l : Launch} {E : xE} {x1 x2 : Int32} {h : xh} {Q : Option Int32 → xh → Prop}
    (e1 : WP l E M_DV_breakDown 8 [(0, .inr 1), (1, .inl (x1)), (2, .inl (x2)), (3, .inl (nI 0)), (4, .inl ((-1))), (5, .inl (nI 0))] [] h Q) : MC l E M_DV_breakDown [.inr 1, .inl (x1), .inl (x2)] h Q := by
  refine wp_iconst (v := nI 0) d_DV_breakDown_0 c_iconst_0 ?_
  refine wp_istore_n (ls' := [(0, .inr 1), (1, .inl (x1)), (2, .inl (x2)), (3, .inl (nI 0))]) d_DV_breakDown_1 (by decide) rfl ?_
  refine wp_iconst (v := (-1)) d_DV_breakDown_2 c_iconst_m1 ?_
  refine wp_istore (ls' := [(0, .inr 1), (1, .inl (x1)), (2, .inl (x2)), (3, .inl (nI 0)), (4, .inl ((-1)))]) d_DV_breakDown_3 (by decide) rfl ?_
  refine wp_iconst (v := nI 0) d_DV_breakDown_5 c_iconst_0 ?_
  refine wp_istore (ls' := [(0, .inr 1), (1, .inl (x1)), (2, .inl (x2)), (3, .inl (nI 0)), (4, .inl ((-1))), (5, .inl (nI 0))]) d_DV_breakDown_6 (by decide) rfl ?_
  exact e1
set_option maxRecDepth 100000 in
set_option maxHeartbeats 4000000 in
theorem k_DV_breakDown_8 {l : Launch} {E : xE} {x1 x2 x3 x4 x5 : Int32} {h : xh} {Q : Option Int32 → xh → Prop}
    (e1 : (h 1 3) ≤ x5 → x2 < 0 → WP l E M_DV_breakDown 61 [(0, .inr 1), (1, .inl (x1)), (2, .inl (x2)), (3, .inl (x3)), (4, .inl (x4)), (5, .inl (nI 0)), (6, .inl (nI 0))] [] h Q)
    (e2 : (h 1 3) ≤ x5 → ¬ x2 < 0 → (nI 4) ≤ x2 → WP l E M_DV_breakDown 61 [(0, .inr 1), (1, .inl (x1)), (2, .inl (x2)), (3, .inl (x3)), (4, .inl (x4)), (5, .inl (nI 0)), (6, .inl (nI 0))] [] h Q)
    (e3 : (h 1 3) ≤ x5 → ¬ x2 < 0 → ¬ (nI 4) ≤ x2 → WP l E M_DV_breakDown 61 [(0, .inr 1), (1, .inl (x1)), (2, .inl (x2)), (3, .inl (x3)), (4, .inl (x4)), (5, .inl (nI 1)), (6, .inl (nI 0))] [] h Q)
    (e4 : ¬ (h 1 3) ≤ x5 → ((ushr (x1) (x5)) &&& (nI 1)) ≠ (nI 1) → WP l E M_DV_breakDown 8 [(0, .inr 1), (1, .inl (x1)), (2, .inl (x2)), (3, .inl (x3 + nI 1)), (4, .inl (x4)), (5, .inl (x5 + nI 1))] [] h Q)
    (e5 : ¬ (h 1 3) ≤ x5 → ((ushr (x1) (x5)) &&& (nI 1)) = (nI 1) → WP l E M_DV_breakDown 8 [(0, .inr 1), (1, .inl (x1)), (2, .inl (x2)), (3, .inl (x3)), (4, .inl (x5)), (5, .inl (x5 + nI 1))] [] h Q) : WP l E M_DV_breakDown 8 [(0, .inr 1), (1, .inl (x1)), (2, .inl (x2)), (3, .inl (x3)), (4, .inl (x4)), (5, .inl (x5))] [] h Q := by
  refine wp_iload d_DV_breakDown_8 rfl ?_
  refine wp_aload_n d_DV_breakDown_10 rfl ?_
  refine wp_getI d_DV_breakDown_11 fl_DV_21 rfl rfl ?_
  refine wp_ic_ge (tgt := 42) d_DV_breakDown_14 (by decide) (fun c1 => ?_) (fun c1 => ?_)
  · refine wp_iload_n d_DV_breakDown_42 rfl ?_
    refine wp_if_lt (tgt := 55) d_DV_breakDown_43 (by decide) (fun c2 => ?_) (fun c2 => ?_)
    · refine wp_iconst (v := nI 0) d_DV_breakDown_55 c_iconst_0 ?_
      refine wp_istore (ls' := [(0, .inr 1), (1, .inl (x1)), (2, .inl (x2)), (3, .inl (x3)), (4, .inl (x4)), (5, .inl (nI 0))]) d_DV_breakDown_56 (by decide) rfl ?_
      refine wp_iconst (v := nI 0) d_DV_breakDown_58 c_iconst_0 ?_
      refine wp_istore (ls' := [(0, .inr 1), (1, .inl (x1)), (2, .inl (x2)), (3, .inl (x3)), (4, .inl (x4)), (5, .inl (nI 0)), (6, .inl (nI 0))]) d_DV_breakDown_59 (by decide) rfl ?_
      exact e1 c1 c2
    · refine wp_iload_n d_DV_breakDown_46 rfl ?_
      refine wp_iconst (v := nI 4) d_DV_breakDown_47 c_iconst_4 ?_
      refine wp_ic_ge (tgt := 55) d_DV_breakDown_48 (by decide) (fun c3 => ?_) (fun c3 => ?_)
      · refine wp_iconst (v := nI 0) d_DV_breakDown_55 c_iconst_0 ?_
        refine wp_istore (ls' := [(0, .inr 1), (1, .inl (x1)), (2, .inl (x2)), (3, .inl (x3)), (4, .inl (x4)), (5, .inl (nI 0))]) d_DV_breakDown_56 (by decide) rfl ?_
        refine wp_iconst (v := nI 0) d_DV_breakDown_58 c_iconst_0 ?_
        refine wp_istore (ls' := [(0, .inr 1), (1, .inl (x1)), (2, .inl (x2)), (3, .inl (x3)), (4, .inl (x4)), (5, .inl (nI 0)), (6, .inl (nI 0))]) d_DV_breakDown_59 (by decide) rfl ?_
        exact e2 c1 c2 c3
      · refine wp_iconst (v := nI 1) d_DV_breakDown_51 c_iconst_1 ?_
        refine wp_goto (tgt := 56) d_DV_breakDown_52 (by decide) ?_
        refine wp_istore (ls' := [(0, .inr 1), (1, .inl (x1)), (2, .inl (x2)), (3, .inl (x3)), (4, .inl (x4)), (5, .inl (nI 1))]) d_DV_breakDown_56 (by decide) rfl ?_
        refine wp_iconst (v := nI 0) d_DV_breakDown_58 c_iconst_0 ?_
        refine wp_istore (ls' := [(0, .inr 1), (1, .inl (x1)), (2, .inl (x2)), (3, .inl (x3)), (4, .inl (x4)), (5, .inl (nI 1)), (6, .inl (nI 0))]) d_DV_breakDown_59 (by decide) rfl ?_
        exact e3 c1 c2 c3
  · refine wp_iload_n d_DV_breakDown_17 rfl ?_
    refine wp_iload d_DV_breakDown_18 rfl ?_
    refine wp_callS (as := [.inl (x1), .inl (x5)]) (rest := []) (Q' := fun r h' => WP l E M_DV_breakDown 23 [(0, .inr 1), (1, .inl (x1)), (2, .inl (x2)), (3, .inl (x3)), (4, .inl (x4)), (5, .inl (x5))] (rpush r []) h' _) d_DV_breakDown_20 vb_DV_breakDown_43 gw_2_221 rfl (Nat.le_of_ble_eq_true rfl) rfl (Nat.le_of_ble_eq_true rfl) ?_ (fun r h' z => z)
    show WP l E M_DV_isKept 0 [(0, .inl (x1)), (1, .inl (x5))] [] h _
    refine wp_iload_n d_DV_isKept_0 rfl ?_
    refine wp_iload_n d_DV_isKept_1 rfl ?_
    refine wp_iushr d_DV_isKept_2 ?_
    refine wp_iconst (v := nI 1) d_DV_isKept_3 c_iconst_1 ?_
    refine wp_iand d_DV_isKept_4 ?_
    refine wp_iconst (v := nI 1) d_DV_isKept_5 c_iconst_1 ?_
    refine wp_ic_ne (tgt := 13) d_DV_isKept_6 (by decide) (fun c4 => ?_) (fun c4 => ?_)
    · refine wp_iconst (v := nI 0) d_DV_isKept_13 c_iconst_0 ?_
      refine wp_zreturn d_DV_isKept_14 rfl (by decide) ?_
      show WP l E M_DV_breakDown 23 [(0, .inr 1), (1, .inl (x1)), (2, .inl (x2)), (3, .inl (x3)), (4, .inl (x4)), (5, .inl (x5))] [.inl (nI 0)] h _
      refine wp_if_eq (tgt := 33) d_DV_breakDown_23 (by decide) (fun _ => ?_) (fun z => absurd z (by decide +kernel))
      refine wp_iinc (v := x3 + nI 1) (ls' := [(0, .inr 1), (1, .inl (x1)), (2, .inl (x2)), (3, .inl (x3 + nI 1)), (4, .inl (x4)), (5, .inl (x5))]) d_DV_breakDown_33 rfl (c_inc_1 _) (by decide) rfl ?_
      refine wp_iinc (v := x5 + nI 1) (ls' := [(0, .inr 1), (1, .inl (x1)), (2, .inl (x2)), (3, .inl (x3 + nI 1)), (4, .inl (x4)), (5, .inl (x5 + nI 1))]) d_DV_breakDown_36 rfl (c_inc_1 _) (by decide) rfl ?_
      refine wp_goto (tgt := 8) d_DV_breakDown_39 (by decide) ?_
      exact e4 c1 c4
    · refine wp_iconst (v := nI 1) d_DV_isKept_9 c_iconst_1 ?_
      refine wp_goto (tgt := 14) d_DV_isKept_10 (by decide) ?_
      refine wp_zreturn d_DV_isKept_14 rfl (by decide) ?_
      show WP l E M_DV_breakDown 23 [(0, .inr 1), (1, .inl (x1)), (2, .inl (x2)), (3, .inl (x3)), (4, .inl (x4)), (5, .inl (x5))] [.inl (nI 1)] h _
      refine wp_if_eq (tgt := 33) d_DV_breakDown_23 (by decide) (fun z => absurd z (by decide +kernel)) (fun _ => ?_)
      refine wp_iload d_DV_breakDown_26 rfl ?_
      refine wp_istore (ls' := [(0, .inr 1), (1, .inl (x1)), (2, .inl (x2)), (3, .inl (x3)), (4, .inl (x5)), (5, .inl (x5))]) d_DV_breakDown_28 (by decide) rfl ?_
      refine wp_goto (tgt := 36) d_DV_breakDown_30 (by decide) ?_
      refine wp_iinc (v := x5 + nI 1) (ls' := [(0, .inr 1), (1, .inl (x1)), (2, .inl (x2)), (3, .inl (x3)), (4, .inl (x5)), (5, .inl (x5 + nI 1))]) d_DV_breakDown_36 rfl (c_inc_1 _) (by decide) rfl ?_
      refine wp_goto (tgt := 8) d_DV_breakDown_39 (by decide) ?_
      exact e5 c1 c4
set_option maxRecDepth 100000 in
set_option maxHeartbeats 4000000 in
theorem k_DV_breakDown_61 {l : Launch} {E : xE} {x1 x2 x3 x4 x5 x6 : Int32} {h : xh} {Q : Option Int32 → xh → Prop}
    (e1 : x4 < x6 → Q (some (x3)) (hw h 1 3 (nI 0)))
    (e2 : ¬ x4 < x6 → ((ushr (x1) (x6)) &&& (nI 1)) ≠ (nI 1) → WP l E M_DV_breakDown 61 [(0, .inr 1), (1, .inl (x1)), (2, .inl (x2)), (3, .inl (x3)), (4, .inl (x4)), (5, .inl (x5)), (6, .inl (x6 + nI 1))] [] h Q)
    (e3 : ¬ x4 < x6 → ((ushr (x1) (x6)) &&& (nI 1)) = (nI 1) → x5 = 0 → MC l E M_DV_settle [.inr 1, .inl (x6), .inl (nI 4)] h (fun r h' => WP l E M_DV_breakDown 100 [(0, .inr 1), (1, .inl (x1)), (2, .inl (x2)), (3, .inl (x3)), (4, .inl (x4)), (5, .inl (x5)), (6, .inl (x6))] (rpush r []) h' Q))
    (e4 : ¬ x4 < x6 → ((ushr (x1) (x6)) &&& (nI 1)) = (nI 1) → ¬ x5 = 0 → x6 ≠ x4 → MC l E M_DV_settle [.inr 1, .inl (x6), .inl (nI 4)] h (fun r h' => WP l E M_DV_breakDown 100 [(0, .inr 1), (1, .inl (x1)), (2, .inl (x2)), (3, .inl (x3)), (4, .inl (x4)), (5, .inl (x5)), (6, .inl (x6))] (rpush r []) h' Q))
    (e5 : ¬ x4 < x6 → ((ushr (x1) (x6)) &&& (nI 1)) = (nI 1) → ¬ x5 = 0 → x6 = x4 → MC l E M_DV_settle [.inr 1, .inl (x6), .inl (x2)] h (fun r h' => WP l E M_DV_breakDown 100 [(0, .inr 1), (1, .inl (x1)), (2, .inl (x2)), (3, .inl (x3)), (4, .inl (x4)), (5, .inl (x5)), (6, .inl (x6))] (rpush r []) h' Q)) : WP l E M_DV_breakDown 61 [(0, .inr 1), (1, .inl (x1)), (2, .inl (x2)), (3, .inl (x3)), (4, .inl (x4)), (5, .inl (x5)), (6, .inl (x6))] [] h Q := by
  refine wp_iload d_DV_breakDown_61 rfl ?_
  refine wp_iload d_DV_breakDown_63 rfl ?_
  refine wp_ic_gt (tgt := 106) d_DV_breakDown_65 (by decide) (fun c1 => ?_) (fun c1 => ?_)
  · refine wp_aload_n d_DV_breakDown_106 rfl ?_
    refine wp_iconst (v := nI 0) d_DV_breakDown_107 c_iconst_0 ?_
    refine wp_putI d_DV_breakDown_108 fm_DV_21 rfl rfl ?_
    refine wp_iload_n d_DV_breakDown_111 rfl ?_
    refine wp_ireturn d_DV_breakDown_112 rfl ?_
    exact e1 c1
  · refine wp_iload_n d_DV_breakDown_68 rfl ?_
    refine wp_iload d_DV_breakDown_69 rfl ?_
    refine wp_callS (as := [.inl (x1), .inl (x6)]) (rest := []) (Q' := fun r h' => WP l E M_DV_breakDown 74 [(0, .inr 1), (1, .inl (x1)), (2, .inl (x2)), (3, .inl (x3)), (4, .inl (x4)), (5, .inl (x5)), (6, .inl (x6))] (rpush r []) h' _) d_DV_breakDown_71 vb_DV_breakDown_43 gw_2_221 rfl (Nat.le_of_ble_eq_true rfl) rfl (Nat.le_of_ble_eq_true rfl) ?_ (fun r h' z => z)
    show WP l E M_DV_isKept 0 [(0, .inl (x1)), (1, .inl (x6))] [] h _
    refine wp_iload_n d_DV_isKept_0 rfl ?_
    refine wp_iload_n d_DV_isKept_1 rfl ?_
    refine wp_iushr d_DV_isKept_2 ?_
    refine wp_iconst (v := nI 1) d_DV_isKept_3 c_iconst_1 ?_
    refine wp_iand d_DV_isKept_4 ?_
    refine wp_iconst (v := nI 1) d_DV_isKept_5 c_iconst_1 ?_
    refine wp_ic_ne (tgt := 13) d_DV_isKept_6 (by decide) (fun c2 => ?_) (fun c2 => ?_)
    · refine wp_iconst (v := nI 0) d_DV_isKept_13 c_iconst_0 ?_
      refine wp_zreturn d_DV_isKept_14 rfl (by decide) ?_
      show WP l E M_DV_breakDown 74 [(0, .inr 1), (1, .inl (x1)), (2, .inl (x2)), (3, .inl (x3)), (4, .inl (x4)), (5, .inl (x5)), (6, .inl (x6))] [.inl (nI 0)] h _
      refine wp_if_eq (tgt := 100) d_DV_breakDown_74 (by decide) (fun _ => ?_) (fun z => absurd z (by decide +kernel))
      refine wp_iinc (v := x6 + nI 1) (ls' := [(0, .inr 1), (1, .inl (x1)), (2, .inl (x2)), (3, .inl (x3)), (4, .inl (x4)), (5, .inl (x5)), (6, .inl (x6 + nI 1))]) d_DV_breakDown_100 rfl (c_inc_1 _) (by decide) rfl ?_
      refine wp_goto (tgt := 61) d_DV_breakDown_103 (by decide) ?_
      exact e2 c1 c2
    · refine wp_iconst (v := nI 1) d_DV_isKept_9 c_iconst_1 ?_
      refine wp_goto (tgt := 14) d_DV_isKept_10 (by decide) ?_
      refine wp_zreturn d_DV_isKept_14 rfl (by decide) ?_
      show WP l E M_DV_breakDown 74 [(0, .inr 1), (1, .inl (x1)), (2, .inl (x2)), (3, .inl (x3)), (4, .inl (x4)), (5, .inl (x5)), (6, .inl (x6))] [.inl (nI 1)] h _
      refine wp_if_eq (tgt := 100) d_DV_breakDown_74 (by decide) (fun z => absurd z (by decide +kernel)) (fun _ => ?_)
      refine wp_aload_n d_DV_breakDown_77 rfl ?_
      refine wp_iload d_DV_breakDown_78 rfl ?_
      refine wp_iload d_DV_breakDown_80 rfl ?_
      refine wp_if_eq (tgt := 96) d_DV_breakDown_82 (by decide) (fun c3 => ?_) (fun c3 => ?_)
      · refine wp_iconst (v := nI 4) d_DV_breakDown_96 c_iconst_4 ?_
        refine wp_callV (as := [.inl (x6), .inl (nI 4)]) (rest := []) (Q' := fun r h' => WP l E M_DV_breakDown 100 [(0, .inr 1), (1, .inl (x1)), (2, .inl (x2)), (3, .inl (x3)), (4, .inl (x4)), (5, .inl (x5)), (6, .inl (x6))] (rpush r []) h' Q) d_DV_breakDown_97 vb_DV_breakDown_39 ⟨gw_2_176, sw_17⟩ rfl rfl rfl rfl (Nat.le_of_ble_eq_true rfl) rfl (Nat.le_of_ble_eq_true rfl) ?_ (fun r h' z => z)
        exact e3 c1 c2 c3
      · refine wp_iload d_DV_breakDown_85 rfl ?_
        refine wp_iload d_DV_breakDown_87 rfl ?_
        refine wp_ic_ne (tgt := 96) d_DV_breakDown_89 (by decide) (fun c4 => ?_) (fun c4 => ?_)
        · refine wp_iconst (v := nI 4) d_DV_breakDown_96 c_iconst_4 ?_
          refine wp_callV (as := [.inl (x6), .inl (nI 4)]) (rest := []) (Q' := fun r h' => WP l E M_DV_breakDown 100 [(0, .inr 1), (1, .inl (x1)), (2, .inl (x2)), (3, .inl (x3)), (4, .inl (x4)), (5, .inl (x5)), (6, .inl (x6))] (rpush r []) h' Q) d_DV_breakDown_97 vb_DV_breakDown_39 ⟨gw_2_176, sw_17⟩ rfl rfl rfl rfl (Nat.le_of_ble_eq_true rfl) rfl (Nat.le_of_ble_eq_true rfl) ?_ (fun r h' z => z)
          exact e4 c1 c2 c3 c4
        · refine wp_iload_n d_DV_breakDown_92 rfl ?_
          refine wp_goto (tgt := 97) d_DV_breakDown_93 (by decide) ?_
          refine wp_callV (as := [.inl (x6), .inl (x2)]) (rest := []) (Q' := fun r h' => WP l E M_DV_breakDown 100 [(0, .inr 1), (1, .inl (x1)), (2, .inl (x2)), (3, .inl (x3)), (4, .inl (x4)), (5, .inl (x5)), (6, .inl (x6))] (rpush r []) h' Q) d_DV_breakDown_97 vb_DV_breakDown_39 ⟨gw_2_176, sw_17⟩ rfl rfl rfl rfl (Nat.le_of_ble_eq_true rfl) rfl (Nat.le_of_ble_eq_true rfl) ?_ (fun r h' z => z)
          exact e5 c1 c2 c3 c4
set_option maxRecDepth 100000 in
set_option maxHeartbeats 4000000 in
theorem k_DV_breakDown_100 {l : Launch} {E : xE} {x1 x2 x3 x4 x5 x6 : Int32} {h : xh} {Q : Option Int32 → xh → Prop}
    (e1 : WP l E M_DV_breakDown 61 [(0, .inr 1), (1, .inl (x1)), (2, .inl (x2)), (3, .inl (x3)), (4, .inl (x4)), (5, .inl (x5)), (6, .inl (x6 + nI 1))] [] h Q) : WP l E M_DV_breakDown 100 [(0, .inr 1), (1, .inl (x1)), (2, .inl (x2)), (3, .inl (x3)), (4, .inl (x4)), (5, .inl (x5)), (6, .inl (x6))] [] h Q := by
  refine wp_iinc (v := x6 + nI 1) (ls' := [(0, .inr 1), (1, .inl (x1)), (2, .inl (x2)), (3, .inl (x3)), (4, .inl (x4)), (5, .inl (x5)), (6, .inl (x6 + nI 1))]) d_DV_breakDown_100 rfl (c_inc_1 _) (by decide) rfl ?_
  refine wp_goto (tgt := 61) d_DV_breakDown_103 (by decide) ?_
  exact e1
set_option maxRecDepth 100000 in
set_option maxHeartbeats 4000000 in
theorem k_DV_settle_0 {l : Launch} {E : xE} {x1 x2 : Int32} {h : xh} {Q : Option Int32 → xh → Prop}
    (o1 : vp_in (x1) 28)
    (o2 : ¬ ((x1) * (nI 4)) < 0)
    (o3 : ¬ ((h 9 ((x1).toNatClampNeg)) * (nI 4)) < 0)
    (o4 : ¬ x2 < 0)
    (o5 : ((x1) * (nI 4)).toNatClampNeg + (x2).toNatClampNeg ≤ 112)
    (o6 : ((h 9 ((x1).toNatClampNeg)) * (nI 4)).toNatClampNeg + (x2).toNatClampNeg ≤ 164)
    (e1 : Q none (hc h 10 8 ((x1) * (nI 4)) ((h 9 ((x1).toNatClampNeg)) * (nI 4)) (x2))) : MC l E M_DV_settle [.inr 1, .inl (x1), .inl (x2)] h Q := by
  refine wp_aload_n d_DV_settle_0 rfl ?_
  refine wp_getR d_DV_settle_1 fl_DV_18 rfl rfl ?_
  refine wp_iload_n d_DV_settle_4 rfl ?_
  refine wp_iconst (v := nI 4) d_DV_settle_5 c_iconst_4 ?_
  refine wp_imul d_DV_settle_6 ?_
  refine wp_aload_n d_DV_settle_7 rfl ?_
  refine wp_getR d_DV_settle_8 fl_DV_9 rfl rfl ?_
  refine wp_aload_n d_DV_settle_11 rfl ?_
  refine wp_getR d_DV_settle_12 fl_DV_15 rfl rfl ?_
  refine wp_iload_n d_DV_settle_15 rfl ?_
  refine wp_iaload d_DV_settle_16 rfl o1 ?_
  refine wp_iconst (v := nI 4) d_DV_settle_17 c_iconst_4 ?_
  refine wp_imul d_DV_settle_18 ?_
  refine wp_iload_n d_DV_settle_19 rfl ?_
  refine wp_copy d_DV_settle_20 gw_2_178 gw_2_180 gw_2_179 gw_1_10 rfl rfl (Nat.le_of_ble_eq_true rfl) (Nat.le_of_ble_eq_true rfl) o2 o3 o4 o5 o6 ?_
  refine wp_return d_DV_settle_23 rfl ?_
  exact e1
end
