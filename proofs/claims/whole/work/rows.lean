section
-- ===== PART A: goes FIRST, ahead of the names: the tables' words, and 'selects' of the private methods out of them =====
/-- a private method of a class that the tables say can be made, by its rows of tables_1 -/
def lw_okq (q : MethodName × Nat) : Prop := (q.1.cls ≠ "java/lang/invoke/MethodHandle" ∧ q.1.cls ≠ "java/lang/invoke/VarHandle") ∧ Cond.instantiable q.1.cls q.2 ∈ tables_1 ∧ Cond.privateMethod q.1 ∈ tables_1 ∧ Cond.instanceMethod q.1 ∈ tables_1
theorem lw_p0 : lw_okq (⟨"GrooveTurns", "freshTrial", "()LGrooveTurns$Disc;"⟩, 6) := ⟨⟨by decide +kernel, by decide +kernel⟩, List.mem_of_getElem? (i := 11) (by decide +kernel), List.mem_of_getElem? (i := 158) (by decide +kernel), List.mem_of_getElem? (i := 159) (by decide +kernel)⟩
theorem lw_p1 : lw_okq (⟨"GrooveTurns", "adopt", "(I)I"⟩, 6) := ⟨⟨by decide +kernel, by decide +kernel⟩, List.mem_of_getElem? (i := 11) (by decide +kernel), List.mem_of_getElem? (i := 174) (by decide +kernel), List.mem_of_getElem? (i := 175) (by decide +kernel)⟩
theorem lw_p2 : lw_okq (⟨"GrooveTurns$History", "exchange", "(ILGrooveTurns$Disc;)LGrooveTurns$Disc;"⟩, 3) := ⟨⟨by decide +kernel, by decide +kernel⟩, List.mem_of_getElem? (i := 108) (by decide +kernel), List.mem_of_getElem? (i := 182) (by decide +kernel), List.mem_of_getElem? (i := 183) (by decide +kernel)⟩
theorem lw_p3 : lw_okq (⟨"GrooveTurns$Disc", "ticksToTrack", "(I)I"⟩, 9) := ⟨⟨by decide +kernel, by decide +kernel⟩, List.mem_of_getElem? (i := 19) (by decide +kernel), List.mem_of_getElem? (i := 224) (by decide +kernel), List.mem_of_getElem? (i := 225) (by decide +kernel)⟩
theorem lw_p4 : lw_okq (⟨"GrooveTurns$Disc", "hasTime", "(I)Z"⟩, 9) := ⟨⟨by decide +kernel, by decide +kernel⟩, List.mem_of_getElem? (i := 19) (by decide +kernel), List.mem_of_getElem? (i := 234) (by decide +kernel), List.mem_of_getElem? (i := 235) (by decide +kernel)⟩
theorem lw_p5 : lw_okq (⟨"GrooveTurns$Disc", "blurBy", "(II)V"⟩, 9) := ⟨⟨by decide +kernel, by decide +kernel⟩, List.mem_of_getElem? (i := 19) (by decide +kernel), List.mem_of_getElem? (i := 246) (by decide +kernel), List.mem_of_getElem? (i := 247) (by decide +kernel)⟩
theorem lw_p6 : lw_okq (⟨"GrooveTurns$Disc", "isOnTracksInUse", "(I)Z"⟩, 9) := ⟨⟨by decide +kernel, by decide +kernel⟩, List.mem_of_getElem? (i := 19) (by decide +kernel), List.mem_of_getElem? (i := 250) (by decide +kernel), List.mem_of_getElem? (i := 251) (by decide +kernel)⟩
theorem lw_p7 : lw_okq (⟨"GrooveTurns$Disc", "holdsNumber", "(I)Z"⟩, 9) := ⟨⟨by decide +kernel, by decide +kernel⟩, List.mem_of_getElem? (i := 19) (by decide +kernel), List.mem_of_getElem? (i := 255) (by decide +kernel), List.mem_of_getElem? (i := 256) (by decide +kernel)⟩
theorem lw_p8 : lw_okq (⟨"GrooveTurns$Disc", "pass", "(II)V"⟩, 9) := ⟨⟨by decide +kernel, by decide +kernel⟩, List.mem_of_getElem? (i := 19) (by decide +kernel), List.mem_of_getElem? (i := 264) (by decide +kernel), List.mem_of_getElem? (i := 265) (by decide +kernel)⟩
theorem lw_p9 : lw_okq (⟨"GrooveTurns$Requests", "takes", "(I)Z"⟩, 5) := ⟨⟨by decide +kernel, by decide +kernel⟩, List.mem_of_getElem? (i := 86) (by decide +kernel), List.mem_of_getElem? (i := 326) (by decide +kernel), List.mem_of_getElem? (i := 327) (by decide +kernel)⟩
theorem lw_p10 : lw_okq (⟨"GrooveTurns$Requests", "takesKind", "(I)Z"⟩, 5) := ⟨⟨by decide +kernel, by decide +kernel⟩, List.mem_of_getElem? (i := 86) (by decide +kernel), List.mem_of_getElem? (i := 330) (by decide +kernel), List.mem_of_getElem? (i := 331) (by decide +kernel)⟩
theorem lw_p11 : lw_okq (⟨"GrooveTurns$Requests", "takesFirstDigit", "(I[II)Z"⟩, 5) := ⟨⟨by decide +kernel, by decide +kernel⟩, List.mem_of_getElem? (i := 86) (by decide +kernel), List.mem_of_getElem? (i := 335) (by decide +kernel), List.mem_of_getElem? (i := 336) (by decide +kernel)⟩
theorem lw_p12 : lw_okq (⟨"GrooveTurns$Requests", "takesDigit", "(I[II)Z"⟩, 5) := ⟨⟨by decide +kernel, by decide +kernel⟩, List.mem_of_getElem? (i := 86) (by decide +kernel), List.mem_of_getElem? (i := 342) (by decide +kernel), List.mem_of_getElem? (i := 343) (by decide +kernel)⟩
theorem lw_p13 : lw_okq (⟨"GrooveTurns$Requests", "takesEndOfAddress", "(I)Z"⟩, 5) := ⟨⟨by decide +kernel, by decide +kernel⟩, List.mem_of_getElem? (i := 86) (by decide +kernel), List.mem_of_getElem? (i := 347) (by decide +kernel), List.mem_of_getElem? (i := 348) (by decide +kernel)⟩
theorem lw_p14 : lw_okq (⟨"GrooveTurns$Requests", "isWriting", "(I)Z"⟩, 5) := ⟨⟨by decide +kernel, by decide +kernel⟩, List.mem_of_getElem? (i := 86) (by decide +kernel), List.mem_of_getElem? (i := 351) (by decide +kernel), List.mem_of_getElem? (i := 352) (by decide +kernel)⟩
theorem lw_p15 : lw_okq (⟨"GrooveTurns$Requests", "takesMark", "(ICI)Z"⟩, 5) := ⟨⟨by decide +kernel, by decide +kernel⟩, List.mem_of_getElem? (i := 86) (by decide +kernel), List.mem_of_getElem? (i := 355) (by decide +kernel), List.mem_of_getElem? (i := 356) (by decide +kernel)⟩
def lw_privs_1 : List (MethodName × Nat) := [(⟨"GrooveTurns", "freshTrial", "()LGrooveTurns$Disc;"⟩, 6), (⟨"GrooveTurns", "adopt", "(I)I"⟩, 6), (⟨"GrooveTurns$History", "exchange", "(ILGrooveTurns$Disc;)LGrooveTurns$Disc;"⟩, 3), (⟨"GrooveTurns$Disc", "ticksToTrack", "(I)I"⟩, 9), (⟨"GrooveTurns$Disc", "hasTime", "(I)Z"⟩, 9), (⟨"GrooveTurns$Disc", "blurBy", "(II)V"⟩, 9), (⟨"GrooveTurns$Disc", "isOnTracksInUse", "(I)Z"⟩, 9), (⟨"GrooveTurns$Disc", "holdsNumber", "(I)Z"⟩, 9), (⟨"GrooveTurns$Disc", "pass", "(II)V"⟩, 9), (⟨"GrooveTurns$Requests", "takes", "(I)Z"⟩, 5), (⟨"GrooveTurns$Requests", "takesKind", "(I)Z"⟩, 5), (⟨"GrooveTurns$Requests", "takesFirstDigit", "(I[II)Z"⟩, 5), (⟨"GrooveTurns$Requests", "takesDigit", "(I[II)Z"⟩, 5), (⟨"GrooveTurns$Requests", "takesEndOfAddress", "(I)Z"⟩, 5), (⟨"GrooveTurns$Requests", "isWriting", "(I)Z"⟩, 5), (⟨"GrooveTurns$Requests", "takesMark", "(ICI)Z"⟩, 5)]
theorem lw_r1 : ∀ q ∈ lw_privs_1, lw_okq q := List.forall_mem_cons.mpr ⟨lw_p0, List.forall_mem_cons.mpr ⟨lw_p1, List.forall_mem_cons.mpr ⟨lw_p2, List.forall_mem_cons.mpr ⟨lw_p3, List.forall_mem_cons.mpr ⟨lw_p4, List.forall_mem_cons.mpr ⟨lw_p5, List.forall_mem_cons.mpr ⟨lw_p6, List.forall_mem_cons.mpr ⟨lw_p7, List.forall_mem_cons.mpr ⟨lw_p8, List.forall_mem_cons.mpr ⟨lw_p9, List.forall_mem_cons.mpr ⟨lw_p10, List.forall_mem_cons.mpr ⟨lw_p11, List.forall_mem_cons.mpr ⟨lw_p12, List.forall_mem_cons.mpr ⟨lw_p13, List.forall_mem_cons.mpr ⟨lw_p14, List.forall_mem_cons.mpr ⟨lw_p15, fun _ h => absurd h List.not_mem_nil⟩⟩⟩⟩⟩⟩⟩⟩⟩⟩⟩⟩⟩⟩⟩⟩
theorem lw_p16 : lw_okq (⟨"GrooveTurns$Requests", "noteTracks", "(LGrooveTurns$Disc;Z)V"⟩, 5) := ⟨⟨by decide +kernel, by decide +kernel⟩, List.mem_of_getElem? (i := 86) (by decide +kernel), List.mem_of_getElem? (i := 363) (by decide +kernel), List.mem_of_getElem? (i := 364) (by decide +kernel)⟩
theorem lw_p17 : lw_okq (⟨"GrooveTurns$Requests", "doOne", "(LGrooveTurns$Disc;I)I"⟩, 5) := ⟨⟨by decide +kernel, by decide +kernel⟩, List.mem_of_getElem? (i := 86) (by decide +kernel), List.mem_of_getElem? (i := 369) (by decide +kernel), List.mem_of_getElem? (i := 370) (by decide +kernel)⟩
theorem lw_p18 : lw_okq (⟨"GrooveTurnsModel", "keeps", "()V"⟩, 14) := ⟨⟨by decide +kernel, by decide +kernel⟩, List.mem_of_getElem? (i := 492) (by decide +kernel), List.mem_of_getElem? (i := 554) (by decide +kernel), List.mem_of_getElem? (i := 555) (by decide +kernel)⟩
theorem lw_p19 : lw_okq (⟨"GrooveTurnsModel", "ends", "(I)I"⟩, 14) := ⟨⟨by decide +kernel, by decide +kernel⟩, List.mem_of_getElem? (i := 492) (by decide +kernel), List.mem_of_getElem? (i := 558) (by decide +kernel), List.mem_of_getElem? (i := 559) (by decide +kernel)⟩
theorem lw_p20 : lw_okq (⟨"GrooveTurnsModel", "comesBack", "()V"⟩, 14) := ⟨⟨by decide +kernel, by decide +kernel⟩, List.mem_of_getElem? (i := 492) (by decide +kernel), List.mem_of_getElem? (i := 562) (by decide +kernel), List.mem_of_getElem? (i := 563) (by decide +kernel)⟩
theorem lw_p21 : lw_okq (⟨"GrooveTurnsModel", "records", "()V"⟩, 14) := ⟨⟨by decide +kernel, by decide +kernel⟩, List.mem_of_getElem? (i := 492) (by decide +kernel), List.mem_of_getElem? (i := 566) (by decide +kernel), List.mem_of_getElem? (i := 567) (by decide +kernel)⟩
theorem lw_p22 : lw_okq (⟨"GrooveTurnsModel", "doWrite", "(II)I"⟩, 14) := ⟨⟨by decide +kernel, by decide +kernel⟩, List.mem_of_getElem? (i := 492) (by decide +kernel), List.mem_of_getElem? (i := 579) (by decide +kernel), List.mem_of_getElem? (i := 580) (by decide +kernel)⟩
theorem lw_p23 : lw_okq (⟨"GrooveTurnsModel", "sectorToWrite", "(I)I"⟩, 14) := ⟨⟨by decide +kernel, by decide +kernel⟩, List.mem_of_getElem? (i := 492) (by decide +kernel), List.mem_of_getElem? (i := 583) (by decide +kernel), List.mem_of_getElem? (i := 584) (by decide +kernel)⟩
theorem lw_p24 : lw_okq (⟨"GrooveTurnsModel", "sectorOf", "(I)I"⟩, 14) := ⟨⟨by decide +kernel, by decide +kernel⟩, List.mem_of_getElem? (i := 492) (by decide +kernel), List.mem_of_getElem? (i := 587) (by decide +kernel), List.mem_of_getElem? (i := 588) (by decide +kernel)⟩
theorem lw_p25 : lw_okq (⟨"GrooveTurnsModel", "takes", "(I)I"⟩, 14) := ⟨⟨by decide +kernel, by decide +kernel⟩, List.mem_of_getElem? (i := 492) (by decide +kernel), List.mem_of_getElem? (i := 591) (by decide +kernel), List.mem_of_getElem? (i := 592) (by decide +kernel)⟩
theorem lw_p26 : lw_okq (⟨"GrooveTurnsModel", "goes", "(I)V"⟩, 14) := ⟨⟨by decide +kernel, by decide +kernel⟩, List.mem_of_getElem? (i := 492) (by decide +kernel), List.mem_of_getElem? (i := 596) (by decide +kernel), List.mem_of_getElem? (i := 597) (by decide +kernel)⟩
theorem lw_p27 : lw_okq (⟨"GrooveTurnsModel", "puts", "(II)V"⟩, 14) := ⟨⟨by decide +kernel, by decide +kernel⟩, List.mem_of_getElem? (i := 492) (by decide +kernel), List.mem_of_getElem? (i := 600) (by decide +kernel), List.mem_of_getElem? (i := 601) (by decide +kernel)⟩
theorem lw_p28 : lw_okq (⟨"GrooveTurnsModel", "heats", "(II)V"⟩, 14) := ⟨⟨by decide +kernel, by decide +kernel⟩, List.mem_of_getElem? (i := 492) (by decide +kernel), List.mem_of_getElem? (i := 604) (by decide +kernel), List.mem_of_getElem? (i := 605) (by decide +kernel)⟩
theorem lw_p29 : lw_okq (⟨"GrooveTurnsModel", "doRead", "(I)I"⟩, 14) := ⟨⟨by decide +kernel, by decide +kernel⟩, List.mem_of_getElem? (i := 492) (by decide +kernel), List.mem_of_getElem? (i := 612) (by decide +kernel), List.mem_of_getElem? (i := 613) (by decide +kernel)⟩
theorem lw_p30 : lw_okq (⟨"GrooveTurnsModel", "canBeRead", "(I)Z"⟩, 14) := ⟨⟨by decide +kernel, by decide +kernel⟩, List.mem_of_getElem? (i := 492) (by decide +kernel), List.mem_of_getElem? (i := 616) (by decide +kernel), List.mem_of_getElem? (i := 617) (by decide +kernel)⟩
theorem lw_p31 : lw_okq (⟨"GrooveTurnsModel", "holds", "(I)Z"⟩, 14) := ⟨⟨by decide +kernel, by decide +kernel⟩, List.mem_of_getElem? (i := 492) (by decide +kernel), List.mem_of_getElem? (i := 620) (by decide +kernel), List.mem_of_getElem? (i := 621) (by decide +kernel)⟩
def lw_privs_2 : List (MethodName × Nat) := [(⟨"GrooveTurns$Requests", "noteTracks", "(LGrooveTurns$Disc;Z)V"⟩, 5), (⟨"GrooveTurns$Requests", "doOne", "(LGrooveTurns$Disc;I)I"⟩, 5), (⟨"GrooveTurnsModel", "keeps", "()V"⟩, 14), (⟨"GrooveTurnsModel", "ends", "(I)I"⟩, 14), (⟨"GrooveTurnsModel", "comesBack", "()V"⟩, 14), (⟨"GrooveTurnsModel", "records", "()V"⟩, 14), (⟨"GrooveTurnsModel", "doWrite", "(II)I"⟩, 14), (⟨"GrooveTurnsModel", "sectorToWrite", "(I)I"⟩, 14), (⟨"GrooveTurnsModel", "sectorOf", "(I)I"⟩, 14), (⟨"GrooveTurnsModel", "takes", "(I)I"⟩, 14), (⟨"GrooveTurnsModel", "goes", "(I)V"⟩, 14), (⟨"GrooveTurnsModel", "puts", "(II)V"⟩, 14), (⟨"GrooveTurnsModel", "heats", "(II)V"⟩, 14), (⟨"GrooveTurnsModel", "doRead", "(I)I"⟩, 14), (⟨"GrooveTurnsModel", "canBeRead", "(I)Z"⟩, 14), (⟨"GrooveTurnsModel", "holds", "(I)Z"⟩, 14)]
theorem lw_r2 : ∀ q ∈ lw_privs_2, lw_okq q := List.forall_mem_cons.mpr ⟨lw_p16, List.forall_mem_cons.mpr ⟨lw_p17, List.forall_mem_cons.mpr ⟨lw_p18, List.forall_mem_cons.mpr ⟨lw_p19, List.forall_mem_cons.mpr ⟨lw_p20, List.forall_mem_cons.mpr ⟨lw_p21, List.forall_mem_cons.mpr ⟨lw_p22, List.forall_mem_cons.mpr ⟨lw_p23, List.forall_mem_cons.mpr ⟨lw_p24, List.forall_mem_cons.mpr ⟨lw_p25, List.forall_mem_cons.mpr ⟨lw_p26, List.forall_mem_cons.mpr ⟨lw_p27, List.forall_mem_cons.mpr ⟨lw_p28, List.forall_mem_cons.mpr ⟨lw_p29, List.forall_mem_cons.mpr ⟨lw_p30, List.forall_mem_cons.mpr ⟨lw_p31, fun _ h => absurd h List.not_mem_nil⟩⟩⟩⟩⟩⟩⟩⟩⟩⟩⟩⟩⟩⟩⟩⟩
theorem lw_p32 : lw_okq (⟨"GrooveTurnsModel", "doRefresh", "(I)I"⟩, 14) := ⟨⟨by decide +kernel, by decide +kernel⟩, List.mem_of_getElem? (i := 492) (by decide +kernel), List.mem_of_getElem? (i := 628) (by decide +kernel), List.mem_of_getElem? (i := 629) (by decide +kernel)⟩
theorem lw_p33 : lw_okq (⟨"GrooveTurnsModel", "addresses", "(IZ)I"⟩, 14) := ⟨⟨by decide +kernel, by decide +kernel⟩, List.mem_of_getElem? (i := 492) (by decide +kernel), List.mem_of_getElem? (i := 650) (by decide +kernel), List.mem_of_getElem? (i := 651) (by decide +kernel)⟩
theorem lw_p34 : lw_okq (⟨"GrooveTurnsModel", "sumOn", "(II)I"⟩, 14) := ⟨⟨by decide +kernel, by decide +kernel⟩, List.mem_of_getElem? (i := 492) (by decide +kernel), List.mem_of_getElem? (i := 654) (by decide +kernel), List.mem_of_getElem? (i := 655) (by decide +kernel)⟩
theorem lw_p35 : lw_okq (⟨"GrooveTurnsModel", "greatestBlur", "()I"⟩, 14) := ⟨⟨by decide +kernel, by decide +kernel⟩, List.mem_of_getElem? (i := 492) (by decide +kernel), List.mem_of_getElem? (i := 662) (by decide +kernel), List.mem_of_getElem? (i := 663) (by decide +kernel)⟩
theorem lw_p36 : lw_okq (⟨"GrooveTurnsModel", "readsRequest", "()Z"⟩, 14) := ⟨⟨by decide +kernel, by decide +kernel⟩, List.mem_of_getElem? (i := 492) (by decide +kernel), List.mem_of_getElem? (i := 679) (by decide +kernel), List.mem_of_getElem? (i := 680) (by decide +kernel)⟩
theorem lw_p37 : lw_okq (⟨"GrooveTurnsModel", "isHere", "(II)Z"⟩, 14) := ⟨⟨by decide +kernel, by decide +kernel⟩, List.mem_of_getElem? (i := 492) (by decide +kernel), List.mem_of_getElem? (i := 683) (by decide +kernel), List.mem_of_getElem? (i := 684) (by decide +kernel)⟩
theorem lw_p38 : lw_okq (⟨"GrooveTurnsModel", "takesOne", "(I)Z"⟩, 14) := ⟨⟨by decide +kernel, by decide +kernel⟩, List.mem_of_getElem? (i := 492) (by decide +kernel), List.mem_of_getElem? (i := 687) (by decide +kernel), List.mem_of_getElem? (i := 688) (by decide +kernel)⟩
theorem lw_p39 : lw_okq (⟨"GrooveTurnsModel", "readsNumber", "(I)Z"⟩, 14) := ⟨⟨by decide +kernel, by decide +kernel⟩, List.mem_of_getElem? (i := 492) (by decide +kernel), List.mem_of_getElem? (i := 691) (by decide +kernel), List.mem_of_getElem? (i := 692) (by decide +kernel)⟩
theorem lw_p40 : lw_okq (⟨"GrooveTurnsModel", "runs", "(Z)I"⟩, 14) := ⟨⟨by decide +kernel, by decide +kernel⟩, List.mem_of_getElem? (i := 492) (by decide +kernel), List.mem_of_getElem? (i := 695) (by decide +kernel), List.mem_of_getElem? (i := 696) (by decide +kernel)⟩
theorem lw_p41 : lw_okq (⟨"GrooveTurnsModel", "isDone", "(I)Z"⟩, 14) := ⟨⟨by decide +kernel, by decide +kernel⟩, List.mem_of_getElem? (i := 492) (by decide +kernel), List.mem_of_getElem? (i := 699) (by decide +kernel), List.mem_of_getElem? (i := 700) (by decide +kernel)⟩
def lw_privs_3 : List (MethodName × Nat) := [(⟨"GrooveTurnsModel", "doRefresh", "(I)I"⟩, 14), (⟨"GrooveTurnsModel", "addresses", "(IZ)I"⟩, 14), (⟨"GrooveTurnsModel", "sumOn", "(II)I"⟩, 14), (⟨"GrooveTurnsModel", "greatestBlur", "()I"⟩, 14), (⟨"GrooveTurnsModel", "readsRequest", "()Z"⟩, 14), (⟨"GrooveTurnsModel", "isHere", "(II)Z"⟩, 14), (⟨"GrooveTurnsModel", "takesOne", "(I)Z"⟩, 14), (⟨"GrooveTurnsModel", "readsNumber", "(I)Z"⟩, 14), (⟨"GrooveTurnsModel", "runs", "(Z)I"⟩, 14), (⟨"GrooveTurnsModel", "isDone", "(I)Z"⟩, 14)]
theorem lw_r3 : ∀ q ∈ lw_privs_3, lw_okq q := List.forall_mem_cons.mpr ⟨lw_p32, List.forall_mem_cons.mpr ⟨lw_p33, List.forall_mem_cons.mpr ⟨lw_p34, List.forall_mem_cons.mpr ⟨lw_p35, List.forall_mem_cons.mpr ⟨lw_p36, List.forall_mem_cons.mpr ⟨lw_p37, List.forall_mem_cons.mpr ⟨lw_p38, List.forall_mem_cons.mpr ⟨lw_p39, List.forall_mem_cons.mpr ⟨lw_p40, List.forall_mem_cons.mpr ⟨lw_p41, fun _ h => absurd h List.not_mem_nil⟩⟩⟩⟩⟩⟩⟩⟩⟩⟩
def lw_privs : List (MethodName × Nat) := lw_privs_1 ++ (lw_privs_2 ++ (lw_privs_3))
def lw_tbl : List Cond := k2_sels lw_privs ++ tables_1
theorem lw_privs_ok : ∀ q ∈ lw_privs, lw_okq q := by
  show ∀ q ∈ lw_privs_1 ++ (lw_privs_2 ++ (lw_privs_3)), lw_okq q
  exact List.forall_mem_append.mpr ⟨lw_r1, List.forall_mem_append.mpr ⟨lw_r2, lw_r3⟩⟩
-- ===== end of PART A; then your names; then what follows =====
end
section
/-! ===== BEGIN words of one list among another's, by their places ===== -/
theorem goodIn_r {big : List Cond} (ws : List Cond) (ps : List Nat) (hp : ws = ps.filterMap (fun i => big[i]?)) (h : ws.all goodWord = true) : GoodIn big ws := by
  intro w hw
  have h1 := List.all_eq_true.mp h w hw
  rw [hp] at hw
  obtain ⟨i, -, hi⟩ := List.mem_filterMap.mp hw
  have hm : w ∈ big := by first | exact List.mem_of_getElem? hi | exact List.getElem?_mem hi
  exact ⟨hm, good_of_word h1⟩
theorem goodIn_app {big a b : List Cond} (ha : GoodIn big a) (hb : GoodIn big b) : GoodIn big (a ++ b) := fun w h => (List.mem_append.mp h).elim (ha w) (hb w)
theorem goodIn_ca {big a b : List Cond} {c : Cond} (ha : GoodIn big (c :: a)) (hb : GoodIn big b) : GoodIn big (c :: (a ++ b)) := fun w h => (List.mem_cons.mp h).elim (fun e => ha w (List.mem_cons.mpr (Or.inl e))) (fun h => (List.mem_append.mp h).elim (fun h => ha w (List.mem_cons.mpr (Or.inr h))) (hb w))
theorem goodIn_sub {big ws : List Cond} (hm : ∀ w ∈ ws, w ∈ big) (h : ws.all goodWord = true) : GoodIn big ws := fun w hw => ⟨hm w hw, good_of_word (List.all_eq_true.mp h w hw)⟩
/-! ===== END ===== -/

/-! ===== BEGIN printed: names, fields, word lists, decode rows ===== -/
def RX0 : String := "GrooveTurns$Disc"
def TX0 : u_T := fun k => match k with
  | 0 => ("GrooveTurns$Disc", "settings", "[I", true)
  | 1 => ("GrooveTurns$Disc", "numbers", "[I", true)
  | 2 => ("GrooveTurns$Disc", "blurs", "[I", true)
  | 3 => ("GrooveTurns$Disc", "writings", "[I", true)
  | 4 => ("GrooveTurns$Disc", "sectors", "[I", true)
  | 5 => ("GrooveTurns$Disc", "sparesTaken", "I", false)
  | 6 => ("GrooveTurns$Disc", "reads", "I", false)
  | 7 => ("GrooveTurns$Disc", "ticks", "I", false)
  | _ => ("GrooveTurns$Disc", "head", "I", false)
def tyX0 : Nat → FieldType := fun k => match k with
  | 0 => .array .int
  | 1 => .array .int
  | 2 => .array .int
  | 3 => .array .int
  | 4 => .array .int
  | 5 => .int
  | 6 => .int
  | 7 => .int
  | _ => .int
abbrev wsX00 : List Cond := u_ws RX0 TX0 9
theorem nmX0 : ∀ a, a < 9 → ∀ b, b < 9 → a ≠ b → (TX0 a).2.1 ≠ (TX0 b).2.1 := by decide +kernel
theorem tyX0_ok : ∀ k, k < 9 → parseFieldDescriptor (TX0 k).2.2.1 = some (tyX0 k) := by decide +kernel
abbrev cX0_init : ByteArray := prog_2_method_1_code
def yX0_init : MethodName := ⟨RX0, "<init>", "()V"⟩
abbrev cX0_becomeLike : ByteArray := prog_2_method_2_code
def yX0_becomeLike : MethodName := ⟨RX0, "becomeLike", "(LGrooveTurns$Disc;)V"⟩
abbrev cX0_exchangeSetting : ByteArray := prog_2_method_3_code
def yX0_exchangeSetting : MethodName := ⟨RX0, "exchangeSetting", "(II)I"⟩
abbrev cX0_writeTo : ByteArray := prog_2_method_4_code
def yX0_writeTo : MethodName := ⟨RX0, "writeTo", "(II)I"⟩
abbrev cX0_readFrom : ByteArray := prog_2_method_5_code
def yX0_readFrom : MethodName := ⟨RX0, "readFrom", "(I)I"⟩
abbrev cX0_moveHead : ByteArray := prog_2_method_6_code
def yX0_moveHead : MethodName := ⟨RX0, "moveHead", "(I)I"⟩
abbrev cX0_waitFor : ByteArray := prog_2_method_7_code
def yX0_waitFor : MethodName := ⟨RX0, "waitFor", "(I)I"⟩
abbrev cX0_fill : ByteArray := prog_2_method_8_code
def yX0_fill : MethodName := ⟨RX0, "fill", "(III)V"⟩
abbrev cX0_blurBy : ByteArray := prog_2_method_9_code
def yX0_blurBy : MethodName := ⟨RX0, "blurBy", "(II)V"⟩
abbrev cX0_pass : ByteArray := prog_2_method_10_code
def yX0_pass : MethodName := ⟨RX0, "pass", "(II)V"⟩
abbrev cX0_isOnTracksInUse : ByteArray := prog_2_method_11_code
def yX0_isOnTracksInUse : MethodName := ⟨RX0, "isOnTracksInUse", "(I)Z"⟩
abbrev cX0_sectorFor : ByteArray := prog_2_method_12_code
def yX0_sectorFor : MethodName := ⟨RX0, "sectorFor", "(I)I"⟩
abbrev cX0_sectorToWrite : ByteArray := prog_2_method_13_code
def yX0_sectorToWrite : MethodName := ⟨RX0, "sectorToWrite", "(I)I"⟩
abbrev cX0_sparesLeft : ByteArray := prog_2_method_14_code
def yX0_sparesLeft : MethodName := ⟨RX0, "sparesLeft", "()I"⟩
abbrev cX0_numberIn : ByteArray := prog_2_method_15_code
def yX0_numberIn : MethodName := ⟨RX0, "numberIn", "(I)I"⟩
abbrev cX0_blurOf : ByteArray := prog_2_method_16_code
def yX0_blurOf : MethodName := ⟨RX0, "blurOf", "(I)I"⟩
abbrev cX0_writingsOf : ByteArray := prog_2_method_17_code
def yX0_writingsOf : MethodName := ⟨RX0, "writingsOf", "(I)I"⟩
abbrev cX0_holdsNumber : ByteArray := prog_2_method_18_code
def yX0_holdsNumber : MethodName := ⟨RX0, "holdsNumber", "(I)Z"⟩
abbrev cX0_isReadable : ByteArray := prog_2_method_19_code
def yX0_isReadable : MethodName := ⟨RX0, "isReadable", "(I)Z"⟩
abbrev cX0_settingOf : ByteArray := prog_2_method_20_code
def yX0_settingOf : MethodName := ⟨RX0, "settingOf", "(I)I"⟩
abbrev cX0_ticksTo : ByteArray := prog_2_method_21_code
def yX0_ticksTo : MethodName := ⟨RX0, "ticksTo", "(I)I"⟩
abbrev cX0_ticksToTrack : ByteArray := prog_2_method_22_code
def yX0_ticksToTrack : MethodName := ⟨RX0, "ticksToTrack", "(I)I"⟩
abbrev cX0_hasTime : ByteArray := prog_2_method_23_code
def yX0_hasTime : MethodName := ⟨RX0, "hasTime", "(I)Z"⟩
abbrev cX0_sectorUnderHead : ByteArray := prog_2_method_24_code
def yX0_sectorUnderHead : MethodName := ⟨RX0, "sectorUnderHead", "()I"⟩
abbrev cX0_filledOn : ByteArray := prog_2_method_25_code
def yX0_filledOn : MethodName := ⟨RX0, "filledOn", "(II)I"⟩
abbrev cX0_unreadableOn : ByteArray := prog_2_method_26_code
def yX0_unreadableOn : MethodName := ⟨RX0, "unreadableOn", "(II)I"⟩
abbrev cX0_isWithin : ByteArray := prog_2_method_27_code
def yX0_isWithin : MethodName := ⟨RX0, "isWithin", "(III)Z"⟩
abbrev cX0_blurOnTrack : ByteArray := prog_2_method_28_code
def yX0_blurOnTrack : MethodName := ⟨RX0, "blurOnTrack", "(I)I"⟩
abbrev cX0_writingsOnTrack : ByteArray := prog_2_method_29_code
def yX0_writingsOnTrack : MethodName := ⟨RX0, "writingsOnTrack", "(I)I"⟩
abbrev cX0_writingsOnTracks : ByteArray := prog_2_method_30_code
def yX0_writingsOnTracks : MethodName := ⟨RX0, "writingsOnTracks", "(II)I"⟩
abbrev cX0_sumOnTrack : ByteArray := prog_2_method_31_code
def yX0_sumOnTrack : MethodName := ⟨RX0, "sumOnTrack", "([II)I"⟩
abbrev cX0_greatestBlur : ByteArray := prog_2_method_32_code
def yX0_greatestBlur : MethodName := ⟨RX0, "greatestBlur", "()I"⟩
def RX1 : String := "GrooveTurns$History"
def TX1 : u_T := fun k => match k with
  | 0 => ("GrooveTurns$History", "ring", "[LGrooveTurns$Disc;", true)
  | 1 => ("GrooveTurns$History", "oldest", "I", false)
  | _ => ("GrooveTurns$History", "size", "I", false)
def tyX1 : Nat → FieldType := fun k => match k with
  | 0 => .array (.object "GrooveTurns$Disc")
  | 1 => .int
  | _ => .int
abbrev wsX10 : List Cond := u_ws RX1 TX1 3
theorem nmX1 : ∀ a, a < 3 → ∀ b, b < 3 → a ≠ b → (TX1 a).2.1 ≠ (TX1 b).2.1 := by decide +kernel
theorem tyX1_ok : ∀ k, k < 3 → parseFieldDescriptor (TX1 k).2.2.1 = some (tyX1 k) := by decide +kernel
abbrev cX1_init : ByteArray := prog_3_method_1_code
def yX1_init : MethodName := ⟨RX1, "<init>", "()V"⟩
abbrev cX1_keep : ByteArray := prog_3_method_2_code
def yX1_keep : MethodName := ⟨RX1, "keep", "(LGrooveTurns$Disc;)LGrooveTurns$Disc;"⟩
abbrev cX1_takeBack : ByteArray := prog_3_method_3_code
def yX1_takeBack : MethodName := ⟨RX1, "takeBack", "(LGrooveTurns$Disc;)LGrooveTurns$Disc;"⟩
abbrev cX1_exchange : ByteArray := prog_3_method_4_code
def yX1_exchange : MethodName := ⟨RX1, "exchange", "(ILGrooveTurns$Disc;)LGrooveTurns$Disc;"⟩
def RX2 : String := "GrooveTurns$Pad"
def TX2 : u_T := fun k => match k with
  | 0 => ("GrooveTurns$Pad", "signs", "[I", true)
  | _ => ("GrooveTurns$Pad", "length", "I", false)
def tyX2 : Nat → FieldType := fun k => match k with
  | 0 => .array .int
  | _ => .int
abbrev wsX20 : List Cond := u_ws RX2 TX2 2
theorem nmX2 : ∀ a, a < 2 → ∀ b, b < 2 → a ≠ b → (TX2 a).2.1 ≠ (TX2 b).2.1 := by decide +kernel
theorem tyX2_ok : ∀ k, k < 2 → parseFieldDescriptor (TX2 k).2.2.1 = some (tyX2 k) := by decide +kernel
abbrev cX2_init : ByteArray := prog_4_method_1_code
def yX2_init : MethodName := ⟨RX2, "<init>", "()V"⟩
abbrev cX2_append : ByteArray := prog_4_method_2_code
def yX2_append : MethodName := ⟨RX2, "append", "(JI)V"⟩
abbrev cX2_clear : ByteArray := prog_4_method_3_code
def yX2_clear : MethodName := ⟨RX2, "clear", "()V"⟩
abbrev cX2_signAt : ByteArray := prog_4_method_4_code
def yX2_signAt : MethodName := ⟨RX2, "signAt", "(I)I"⟩
def RX3 : String := "GrooveTurns$Requests"
def TX3 : u_T := fun k => match k with
  | 0 => ("GrooveTurns$Requests", "addresses", "[I", true)
  | 1 => ("GrooveTurns$Requests", "numbers", "[I", true)
  | 2 => ("GrooveTurns$Requests", "tracks", "[I", true)
  | 3 => ("GrooveTurns$Requests", "size", "I", false)
  | _ => ("GrooveTurns$Requests", "place", "I", false)
def tyX3 : Nat → FieldType := fun k => match k with
  | 0 => .array .int
  | 1 => .array .int
  | 2 => .array .int
  | 3 => .int
  | _ => .int
abbrev wsX30 : List Cond := u_ws RX3 TX3 5
theorem nmX3 : ∀ a, a < 5 → ∀ b, b < 5 → a ≠ b → (TX3 a).2.1 ≠ (TX3 b).2.1 := by decide +kernel
theorem tyX3_ok : ∀ k, k < 5 → parseFieldDescriptor (TX3 k).2.2.1 = some (tyX3 k) := by decide +kernel
abbrev cX3_init : ByteArray := prog_5_method_1_code
def yX3_init : MethodName := ⟨RX3, "<init>", "()V"⟩
abbrev cX3_parse : ByteArray := prog_5_method_2_code
def yX3_parse : MethodName := ⟨RX3, "parse", "(LGrooveTurns$Pad;)I"⟩
abbrev cX3_takes : ByteArray := prog_5_method_3_code
def yX3_takes : MethodName := ⟨RX3, "takes", "(I)Z"⟩
abbrev cX3_takesKind : ByteArray := prog_5_method_4_code
def yX3_takesKind : MethodName := ⟨RX3, "takesKind", "(I)Z"⟩
abbrev cX3_takesFirstDigit : ByteArray := prog_5_method_5_code
def yX3_takesFirstDigit : MethodName := ⟨RX3, "takesFirstDigit", "(I[II)Z"⟩
abbrev cX3_takesDigit : ByteArray := prog_5_method_6_code
def yX3_takesDigit : MethodName := ⟨RX3, "takesDigit", "(I[II)Z"⟩
abbrev cX3_takesEndOfAddress : ByteArray := prog_5_method_7_code
def yX3_takesEndOfAddress : MethodName := ⟨RX3, "takesEndOfAddress", "(I)Z"⟩
abbrev cX3_takesMark : ByteArray := prog_5_method_8_code
def yX3_takesMark : MethodName := ⟨RX3, "takesMark", "(ICI)Z"⟩
abbrev cX3_isDigit : ByteArray := prog_5_method_9_code
def yX3_isDigit : MethodName := ⟨RX3, "isDigit", "(I)Z"⟩
abbrev cX3_isWriting : ByteArray := prog_5_method_10_code
def yX3_isWriting : MethodName := ⟨RX3, "isWriting", "(I)Z"⟩
abbrev cX3_doOn : ByteArray := prog_5_method_11_code
def yX3_doOn : MethodName := ⟨RX3, "doOn", "(LGrooveTurns$Disc;Z)I"⟩
abbrev cX3_noteTracks : ByteArray := prog_5_method_12_code
def yX3_noteTracks : MethodName := ⟨RX3, "noteTracks", "(LGrooveTurns$Disc;Z)V"⟩
abbrev cX3_doOne : ByteArray := prog_5_method_13_code
def yX3_doOne : MethodName := ⟨RX3, "doOne", "(LGrooveTurns$Disc;I)I"⟩
def RX4 : String := "GrooveTurns"
def TX4 : u_T := fun k => match k with
  | 0 => ("GrooveTurns", "disc", "LGrooveTurns$Disc;", false)
  | 1 => ("GrooveTurns", "trial", "LGrooveTurns$Disc;", false)
  | 2 => ("GrooveTurns", "pad", "LGrooveTurns$Pad;", true)
  | 3 => ("GrooveTurns", "requests", "LGrooveTurns$Requests;", true)
  | 4 => ("GrooveTurns", "history", "LGrooveTurns$History;", true)
  | _ => ("GrooveTurns", "slots", "[LGrooveTurns$Disc;", true)
def tyX4 : Nat → FieldType := fun k => match k with
  | 0 => .object "GrooveTurns$Disc"
  | 1 => .object "GrooveTurns$Disc"
  | 2 => .object "GrooveTurns$Pad"
  | 3 => .object "GrooveTurns$Requests"
  | 4 => .object "GrooveTurns$History"
  | _ => .array (.object "GrooveTurns$Disc")
abbrev wsX40 : List Cond := u_ws RX4 TX4 6
theorem nmX4 : ∀ a, a < 6 → ∀ b, b < 6 → a ≠ b → (TX4 a).2.1 ≠ (TX4 b).2.1 := by decide +kernel
theorem tyX4_ok : ∀ k, k < 6 → parseFieldDescriptor (TX4 k).2.2.1 = some (tyX4 k) := by decide +kernel
abbrev cX4_init : ByteArray := prog_1_method_1_code
def yX4_init : MethodName := ⟨RX4, "<init>", "()V"⟩
abbrev cX4_set : ByteArray := prog_1_method_2_code
def yX4_set : MethodName := ⟨RX4, "set", "(II)I"⟩
abbrev cX4_write : ByteArray := prog_1_method_3_code
def yX4_write : MethodName := ⟨RX4, "write", "(II)I"⟩
abbrev cX4_read : ByteArray := prog_1_method_4_code
def yX4_read : MethodName := ⟨RX4, "read", "(I)I"⟩
abbrev cX4_refresh : ByteArray := prog_1_method_5_code
def yX4_refresh : MethodName := ⟨RX4, "refresh", "(I)I"⟩
abbrev cX4_seek : ByteArray := prog_1_method_6_code
def yX4_seek : MethodName := ⟨RX4, "seek", "(I)I"⟩
abbrev cX4_idle : ByteArray := prog_1_method_7_code
def yX4_idle : MethodName := ⟨RX4, "idle", "(I)I"⟩
abbrev cX4_run : ByteArray := prog_1_method_8_code
def yX4_run : MethodName := ⟨RX4, "run", "(Z)I"⟩
abbrev cX4_sector : ByteArray := prog_1_method_9_code
def yX4_sector : MethodName := ⟨RX4, "sector", "(II)I"⟩
abbrev cX4_track : ByteArray := prog_1_method_10_code
def yX4_track : MethodName := ⟨RX4, "track", "(II)I"⟩
abbrev cX4_count : ByteArray := prog_1_method_11_code
def yX4_count : MethodName := ⟨RX4, "count", "(I)I"⟩
abbrev cX4_ticksFor : ByteArray := prog_1_method_12_code
def yX4_ticksFor : MethodName := ⟨RX4, "ticksFor", "(IZ)I"⟩
abbrev cX4_ifRun : ByteArray := prog_1_method_13_code
def yX4_ifRun : MethodName := ⟨RX4, "ifRun", "(Z)I"⟩
abbrev cX4_untilLost : ByteArray := prog_1_method_14_code
def yX4_untilLost : MethodName := ⟨RX4, "untilLost", "(II)I"⟩
abbrev cX4_worst : ByteArray := prog_1_method_15_code
def yX4_worst : MethodName := ⟨RX4, "worst", "()I"⟩
abbrev cX4_put : ByteArray := prog_1_method_16_code
def yX4_put : MethodName := ⟨RX4, "put", "(J)I"⟩
abbrev cX4_wipe : ByteArray := prog_1_method_17_code
def yX4_wipe : MethodName := ⟨RX4, "wipe", "()I"⟩
abbrev cX4_fault : ByteArray := prog_1_method_18_code
def yX4_fault : MethodName := ⟨RX4, "fault", "()I"⟩
abbrev cX4_undo : ByteArray := prog_1_method_19_code
def yX4_undo : MethodName := ⟨RX4, "undo", "()I"⟩
abbrev cX4_save : ByteArray := prog_1_method_20_code
def yX4_save : MethodName := ⟨RX4, "save", "(I)I"⟩
abbrev cX4_restore : ByteArray := prog_1_method_21_code
def yX4_restore : MethodName := ⟨RX4, "restore", "(I)I"⟩
abbrev cX4_freshTrial : ByteArray := prog_1_method_22_code
def yX4_freshTrial : MethodName := ⟨RX4, "freshTrial", "()LGrooveTurns$Disc;"⟩
abbrev cX4_adopt : ByteArray := prog_1_method_23_code
def yX4_adopt : MethodName := ⟨RX4, "adopt", "(I)I"⟩
abbrev cX4_isAddress : ByteArray := prog_1_method_24_code
def yX4_isAddress : MethodName := ⟨RX4, "isAddress", "(I)Z"⟩
abbrev cX4_isTrack : ByteArray := prog_1_method_25_code
def yX4_isTrack : MethodName := ⟨RX4, "isTrack", "(I)Z"⟩
abbrev cX4_isSpare : ByteArray := prog_1_method_26_code
def yX4_isSpare : MethodName := ⟨RX4, "isSpare", "(I)Z"⟩
abbrev cX4_trackOf : ByteArray := prog_1_method_27_code
def yX4_trackOf : MethodName := ⟨RX4, "trackOf", "(I)I"⟩
abbrev cX4_signsIn : ByteArray := prog_1_method_28_code
def yX4_signsIn : MethodName := ⟨RX4, "signsIn", "(J)I"⟩
abbrev cX4_at : ByteArray := prog_1_method_29_code
def yX4_at : MethodName := ⟨RX4, "at", "([II)I"⟩
abbrev cX4_lay : ByteArray := prog_1_method_30_code
def yX4_lay : MethodName := ⟨RX4, "lay", "([III)V"⟩
abbrev cX4_copyRow : ByteArray := prog_1_method_31_code
def yX4_copyRow : MethodName := ⟨RX4, "copyRow", "([I[I)V"⟩
def RX5 : String := "GrooveTurnsModel"
def TX5 : u_T := fun k => match k with
  | 0 => ("GrooveTurnsModel", "all", "[I", true)
  | 1 => ("GrooveTurnsModel", "kept", "[I", true)
  | 2 => ("GrooveTurnsModel", "history", "[I", true)
  | 3 => ("GrooveTurnsModel", "historyLong", "I", false)
  | 4 => ("GrooveTurnsModel", "slots", "[I", true)
  | 5 => ("GrooveTurnsModel", "isSaved", "[I", true)
  | 6 => ("GrooveTurnsModel", "text", "[I", true)
  | 7 => ("GrooveTurnsModel", "textLong", "I", false)
  | 8 => ("GrooveTurnsModel", "spot", "I", false)
  | 9 => ("GrooveTurnsModel", "number", "I", false)
  | 10 => ("GrooveTurnsModel", "asked", "[I", true)
  | 11 => ("GrooveTurnsModel", "numbers", "[I", true)
  | 12 => ("GrooveTurnsModel", "trackOf", "[I", true)
  | _ => ("GrooveTurnsModel", "requests", "I", false)
def tyX5 : Nat → FieldType := fun k => match k with
  | 0 => .array .int
  | 1 => .array .int
  | 2 => .array .int
  | 3 => .int
  | 4 => .array .int
  | 5 => .array .int
  | 6 => .array .int
  | 7 => .int
  | 8 => .int
  | 9 => .int
  | 10 => .array .int
  | 11 => .array .int
  | 12 => .array .int
  | _ => .int
abbrev wsX50 : List Cond := u_ws RX5 TX5 14
theorem nmX5 : ∀ a, a < 14 → ∀ b, b < 14 → a ≠ b → (TX5 a).2.1 ≠ (TX5 b).2.1 := by decide +kernel
theorem tyX5_ok : ∀ k, k < 14 → parseFieldDescriptor (TX5 k).2.2.1 = some (tyX5 k) := by decide +kernel
abbrev cX5_init : ByteArray := prog_7_method_1_code
def yX5_init : MethodName := ⟨RX5, "<init>", "()V"⟩
abbrev cX5_in : ByteArray := prog_7_method_3_code
def yX5_in : MethodName := ⟨RX5, "in", "(JJJ)Z"⟩
abbrev cX5_records : ByteArray := prog_7_method_4_code
def yX5_records : MethodName := ⟨RX5, "records", "()V"⟩
abbrev cX5_keeps : ByteArray := prog_7_method_5_code
def yX5_keeps : MethodName := ⟨RX5, "keeps", "()V"⟩
abbrev cX5_comesBack : ByteArray := prog_7_method_6_code
def yX5_comesBack : MethodName := ⟨RX5, "comesBack", "()V"⟩
abbrev cX5_ends : ByteArray := prog_7_method_7_code
def yX5_ends : MethodName := ⟨RX5, "ends", "(I)I"⟩
abbrev cX5_isAddress : ByteArray := prog_7_method_8_code
def yX5_isAddress : MethodName := ⟨RX5, "isAddress", "(I)Z"⟩
abbrev cX5_sectorOf : ByteArray := prog_7_method_9_code
def yX5_sectorOf : MethodName := ⟨RX5, "sectorOf", "(I)I"⟩
abbrev cX5_sectorToWrite : ByteArray := prog_7_method_10_code
def yX5_sectorToWrite : MethodName := ⟨RX5, "sectorToWrite", "(I)I"⟩
abbrev cX5_holds : ByteArray := prog_7_method_11_code
def yX5_holds : MethodName := ⟨RX5, "holds", "(I)Z"⟩
abbrev cX5_canBeRead : ByteArray := prog_7_method_12_code
def yX5_canBeRead : MethodName := ⟨RX5, "canBeRead", "(I)Z"⟩
abbrev cX5_takes : ByteArray := prog_7_method_13_code
def yX5_takes : MethodName := ⟨RX5, "takes", "(I)I"⟩
abbrev cX5_goes : ByteArray := prog_7_method_14_code
def yX5_goes : MethodName := ⟨RX5, "goes", "(I)V"⟩
abbrev cX5_heats : ByteArray := prog_7_method_15_code
def yX5_heats : MethodName := ⟨RX5, "heats", "(II)V"⟩
abbrev cX5_puts : ByteArray := prog_7_method_16_code
def yX5_puts : MethodName := ⟨RX5, "puts", "(II)V"⟩
abbrev cX5_doWrite : ByteArray := prog_7_method_17_code
def yX5_doWrite : MethodName := ⟨RX5, "doWrite", "(II)I"⟩
abbrev cX5_doRead : ByteArray := prog_7_method_18_code
def yX5_doRead : MethodName := ⟨RX5, "doRead", "(I)I"⟩
abbrev cX5_doRefresh : ByteArray := prog_7_method_19_code
def yX5_doRefresh : MethodName := ⟨RX5, "doRefresh", "(I)I"⟩
abbrev cX5_isSetting : ByteArray := prog_7_method_20_code
def yX5_isSetting : MethodName := ⟨RX5, "isSetting", "(II)Z"⟩
abbrev cX5_set : ByteArray := prog_7_method_21_code
def yX5_set : MethodName := ⟨RX5, "set", "(II)I"⟩
abbrev cX5_write : ByteArray := prog_7_method_22_code
def yX5_write : MethodName := ⟨RX5, "write", "(II)I"⟩
abbrev cX5_read : ByteArray := prog_7_method_23_code
def yX5_read : MethodName := ⟨RX5, "read", "(I)I"⟩
abbrev cX5_refresh : ByteArray := prog_7_method_24_code
def yX5_refresh : MethodName := ⟨RX5, "refresh", "(I)I"⟩
abbrev cX5_seek : ByteArray := prog_7_method_25_code
def yX5_seek : MethodName := ⟨RX5, "seek", "(I)I"⟩
abbrev cX5_idle : ByteArray := prog_7_method_26_code
def yX5_idle : MethodName := ⟨RX5, "idle", "(I)I"⟩
abbrev cX5_sector : ByteArray := prog_7_method_27_code
def yX5_sector : MethodName := ⟨RX5, "sector", "(II)I"⟩
abbrev cX5_addresses : ByteArray := prog_7_method_28_code
def yX5_addresses : MethodName := ⟨RX5, "addresses", "(IZ)I"⟩
abbrev cX5_sumOn : ByteArray := prog_7_method_29_code
def yX5_sumOn : MethodName := ⟨RX5, "sumOn", "(II)I"⟩
abbrev cX5_track : ByteArray := prog_7_method_30_code
def yX5_track : MethodName := ⟨RX5, "track", "(II)I"⟩
abbrev cX5_greatestBlur : ByteArray := prog_7_method_31_code
def yX5_greatestBlur : MethodName := ⟨RX5, "greatestBlur", "()I"⟩
abbrev cX5_count : ByteArray := prog_7_method_32_code
def yX5_count : MethodName := ⟨RX5, "count", "(I)I"⟩
abbrev cX5_ticksFor : ByteArray := prog_7_method_33_code
def yX5_ticksFor : MethodName := ⟨RX5, "ticksFor", "(IZ)I"⟩
abbrev cX5_ifRun : ByteArray := prog_7_method_34_code
def yX5_ifRun : MethodName := ⟨RX5, "ifRun", "(Z)I"⟩
abbrev cX5_untilLost : ByteArray := prog_7_method_35_code
def yX5_untilLost : MethodName := ⟨RX5, "untilLost", "(II)I"⟩
abbrev cX5_worst : ByteArray := prog_7_method_36_code
def yX5_worst : MethodName := ⟨RX5, "worst", "()I"⟩
abbrev cX5_charactersOf : ByteArray := prog_7_method_37_code
def yX5_charactersOf : MethodName := ⟨RX5, "charactersOf", "(J)I"⟩
abbrev cX5_put : ByteArray := prog_7_method_38_code
def yX5_put : MethodName := ⟨RX5, "put", "(J)I"⟩
abbrev cX5_wipe : ByteArray := prog_7_method_39_code
def yX5_wipe : MethodName := ⟨RX5, "wipe", "()I"⟩
abbrev cX5_isHere : ByteArray := prog_7_method_40_code
def yX5_isHere : MethodName := ⟨RX5, "isHere", "(II)Z"⟩
abbrev cX5_takesOne : ByteArray := prog_7_method_41_code
def yX5_takesOne : MethodName := ⟨RX5, "takesOne", "(I)Z"⟩
abbrev cX5_readsNumber : ByteArray := prog_7_method_42_code
def yX5_readsNumber : MethodName := ⟨RX5, "readsNumber", "(I)Z"⟩
abbrev cX5_readsRequest : ByteArray := prog_7_method_43_code
def yX5_readsRequest : MethodName := ⟨RX5, "readsRequest", "()Z"⟩
abbrev cX5_fault : ByteArray := prog_7_method_44_code
def yX5_fault : MethodName := ⟨RX5, "fault", "()I"⟩
abbrev cX5_isDone : ByteArray := prog_7_method_45_code
def yX5_isDone : MethodName := ⟨RX5, "isDone", "(I)Z"⟩
abbrev cX5_runs : ByteArray := prog_7_method_46_code
def yX5_runs : MethodName := ⟨RX5, "runs", "(Z)I"⟩
abbrev cX5_run : ByteArray := prog_7_method_47_code
def yX5_run : MethodName := ⟨RX5, "run", "(Z)I"⟩
abbrev cX5_undo : ByteArray := prog_7_method_48_code
def yX5_undo : MethodName := ⟨RX5, "undo", "()I"⟩
abbrev cX5_isSlot : ByteArray := prog_7_method_49_code
def yX5_isSlot : MethodName := ⟨RX5, "isSlot", "(I)Z"⟩
abbrev cX5_save : ByteArray := prog_7_method_50_code
def yX5_save : MethodName := ⟨RX5, "save", "(I)I"⟩
abbrev cX5_restore : ByteArray := prog_7_method_51_code
def yX5_restore : MethodName := ⟨RX5, "restore", "(I)I"⟩
def RJ9 : String := "java/lang/Math"
def TJ9 : u_T := fun k => match k with
  | _ => ("", "", "", false)
def tyJ9 : Nat → FieldType := fun k => match k with
  | _ => .int
abbrev wsJ90 : List Cond := u_ws RJ9 TJ9 0
theorem nmJ9 : ∀ a, a < 0 → ∀ b, b < 0 → a ≠ b → (TJ9 a).2.1 ≠ (TJ9 b).2.1 := by decide +kernel
theorem tyJ9_ok : ∀ k, k < 0 → parseFieldDescriptor (TJ9 k).2.2.1 = some (tyJ9 k) := by decide +kernel
abbrev cJ9_floorMod_7cf53 : ByteArray := prog_8_method_50_code
def yJ9_floorMod_7cf53 : MethodName := ⟨RJ9, "floorMod", "(II)I"⟩
abbrev cJ9_abs_0f7a4 : ByteArray := prog_8_method_59_code
def yJ9_abs_0f7a4 : MethodName := ⟨RJ9, "abs", "(I)I"⟩
abbrev cJ9_max_7cf53 : ByteArray := prog_8_method_65_code
def yJ9_max_7cf53 : MethodName := ⟨RJ9, "max", "(II)I"⟩
abbrev cJ9_min_7cf53 : ByteArray := prog_8_method_69_code
def yJ9_min_7cf53 : MethodName := ⟨RJ9, "min", "(II)I"⟩
def RJ10 : String := "java/lang/System"
def TJ10 : u_T := fun k => match k with
  | _ => ("", "", "", false)
def tyJ10 : Nat → FieldType := fun k => match k with
  | _ => .int
abbrev wsJ100 : List Cond := u_ws RJ10 TJ10 0
theorem nmJ10 : ∀ a, a < 0 → ∀ b, b < 0 → a ≠ b → (TJ10 a).2.1 ≠ (TJ10 b).2.1 := by decide +kernel
theorem tyJ10_ok : ∀ k, k < 0 → parseFieldDescriptor (TJ10 k).2.2.1 = some (tyJ10 k) := by decide +kernel
def RJ7 : String := "java/util/Arrays"
def TJ7 : u_T := fun k => match k with
  | _ => ("", "", "", false)
def tyJ7 : Nat → FieldType := fun k => match k with
  | _ => .int
abbrev wsJ70 : List Cond := u_ws RJ7 TJ7 0
theorem nmJ7 : ∀ a, a < 0 → ∀ b, b < 0 → a ≠ b → (TJ7 a).2.1 ≠ (TJ7 b).2.1 := by decide +kernel
theorem tyJ7_ok : ∀ k, k < 0 → parseFieldDescriptor (TJ7 k).2.2.1 = some (tyJ7 k) := by decide +kernel
abbrev cJ7_fill_53178 : ByteArray := prog_10_method_103_code
def yJ7_fill_53178 : MethodName := ⟨RJ7, "fill", "([II)V"⟩
def RL : String := "GrooveTurnsLaw"
abbrev cL_law : ByteArray := code
def yL_law : MethodName := ⟨RL, "law", "([I)Z"⟩
def wsX4_copyRow : List Cond := .code yX4_copyRow cX4_copyRow 2 none :: ([.methodLink RX4 200 Lib.Math.min.name, .static Lib.Math.min.name, .initialized "java/lang/Math", .code Lib.Math.min.name Lib.Math.min.code 2 (some .int), .methodLink RX4 205 arraycopyName, .native arraycopyName, .static arraycopyName, .initialized "java/lang/System"])
def wsJ7_fill_53178 : List Cond := .code yJ7_fill_53178 cJ7_fill_53178 4 none :: ([])
def wsX0_init_r1 : List Cond := [Cond.methodLink RX0 3 objectInit, Cond.instanceMethod objectInit, Cond.code objectInit ⟨#[0xb1]⟩ 1 none, Cond.arrayClass .int, Cond.fieldLink RX0 13 "GrooveTurns$Disc" "settings" "[I", Cond.fieldLink RX0 18 "GrooveTurns$Disc" "numbers" "[I", Cond.fieldLink RX0 21 "GrooveTurns$Disc" "blurs" "[I", Cond.fieldLink RX0 24 "GrooveTurns$Disc" "writings" "[I", Cond.fieldLink RX0 27 "GrooveTurns$Disc" "sectors" "[I", Cond.fieldLink RX0 30 "GrooveTurns$Disc" "sparesTaken" "I", Cond.fieldLink RX0 34 "GrooveTurns$Disc" "reads" "I", Cond.fieldLink RX0 37 "GrooveTurns$Disc" "ticks" "I", Cond.fieldLink RX0 40 "GrooveTurns$Disc" "head" "I", Cond.static yX4_copyRow, Cond.initialized RX4, Cond.code yX4_copyRow cX4_copyRow 2 none, Cond.methodLink RX4 200 Lib.Math.min.name, Cond.static Lib.Math.min.name, Cond.initialized "java/lang/Math", Cond.code Lib.Math.min.name Lib.Math.min.code 2 (some .int), Cond.methodLink RX4 205 arraycopyName, Cond.native arraycopyName, Cond.static arraycopyName, Cond.initialized "java/lang/System"]
def wsX0_init_r2 : List Cond := [Cond.methodLink RX0 47 yJ7_fill_53178, Cond.static yJ7_fill_53178, Cond.initialized RJ7, Cond.code yJ7_fill_53178 cJ7_fill_53178 4 none]
def wsX0_init : List Cond := .code yX0_init cX0_init 2 none :: ((wsX0_init_r1 ++ wsX0_init_r2) ++ wsX00)
def wsX0_becomeLike : List Cond := .code yX0_becomeLike cX0_becomeLike 2 none :: ([.fieldLink RX0 13 "GrooveTurns$Disc" "settings" "[I", .fieldLink RX0 18 "GrooveTurns$Disc" "numbers" "[I", .fieldLink RX0 21 "GrooveTurns$Disc" "blurs" "[I", .fieldLink RX0 24 "GrooveTurns$Disc" "writings" "[I", .fieldLink RX0 27 "GrooveTurns$Disc" "sectors" "[I", .fieldLink RX0 30 "GrooveTurns$Disc" "sparesTaken" "I", .fieldLink RX0 34 "GrooveTurns$Disc" "reads" "I", .fieldLink RX0 37 "GrooveTurns$Disc" "ticks" "I", .fieldLink RX0 40 "GrooveTurns$Disc" "head" "I", .static yX4_copyRow, .initialized RX4, .code yX4_copyRow cX4_copyRow 2 none, .methodLink RX4 200 Lib.Math.min.name, .static Lib.Math.min.name, .initialized "java/lang/Math", .code Lib.Math.min.name Lib.Math.min.code 2 (some .int), .methodLink RX4 205 arraycopyName, .native arraycopyName, .static arraycopyName, .initialized "java/lang/System"] ++ wsX00)
def wsX4_at : List Cond := .code yX4_at cX4_at 2 (some .int) :: ([])
def wsX4_lay : List Cond := .code yX4_lay cX4_lay 3 none :: ([])
def wsX0_exchangeSetting : List Cond := .code yX0_exchangeSetting cX0_exchangeSetting 4 (some .int) :: ([.fieldLink RX0 13 "GrooveTurns$Disc" "settings" "[I", .static yX4_at, .initialized RX4, .code yX4_at cX4_at 2 (some .int), .static yX4_lay, .code yX4_lay cX4_lay 3 none] ++ wsX00)
def wsX0_sectorFor : List Cond := .code yX0_sectorFor cX0_sectorFor 2 (some .int) :: ([.fieldLink RX0 27 "GrooveTurns$Disc" "sectors" "[I", .static yX4_at, .initialized RX4, .code yX4_at cX4_at 2 (some .int)] ++ wsX00)
def wsX0_writingsOf : List Cond := .code yX0_writingsOf cX0_writingsOf 2 (some .int) :: ([.fieldLink RX0 24 "GrooveTurns$Disc" "writings" "[I", .static yX4_at, .initialized RX4, .code yX4_at cX4_at 2 (some .int)] ++ wsX00)
def wsX0_settingOf : List Cond := .code yX0_settingOf cX0_settingOf 2 (some .int) :: ([.fieldLink RX0 13 "GrooveTurns$Disc" "settings" "[I", .static yX4_at, .initialized RX4, .code yX4_at cX4_at 2 (some .int)] ++ wsX00)
def wsX0_sparesLeft : List Cond := .code yX0_sparesLeft cX0_sparesLeft 1 (some .int) :: ([.fieldLink RX0 30 "GrooveTurns$Disc" "sparesTaken" "I"] ++ wsX00)
def wsX0_sectorToWrite : List Cond := .code yX0_sectorToWrite cX0_sectorToWrite 4 (some .int) :: ([.fieldLink RX0 30 "GrooveTurns$Disc" "sparesTaken" "I", .methodLink RX0 82 yX0_sectorFor, .instanceMethod yX0_sectorFor, .selects RX0 yX0_sectorFor yX0_sectorFor, .initialized RX0, .code yX0_sectorFor cX0_sectorFor 2 (some .int), .fieldLink RX0 27 "GrooveTurns$Disc" "sectors" "[I", .static yX4_at, .initialized RX4, .code yX4_at cX4_at 2 (some .int), .methodLink RX0 98 yX0_writingsOf, .instanceMethod yX0_writingsOf, .selects RX0 yX0_writingsOf yX0_writingsOf, .code yX0_writingsOf cX0_writingsOf 2 (some .int), .fieldLink RX0 24 "GrooveTurns$Disc" "writings" "[I", .methodLink RX0 104 yX0_settingOf, .instanceMethod yX0_settingOf, .selects RX0 yX0_settingOf yX0_settingOf, .code yX0_settingOf cX0_settingOf 2 (some .int), .fieldLink RX0 13 "GrooveTurns$Disc" "settings" "[I", .methodLink RX0 128 yX0_sparesLeft, .instanceMethod yX0_sparesLeft, .selects RX0 yX0_sparesLeft yX0_sparesLeft, .code yX0_sparesLeft cX0_sparesLeft 1 (some .int)] ++ wsX00)
def wsX4_trackOf : List Cond := .code yX4_trackOf cX4_trackOf 1 (some .int) :: ([])
def wsX0_ticksToTrack : List Cond := .code yX0_ticksToTrack cX0_ticksToTrack 2 (some .int) :: ([.fieldLink RX0 40 "GrooveTurns$Disc" "head" "I", .methodLink RX0 134 Lib.Math.abs.name, .static Lib.Math.abs.name, .initialized "java/lang/Math", .code Lib.Math.abs.name Lib.Math.abs.code 1 (some .int), .methodLink RX0 104 yX0_settingOf, .instanceMethod yX0_settingOf, .selects RX0 yX0_settingOf yX0_settingOf, .initialized RX0, .code yX0_settingOf cX0_settingOf 2 (some .int), .fieldLink RX0 13 "GrooveTurns$Disc" "settings" "[I", .static yX4_at, .initialized RX4, .code yX4_at cX4_at 2 (some .int)] ++ wsX00)
def wsJ9_floorMod_7cf53 : List Cond := .code yJ9_floorMod_7cf53 cJ9_floorMod_7cf53 3 (some .int) :: ([])
def wsX0_ticksTo_r1 : List Cond := [Cond.fieldLink RX0 37 "GrooveTurns$Disc" "ticks" "I", Cond.static yX4_trackOf, Cond.initialized RX4, Cond.code yX4_trackOf cX4_trackOf 1 (some .int), Cond.methodLink RX0 91 yX0_ticksToTrack, Cond.instanceMethod yX0_ticksToTrack, Cond.selects RX0 yX0_ticksToTrack yX0_ticksToTrack, Cond.initialized RX0, Cond.code yX0_ticksToTrack cX0_ticksToTrack 2 (some .int), Cond.fieldLink RX0 40 "GrooveTurns$Disc" "head" "I", Cond.methodLink RX0 134 Lib.Math.abs.name, Cond.static Lib.Math.abs.name, Cond.initialized "java/lang/Math", Cond.code Lib.Math.abs.name Lib.Math.abs.code 1 (some .int), Cond.methodLink RX0 104 yX0_settingOf, Cond.instanceMethod yX0_settingOf, Cond.selects RX0 yX0_settingOf yX0_settingOf, Cond.code yX0_settingOf cX0_settingOf 2 (some .int), Cond.fieldLink RX0 13 "GrooveTurns$Disc" "settings" "[I", Cond.static yX4_at, Cond.code yX4_at cX4_at 2 (some .int), Cond.methodLink RX0 131 yJ9_floorMod_7cf53, Cond.static yJ9_floorMod_7cf53, Cond.initialized RJ9]
def wsX0_ticksTo_r2 : List Cond := [Cond.code yJ9_floorMod_7cf53 cJ9_floorMod_7cf53 3 (some .int)]
def wsX0_ticksTo : List Cond := .code yX0_ticksTo cX0_ticksTo 4 (some .int) :: ((wsX0_ticksTo_r1 ++ wsX0_ticksTo_r2) ++ wsX00)
def wsX0_hasTime : List Cond := .code yX0_hasTime cX0_hasTime 2 (some .boolean) :: ([.constant RX0 137 (9999999), .fieldLink RX0 37 "GrooveTurns$Disc" "ticks" "I"] ++ wsX00)
def wsX4_isSpare : List Cond := .code yX4_isSpare cX4_isSpare 1 (some .boolean) :: ([])
def wsX4_isAddress : List Cond := .code yX4_isAddress cX4_isAddress 1 (some .boolean) :: ([])
def wsX0_isOnTracksInUse : List Cond := .code yX0_isOnTracksInUse cX0_isOnTracksInUse 2 (some .boolean) :: ([.fieldLink RX0 27 "GrooveTurns$Disc" "sectors" "[I", .static yX4_isAddress, .initialized RX4, .code yX4_isAddress cX4_isAddress 1 (some .boolean), .static yX4_at, .code yX4_at cX4_at 2 (some .int)] ++ wsX00)
def wsX0_holdsNumber : List Cond := .code yX0_holdsNumber cX0_holdsNumber 2 (some .boolean) :: ([.fieldLink RX0 18 "GrooveTurns$Disc" "numbers" "[I", .static yX4_at, .initialized RX4, .code yX4_at cX4_at 2 (some .int)] ++ wsX00)
def wsX0_blurOf : List Cond := .code yX0_blurOf cX0_blurOf 2 (some .int) :: ([.fieldLink RX0 21 "GrooveTurns$Disc" "blurs" "[I", .static yX4_at, .initialized RX4, .code yX4_at cX4_at 2 (some .int)] ++ wsX00)
def wsX0_blurBy_r1 : List Cond := [Cond.fieldLink RX0 21 "GrooveTurns$Disc" "blurs" "[I", Cond.methodLink RX0 119 Lib.Math.min.name, Cond.static Lib.Math.min.name, Cond.initialized "java/lang/Math", Cond.code Lib.Math.min.name Lib.Math.min.code 2 (some .int), Cond.methodLink RX0 110 yX0_isOnTracksInUse, Cond.instanceMethod yX0_isOnTracksInUse, Cond.selects RX0 yX0_isOnTracksInUse yX0_isOnTracksInUse, Cond.initialized RX0, Cond.code yX0_isOnTracksInUse cX0_isOnTracksInUse 2 (some .boolean), Cond.fieldLink RX0 27 "GrooveTurns$Disc" "sectors" "[I", Cond.static yX4_isAddress, Cond.initialized RX4, Cond.code yX4_isAddress cX4_isAddress 1 (some .boolean), Cond.static yX4_at, Cond.code yX4_at cX4_at 2 (some .int), Cond.methodLink RX0 113 yX0_holdsNumber, Cond.instanceMethod yX0_holdsNumber, Cond.selects RX0 yX0_holdsNumber yX0_holdsNumber, Cond.code yX0_holdsNumber cX0_holdsNumber 2 (some .boolean), Cond.fieldLink RX0 18 "GrooveTurns$Disc" "numbers" "[I", Cond.methodLink RX0 116 yX0_blurOf, Cond.instanceMethod yX0_blurOf, Cond.selects RX0 yX0_blurOf yX0_blurOf]
def wsX0_blurBy_r2 : List Cond := [Cond.code yX0_blurOf cX0_blurOf 2 (some .int), Cond.static yX4_lay, Cond.code yX4_lay cX4_lay 3 none]
def wsX0_blurBy : List Cond := .code yX0_blurBy cX0_blurBy 3 none :: ((wsX0_blurBy_r1 ++ wsX0_blurBy_r2) ++ wsX00)
def wsX0_fill_r1 : List Cond := [Cond.fieldLink RX0 27 "GrooveTurns$Disc" "sectors" "[I", Cond.fieldLink RX0 30 "GrooveTurns$Disc" "sparesTaken" "I", Cond.fieldLink RX0 18 "GrooveTurns$Disc" "numbers" "[I", Cond.fieldLink RX0 21 "GrooveTurns$Disc" "blurs" "[I", Cond.fieldLink RX0 24 "GrooveTurns$Disc" "writings" "[I", Cond.methodLink RX0 82 yX0_sectorFor, Cond.instanceMethod yX0_sectorFor, Cond.selects RX0 yX0_sectorFor yX0_sectorFor, Cond.initialized RX0, Cond.code yX0_sectorFor cX0_sectorFor 2 (some .int), Cond.static yX4_at, Cond.initialized RX4, Cond.code yX4_at cX4_at 2 (some .int), Cond.static yX4_lay, Cond.code yX4_lay cX4_lay 3 none, Cond.methodLink RX0 98 yX0_writingsOf, Cond.instanceMethod yX0_writingsOf, Cond.selects RX0 yX0_writingsOf yX0_writingsOf, Cond.code yX0_writingsOf cX0_writingsOf 2 (some .int), Cond.static yX4_isSpare, Cond.code yX4_isSpare cX4_isSpare 1 (some .boolean), Cond.methodLink RX0 104 yX0_settingOf, Cond.instanceMethod yX0_settingOf, Cond.selects RX0 yX0_settingOf yX0_settingOf]
def wsX0_fill_r2 : List Cond := [Cond.code yX0_settingOf cX0_settingOf 2 (some .int), Cond.fieldLink RX0 13 "GrooveTurns$Disc" "settings" "[I", Cond.methodLink RX0 107 yX0_blurBy, Cond.instanceMethod yX0_blurBy, Cond.selects RX0 yX0_blurBy yX0_blurBy, Cond.code yX0_blurBy cX0_blurBy 3 none, Cond.methodLink RX0 119 Lib.Math.min.name, Cond.static Lib.Math.min.name, Cond.initialized "java/lang/Math", Cond.code Lib.Math.min.name Lib.Math.min.code 2 (some .int), Cond.methodLink RX0 110 yX0_isOnTracksInUse, Cond.instanceMethod yX0_isOnTracksInUse, Cond.selects RX0 yX0_isOnTracksInUse yX0_isOnTracksInUse, Cond.code yX0_isOnTracksInUse cX0_isOnTracksInUse 2 (some .boolean), Cond.static yX4_isAddress, Cond.code yX4_isAddress cX4_isAddress 1 (some .boolean), Cond.methodLink RX0 113 yX0_holdsNumber, Cond.instanceMethod yX0_holdsNumber, Cond.selects RX0 yX0_holdsNumber yX0_holdsNumber, Cond.code yX0_holdsNumber cX0_holdsNumber 2 (some .boolean), Cond.methodLink RX0 116 yX0_blurOf, Cond.instanceMethod yX0_blurOf, Cond.selects RX0 yX0_blurOf yX0_blurOf, Cond.code yX0_blurOf cX0_blurOf 2 (some .int)]
def wsX0_fill : List Cond := .code yX0_fill cX0_fill 4 none :: ((wsX0_fill_r1 ++ wsX0_fill_r2) ++ wsX00)
def wsX0_pass : List Cond := .code yX0_pass cX0_pass 3 none :: ([.fieldLink RX0 37 "GrooveTurns$Disc" "ticks" "I", .fieldLink RX0 40 "GrooveTurns$Disc" "head" "I"] ++ wsX00)
def wsX0_writeTo_r1 : List Cond := [Cond.methodLink RX0 61 yX0_sectorToWrite, Cond.instanceMethod yX0_sectorToWrite, Cond.selects RX0 yX0_sectorToWrite yX0_sectorToWrite, Cond.initialized RX0, Cond.code yX0_sectorToWrite cX0_sectorToWrite 4 (some .int), Cond.fieldLink RX0 30 "GrooveTurns$Disc" "sparesTaken" "I", Cond.methodLink RX0 82 yX0_sectorFor, Cond.instanceMethod yX0_sectorFor, Cond.selects RX0 yX0_sectorFor yX0_sectorFor, Cond.code yX0_sectorFor cX0_sectorFor 2 (some .int), Cond.fieldLink RX0 27 "GrooveTurns$Disc" "sectors" "[I", Cond.static yX4_at, Cond.initialized RX4, Cond.code yX4_at cX4_at 2 (some .int), Cond.methodLink RX0 98 yX0_writingsOf, Cond.instanceMethod yX0_writingsOf, Cond.selects RX0 yX0_writingsOf yX0_writingsOf, Cond.code yX0_writingsOf cX0_writingsOf 2 (some .int), Cond.fieldLink RX0 24 "GrooveTurns$Disc" "writings" "[I", Cond.methodLink RX0 104 yX0_settingOf, Cond.instanceMethod yX0_settingOf, Cond.selects RX0 yX0_settingOf yX0_settingOf, Cond.code yX0_settingOf cX0_settingOf 2 (some .int), Cond.fieldLink RX0 13 "GrooveTurns$Disc" "settings" "[I"]
def wsX0_writeTo_r2 : List Cond := [Cond.methodLink RX0 128 yX0_sparesLeft, Cond.instanceMethod yX0_sparesLeft, Cond.selects RX0 yX0_sparesLeft yX0_sparesLeft, Cond.code yX0_sparesLeft cX0_sparesLeft 1 (some .int), Cond.methodLink RX0 65 yX0_ticksTo, Cond.instanceMethod yX0_ticksTo, Cond.selects RX0 yX0_ticksTo yX0_ticksTo, Cond.code yX0_ticksTo cX0_ticksTo 4 (some .int), Cond.fieldLink RX0 37 "GrooveTurns$Disc" "ticks" "I", Cond.static yX4_trackOf, Cond.code yX4_trackOf cX4_trackOf 1 (some .int), Cond.methodLink RX0 91 yX0_ticksToTrack, Cond.instanceMethod yX0_ticksToTrack, Cond.selects RX0 yX0_ticksToTrack yX0_ticksToTrack, Cond.code yX0_ticksToTrack cX0_ticksToTrack 2 (some .int), Cond.fieldLink RX0 40 "GrooveTurns$Disc" "head" "I", Cond.methodLink RX0 134 Lib.Math.abs.name, Cond.static Lib.Math.abs.name, Cond.initialized "java/lang/Math", Cond.code Lib.Math.abs.name Lib.Math.abs.code 1 (some .int), Cond.methodLink RX0 131 yJ9_floorMod_7cf53, Cond.static yJ9_floorMod_7cf53, Cond.initialized RJ9, Cond.code yJ9_floorMod_7cf53 cJ9_floorMod_7cf53 3 (some .int)]
def wsX0_writeTo_r3 : List Cond := [Cond.methodLink RX0 68 yX0_hasTime, Cond.instanceMethod yX0_hasTime, Cond.selects RX0 yX0_hasTime yX0_hasTime, Cond.code yX0_hasTime cX0_hasTime 2 (some .boolean), Cond.constant RX0 137 (9999999), Cond.methodLink RX0 72 yX0_fill, Cond.instanceMethod yX0_fill, Cond.selects RX0 yX0_fill yX0_fill, Cond.code yX0_fill cX0_fill 4 none, Cond.fieldLink RX0 18 "GrooveTurns$Disc" "numbers" "[I", Cond.fieldLink RX0 21 "GrooveTurns$Disc" "blurs" "[I", Cond.static yX4_lay, Cond.code yX4_lay cX4_lay 3 none, Cond.static yX4_isSpare, Cond.code yX4_isSpare cX4_isSpare 1 (some .boolean), Cond.methodLink RX0 107 yX0_blurBy, Cond.instanceMethod yX0_blurBy, Cond.selects RX0 yX0_blurBy yX0_blurBy, Cond.code yX0_blurBy cX0_blurBy 3 none, Cond.methodLink RX0 119 Lib.Math.min.name, Cond.static Lib.Math.min.name, Cond.code Lib.Math.min.name Lib.Math.min.code 2 (some .int), Cond.methodLink RX0 110 yX0_isOnTracksInUse, Cond.instanceMethod yX0_isOnTracksInUse]
def wsX0_writeTo_r4 : List Cond := [Cond.selects RX0 yX0_isOnTracksInUse yX0_isOnTracksInUse, Cond.code yX0_isOnTracksInUse cX0_isOnTracksInUse 2 (some .boolean), Cond.static yX4_isAddress, Cond.code yX4_isAddress cX4_isAddress 1 (some .boolean), Cond.methodLink RX0 113 yX0_holdsNumber, Cond.instanceMethod yX0_holdsNumber, Cond.selects RX0 yX0_holdsNumber yX0_holdsNumber, Cond.code yX0_holdsNumber cX0_holdsNumber 2 (some .boolean), Cond.methodLink RX0 116 yX0_blurOf, Cond.instanceMethod yX0_blurOf, Cond.selects RX0 yX0_blurOf yX0_blurOf, Cond.code yX0_blurOf cX0_blurOf 2 (some .int), Cond.methodLink RX0 78 yX0_pass, Cond.instanceMethod yX0_pass, Cond.selects RX0 yX0_pass yX0_pass, Cond.code yX0_pass cX0_pass 3 none]
def wsX0_writeTo : List Cond := .code yX0_writeTo cX0_writeTo 5 (some .int) :: ((wsX0_writeTo_r1 ++ (wsX0_writeTo_r2 ++ (wsX0_writeTo_r3 ++ wsX0_writeTo_r4))) ++ wsX00)
def wsX0_isReadable : List Cond := .code yX0_isReadable cX0_isReadable 2 (some .boolean) :: ([.methodLink RX0 113 yX0_holdsNumber, .instanceMethod yX0_holdsNumber, .selects RX0 yX0_holdsNumber yX0_holdsNumber, .initialized RX0, .code yX0_holdsNumber cX0_holdsNumber 2 (some .boolean), .fieldLink RX0 18 "GrooveTurns$Disc" "numbers" "[I", .static yX4_at, .initialized RX4, .code yX4_at cX4_at 2 (some .int), .methodLink RX0 116 yX0_blurOf, .instanceMethod yX0_blurOf, .selects RX0 yX0_blurOf yX0_blurOf, .code yX0_blurOf cX0_blurOf 2 (some .int), .fieldLink RX0 21 "GrooveTurns$Disc" "blurs" "[I", .methodLink RX0 104 yX0_settingOf, .instanceMethod yX0_settingOf, .selects RX0 yX0_settingOf yX0_settingOf, .code yX0_settingOf cX0_settingOf 2 (some .int), .fieldLink RX0 13 "GrooveTurns$Disc" "settings" "[I"] ++ wsX00)
def wsX0_numberIn : List Cond := .code yX0_numberIn cX0_numberIn 2 (some .int) :: ([.fieldLink RX0 18 "GrooveTurns$Disc" "numbers" "[I", .static yX4_at, .initialized RX4, .code yX4_at cX4_at 2 (some .int)] ++ wsX00)
def wsX0_readFrom_r1 : List Cond := [Cond.fieldLink RX0 34 "GrooveTurns$Disc" "reads" "I", Cond.methodLink RX0 82 yX0_sectorFor, Cond.instanceMethod yX0_sectorFor, Cond.selects RX0 yX0_sectorFor yX0_sectorFor, Cond.initialized RX0, Cond.code yX0_sectorFor cX0_sectorFor 2 (some .int), Cond.fieldLink RX0 27 "GrooveTurns$Disc" "sectors" "[I", Cond.static yX4_at, Cond.initialized RX4, Cond.code yX4_at cX4_at 2 (some .int), Cond.methodLink RX0 85 yX0_isReadable, Cond.instanceMethod yX0_isReadable, Cond.selects RX0 yX0_isReadable yX0_isReadable, Cond.code yX0_isReadable cX0_isReadable 2 (some .boolean), Cond.methodLink RX0 113 yX0_holdsNumber, Cond.instanceMethod yX0_holdsNumber, Cond.selects RX0 yX0_holdsNumber yX0_holdsNumber, Cond.code yX0_holdsNumber cX0_holdsNumber 2 (some .boolean), Cond.fieldLink RX0 18 "GrooveTurns$Disc" "numbers" "[I", Cond.methodLink RX0 116 yX0_blurOf, Cond.instanceMethod yX0_blurOf, Cond.selects RX0 yX0_blurOf yX0_blurOf, Cond.code yX0_blurOf cX0_blurOf 2 (some .int), Cond.fieldLink RX0 21 "GrooveTurns$Disc" "blurs" "[I"]
def wsX0_readFrom_r2 : List Cond := [Cond.methodLink RX0 104 yX0_settingOf, Cond.instanceMethod yX0_settingOf, Cond.selects RX0 yX0_settingOf yX0_settingOf, Cond.code yX0_settingOf cX0_settingOf 2 (some .int), Cond.fieldLink RX0 13 "GrooveTurns$Disc" "settings" "[I", Cond.methodLink RX0 65 yX0_ticksTo, Cond.instanceMethod yX0_ticksTo, Cond.selects RX0 yX0_ticksTo yX0_ticksTo, Cond.code yX0_ticksTo cX0_ticksTo 4 (some .int), Cond.fieldLink RX0 37 "GrooveTurns$Disc" "ticks" "I", Cond.static yX4_trackOf, Cond.code yX4_trackOf cX4_trackOf 1 (some .int), Cond.methodLink RX0 91 yX0_ticksToTrack, Cond.instanceMethod yX0_ticksToTrack, Cond.selects RX0 yX0_ticksToTrack yX0_ticksToTrack, Cond.code yX0_ticksToTrack cX0_ticksToTrack 2 (some .int), Cond.fieldLink RX0 40 "GrooveTurns$Disc" "head" "I", Cond.methodLink RX0 134 Lib.Math.abs.name, Cond.static Lib.Math.abs.name, Cond.initialized "java/lang/Math", Cond.code Lib.Math.abs.name Lib.Math.abs.code 1 (some .int), Cond.methodLink RX0 131 yJ9_floorMod_7cf53, Cond.static yJ9_floorMod_7cf53, Cond.initialized RJ9]
def wsX0_readFrom_r3 : List Cond := [Cond.code yJ9_floorMod_7cf53 cJ9_floorMod_7cf53 3 (some .int), Cond.methodLink RX0 68 yX0_hasTime, Cond.instanceMethod yX0_hasTime, Cond.selects RX0 yX0_hasTime yX0_hasTime, Cond.code yX0_hasTime cX0_hasTime 2 (some .boolean), Cond.constant RX0 137 (9999999), Cond.methodLink RX0 78 yX0_pass, Cond.instanceMethod yX0_pass, Cond.selects RX0 yX0_pass yX0_pass, Cond.code yX0_pass cX0_pass 3 none, Cond.methodLink RX0 88 yX0_numberIn, Cond.instanceMethod yX0_numberIn, Cond.selects RX0 yX0_numberIn yX0_numberIn, Cond.code yX0_numberIn cX0_numberIn 2 (some .int)]
def wsX0_readFrom : List Cond := .code yX0_readFrom cX0_readFrom 4 (some .int) :: ((wsX0_readFrom_r1 ++ (wsX0_readFrom_r2 ++ wsX0_readFrom_r3)) ++ wsX00)
def wsX0_moveHead_r1 : List Cond := [Cond.methodLink RX0 91 yX0_ticksToTrack, Cond.instanceMethod yX0_ticksToTrack, Cond.selects RX0 yX0_ticksToTrack yX0_ticksToTrack, Cond.initialized RX0, Cond.code yX0_ticksToTrack cX0_ticksToTrack 2 (some .int), Cond.fieldLink RX0 40 "GrooveTurns$Disc" "head" "I", Cond.methodLink RX0 134 Lib.Math.abs.name, Cond.static Lib.Math.abs.name, Cond.initialized "java/lang/Math", Cond.code Lib.Math.abs.name Lib.Math.abs.code 1 (some .int), Cond.methodLink RX0 104 yX0_settingOf, Cond.instanceMethod yX0_settingOf, Cond.selects RX0 yX0_settingOf yX0_settingOf, Cond.code yX0_settingOf cX0_settingOf 2 (some .int), Cond.fieldLink RX0 13 "GrooveTurns$Disc" "settings" "[I", Cond.static yX4_at, Cond.initialized RX4, Cond.code yX4_at cX4_at 2 (some .int), Cond.methodLink RX0 68 yX0_hasTime, Cond.instanceMethod yX0_hasTime, Cond.selects RX0 yX0_hasTime yX0_hasTime, Cond.code yX0_hasTime cX0_hasTime 2 (some .boolean), Cond.constant RX0 137 (9999999), Cond.fieldLink RX0 37 "GrooveTurns$Disc" "ticks" "I"]
def wsX0_moveHead_r2 : List Cond := [Cond.methodLink RX0 78 yX0_pass, Cond.instanceMethod yX0_pass, Cond.selects RX0 yX0_pass yX0_pass, Cond.code yX0_pass cX0_pass 3 none]
def wsX0_moveHead : List Cond := .code yX0_moveHead cX0_moveHead 3 (some .int) :: ((wsX0_moveHead_r1 ++ wsX0_moveHead_r2) ++ wsX00)
def wsX0_sectorUnderHead : List Cond := .code yX0_sectorUnderHead cX0_sectorUnderHead 1 (some .int) :: ([.fieldLink RX0 37 "GrooveTurns$Disc" "ticks" "I"] ++ wsX00)
def wsX0_waitFor : List Cond := .code yX0_waitFor cX0_waitFor 2 (some .int) :: ([.fieldLink RX0 40 "GrooveTurns$Disc" "head" "I", .methodLink RX0 68 yX0_hasTime, .instanceMethod yX0_hasTime, .selects RX0 yX0_hasTime yX0_hasTime, .initialized RX0, .code yX0_hasTime cX0_hasTime 2 (some .boolean), .constant RX0 137 (9999999), .fieldLink RX0 37 "GrooveTurns$Disc" "ticks" "I", .methodLink RX0 78 yX0_pass, .instanceMethod yX0_pass, .selects RX0 yX0_pass yX0_pass, .code yX0_pass cX0_pass 3 none, .methodLink RX0 94 yX0_sectorUnderHead, .instanceMethod yX0_sectorUnderHead, .selects RX0 yX0_sectorUnderHead yX0_sectorUnderHead, .code yX0_sectorUnderHead cX0_sectorUnderHead 1 (some .int)] ++ wsX00)
def wsX0_isWithin : List Cond := .code yX0_isWithin cX0_isWithin 3 (some .boolean) :: ([.static yX4_trackOf, .initialized RX4, .code yX4_trackOf cX4_trackOf 1 (some .int)])
def wsX0_filledOn : List Cond := .code yX0_filledOn cX0_filledOn 6 (some .int) :: ([.methodLink RX0 82 yX0_sectorFor, .instanceMethod yX0_sectorFor, .selects RX0 yX0_sectorFor yX0_sectorFor, .initialized RX0, .code yX0_sectorFor cX0_sectorFor 2 (some .int), .fieldLink RX0 27 "GrooveTurns$Disc" "sectors" "[I", .static yX4_at, .initialized RX4, .code yX4_at cX4_at 2 (some .int), .methodLink RX0 138 yX0_isWithin, .static yX0_isWithin, .code yX0_isWithin cX0_isWithin 3 (some .boolean), .static yX4_trackOf, .code yX4_trackOf cX4_trackOf 1 (some .int), .methodLink RX0 113 yX0_holdsNumber, .instanceMethod yX0_holdsNumber, .selects RX0 yX0_holdsNumber yX0_holdsNumber, .code yX0_holdsNumber cX0_holdsNumber 2 (some .boolean), .fieldLink RX0 18 "GrooveTurns$Disc" "numbers" "[I"] ++ wsX00)
def wsX0_unreadableOn_r1 : List Cond := [Cond.methodLink RX0 82 yX0_sectorFor, Cond.instanceMethod yX0_sectorFor, Cond.selects RX0 yX0_sectorFor yX0_sectorFor, Cond.initialized RX0, Cond.code yX0_sectorFor cX0_sectorFor 2 (some .int), Cond.fieldLink RX0 27 "GrooveTurns$Disc" "sectors" "[I", Cond.static yX4_at, Cond.initialized RX4, Cond.code yX4_at cX4_at 2 (some .int), Cond.methodLink RX0 138 yX0_isWithin, Cond.static yX0_isWithin, Cond.code yX0_isWithin cX0_isWithin 3 (some .boolean), Cond.static yX4_trackOf, Cond.code yX4_trackOf cX4_trackOf 1 (some .int), Cond.methodLink RX0 113 yX0_holdsNumber, Cond.instanceMethod yX0_holdsNumber, Cond.selects RX0 yX0_holdsNumber yX0_holdsNumber, Cond.code yX0_holdsNumber cX0_holdsNumber 2 (some .boolean), Cond.fieldLink RX0 18 "GrooveTurns$Disc" "numbers" "[I", Cond.methodLink RX0 85 yX0_isReadable, Cond.instanceMethod yX0_isReadable, Cond.selects RX0 yX0_isReadable yX0_isReadable, Cond.code yX0_isReadable cX0_isReadable 2 (some .boolean), Cond.methodLink RX0 116 yX0_blurOf]
def wsX0_unreadableOn_r2 : List Cond := [Cond.instanceMethod yX0_blurOf, Cond.selects RX0 yX0_blurOf yX0_blurOf, Cond.code yX0_blurOf cX0_blurOf 2 (some .int), Cond.fieldLink RX0 21 "GrooveTurns$Disc" "blurs" "[I", Cond.methodLink RX0 104 yX0_settingOf, Cond.instanceMethod yX0_settingOf, Cond.selects RX0 yX0_settingOf yX0_settingOf, Cond.code yX0_settingOf cX0_settingOf 2 (some .int), Cond.fieldLink RX0 13 "GrooveTurns$Disc" "settings" "[I"]
def wsX0_unreadableOn : List Cond := .code yX0_unreadableOn cX0_unreadableOn 6 (some .int) :: ((wsX0_unreadableOn_r1 ++ wsX0_unreadableOn_r2) ++ wsX00)
def wsX0_sumOnTrack : List Cond := .code yX0_sumOnTrack cX0_sumOnTrack 4 (some .int) :: ([.static yX4_at, .initialized RX4, .code yX4_at cX4_at 2 (some .int)])
def wsX0_blurOnTrack : List Cond := .code yX0_blurOnTrack cX0_blurOnTrack 2 (some .int) :: ([.fieldLink RX0 21 "GrooveTurns$Disc" "blurs" "[I", .methodLink RX0 142 yX0_sumOnTrack, .static yX0_sumOnTrack, .initialized RX0, .code yX0_sumOnTrack cX0_sumOnTrack 4 (some .int), .static yX4_at, .initialized RX4, .code yX4_at cX4_at 2 (some .int)] ++ wsX00)
def wsX0_writingsOnTrack : List Cond := .code yX0_writingsOnTrack cX0_writingsOnTrack 2 (some .int) :: ([.fieldLink RX0 24 "GrooveTurns$Disc" "writings" "[I", .methodLink RX0 142 yX0_sumOnTrack, .static yX0_sumOnTrack, .initialized RX0, .code yX0_sumOnTrack cX0_sumOnTrack 4 (some .int), .static yX4_at, .initialized RX4, .code yX4_at cX4_at 2 (some .int)] ++ wsX00)
def wsX0_writingsOnTracks : List Cond := .code yX0_writingsOnTracks cX0_writingsOnTracks 5 (some .int) :: ([.methodLink RX0 145 yX0_writingsOnTrack, .instanceMethod yX0_writingsOnTrack, .selects RX0 yX0_writingsOnTrack yX0_writingsOnTrack, .initialized RX0, .code yX0_writingsOnTrack cX0_writingsOnTrack 2 (some .int), .fieldLink RX0 24 "GrooveTurns$Disc" "writings" "[I", .methodLink RX0 142 yX0_sumOnTrack, .static yX0_sumOnTrack, .code yX0_sumOnTrack cX0_sumOnTrack 4 (some .int), .static yX4_at, .initialized RX4, .code yX4_at cX4_at 2 (some .int)] ++ wsX00)
def wsX0_greatestBlur : List Cond := .code yX0_greatestBlur cX0_greatestBlur 3 (some .int) :: ([.methodLink RX0 148 Lib.Math.max.name, .static Lib.Math.max.name, .initialized "java/lang/Math", .code Lib.Math.max.name Lib.Math.max.code 2 (some .int), .methodLink RX0 82 yX0_sectorFor, .instanceMethod yX0_sectorFor, .selects RX0 yX0_sectorFor yX0_sectorFor, .initialized RX0, .code yX0_sectorFor cX0_sectorFor 2 (some .int), .fieldLink RX0 27 "GrooveTurns$Disc" "sectors" "[I", .static yX4_at, .initialized RX4, .code yX4_at cX4_at 2 (some .int), .methodLink RX0 116 yX0_blurOf, .instanceMethod yX0_blurOf, .selects RX0 yX0_blurOf yX0_blurOf, .code yX0_blurOf cX0_blurOf 2 (some .int), .fieldLink RX0 21 "GrooveTurns$Disc" "blurs" "[I"] ++ wsX00)
def wsX1_init : List Cond := .code yX1_init cX1_init 1 none :: ([.methodLink RX1 3 objectInit, .instanceMethod objectInit, .code objectInit ⟨#[0xb1]⟩ 1 none, .classLink RX1 9 RX0, .fieldLink RX1 11 "GrooveTurns$History" "ring" "[LGrooveTurns$Disc;", .fieldLink RX1 17 "GrooveTurns$History" "oldest" "I", .fieldLink RX1 21 "GrooveTurns$History" "size" "I"] ++ wsX10)
def wsX1_exchange : List Cond := .code yX1_exchange cX1_exchange 4 (some (.object "GrooveTurns$Disc")) :: ([.fieldLink RX1 11 "GrooveTurns$History" "ring" "[LGrooveTurns$Disc;"] ++ wsX10)
def wsX1_keep : List Cond := .code yX1_keep cX1_keep 3 (some (.object "GrooveTurns$Disc")) :: ([.fieldLink RX1 17 "GrooveTurns$History" "oldest" "I", .fieldLink RX1 21 "GrooveTurns$History" "size" "I", .methodLink RX1 24 yX1_exchange, .instanceMethod yX1_exchange, .selects RX1 yX1_exchange yX1_exchange, .initialized RX1, .code yX1_exchange cX1_exchange 4 (some (.object "GrooveTurns$Disc")), .fieldLink RX1 11 "GrooveTurns$History" "ring" "[LGrooveTurns$Disc;"] ++ wsX10)
def wsX1_takeBack : List Cond := .code yX1_takeBack cX1_takeBack 2 (some (.object "GrooveTurns$Disc")) :: ([.fieldLink RX1 21 "GrooveTurns$History" "size" "I", .fieldLink RX1 17 "GrooveTurns$History" "oldest" "I", .methodLink RX1 24 yX1_exchange, .instanceMethod yX1_exchange, .selects RX1 yX1_exchange yX1_exchange, .initialized RX1, .code yX1_exchange cX1_exchange 4 (some (.object "GrooveTurns$Disc")), .fieldLink RX1 11 "GrooveTurns$History" "ring" "[LGrooveTurns$Disc;"] ++ wsX10)
def wsX2_init : List Cond := .code yX2_init cX2_init 1 none :: ([.methodLink RX2 3 objectInit, .instanceMethod objectInit, .code objectInit ⟨#[0xb1]⟩ 1 none, .arrayClass .int, .fieldLink RX2 9 "GrooveTurns$Pad" "signs" "[I", .fieldLink RX2 15 "GrooveTurns$Pad" "length" "I"] ++ wsX20)
def wsX2_append : List Cond := .code yX2_append cX2_append 5 none :: ([.fieldLink RX2 9 "GrooveTurns$Pad" "signs" "[I", .fieldLink RX2 15 "GrooveTurns$Pad" "length" "I", .constantLong RX2 19 (255), .static yX4_lay, .initialized RX4, .code yX4_lay cX4_lay 3 none] ++ wsX20)
def wsX2_clear : List Cond := .code yX2_clear cX2_clear 1 none :: ([.fieldLink RX2 15 "GrooveTurns$Pad" "length" "I"] ++ wsX20)
def wsX2_signAt : List Cond := .code yX2_signAt cX2_signAt 2 (some .int) :: ([.fieldLink RX2 9 "GrooveTurns$Pad" "signs" "[I", .static yX4_at, .initialized RX4, .code yX4_at cX4_at 2 (some .int)] ++ wsX20)
def wsX3_init : List Cond := .code yX3_init cX3_init 1 none :: ([.methodLink RX3 3 objectInit, .instanceMethod objectInit, .code objectInit ⟨#[0xb1]⟩ 1 none, .arrayClass .int, .fieldLink RX3 9 "GrooveTurns$Requests" "addresses" "[I", .fieldLink RX3 15 "GrooveTurns$Requests" "numbers" "[I", .fieldLink RX3 18 "GrooveTurns$Requests" "tracks" "[I", .fieldLink RX3 21 "GrooveTurns$Requests" "size" "I", .fieldLink RX3 25 "GrooveTurns$Requests" "place" "I"] ++ wsX30)
def wsX3_takesKind : List Cond := .code yX3_takesKind cX3_takesKind 2 (some .boolean) :: ([.fieldLink RX3 15 "GrooveTurns$Requests" "numbers" "[I", .fieldLink RX3 21 "GrooveTurns$Requests" "size" "I", .fieldLink RX3 25 "GrooveTurns$Requests" "place" "I", .static yX4_lay, .initialized RX4, .code yX4_lay cX4_lay 3 none] ++ wsX30)
def wsX3_isDigit : List Cond := .code yX3_isDigit cX3_isDigit 1 (some .boolean) :: ([])
def wsX3_takesFirstDigit : List Cond := .code yX3_takesFirstDigit cX3_takesFirstDigit 4 (some .boolean) :: ([.fieldLink RX3 21 "GrooveTurns$Requests" "size" "I", .fieldLink RX3 25 "GrooveTurns$Requests" "place" "I", .methodLink RX3 65 yX3_isDigit, .static yX3_isDigit, .initialized RX3, .code yX3_isDigit cX3_isDigit 1 (some .boolean), .static yX4_lay, .initialized RX4, .code yX4_lay cX4_lay 3 none] ++ wsX30)
def wsX3_takesDigit : List Cond := .code yX3_takesDigit cX3_takesDigit 6 (some .boolean) :: ([.fieldLink RX3 21 "GrooveTurns$Requests" "size" "I", .static yX4_at, .initialized RX4, .code yX4_at cX4_at 2 (some .int), .methodLink RX3 65 yX3_isDigit, .static yX3_isDigit, .initialized RX3, .code yX3_isDigit cX3_isDigit 1 (some .boolean), .static yX4_lay, .code yX4_lay cX4_lay 3 none] ++ wsX30)
def wsX3_isWriting : List Cond := .code yX3_isWriting cX3_isWriting 2 (some .boolean) :: ([.fieldLink RX3 15 "GrooveTurns$Requests" "numbers" "[I", .static yX4_at, .initialized RX4, .code yX4_at cX4_at 2 (some .int)] ++ wsX30)
def wsX3_takesMark : List Cond := .code yX3_takesMark cX3_takesMark 4 (some .boolean) :: ([.fieldLink RX3 25 "GrooveTurns$Requests" "place" "I"] ++ wsX30)
def wsX3_takesEndOfAddress : List Cond := .code yX3_takesEndOfAddress cX3_takesEndOfAddress 2 (some .boolean) :: ([.fieldLink RX3 21 "GrooveTurns$Requests" "size" "I", .methodLink RX3 41 yX3_isWriting, .instanceMethod yX3_isWriting, .selects RX3 yX3_isWriting yX3_isWriting, .initialized RX3, .code yX3_isWriting cX3_isWriting 2 (some .boolean), .fieldLink RX3 15 "GrooveTurns$Requests" "numbers" "[I", .static yX4_at, .initialized RX4, .code yX4_at cX4_at 2 (some .int), .methodLink RX3 57 yX3_takesMark, .instanceMethod yX3_takesMark, .selects RX3 yX3_takesMark yX3_takesMark, .code yX3_takesMark cX3_takesMark 4 (some .boolean), .fieldLink RX3 25 "GrooveTurns$Requests" "place" "I"] ++ wsX30)
def wsX3_takes_r1 : List Cond := [Cond.fieldLink RX3 25 "GrooveTurns$Requests" "place" "I", Cond.fieldLink RX3 9 "GrooveTurns$Requests" "addresses" "[I", Cond.fieldLink RX3 15 "GrooveTurns$Requests" "numbers" "[I", Cond.methodLink RX3 44 yX3_takesKind, Cond.instanceMethod yX3_takesKind, Cond.selects RX3 yX3_takesKind yX3_takesKind, Cond.initialized RX3, Cond.code yX3_takesKind cX3_takesKind 2 (some .boolean), Cond.fieldLink RX3 21 "GrooveTurns$Requests" "size" "I", Cond.static yX4_lay, Cond.initialized RX4, Cond.code yX4_lay cX4_lay 3 none, Cond.methodLink RX3 47 yX3_takesFirstDigit, Cond.instanceMethod yX3_takesFirstDigit, Cond.selects RX3 yX3_takesFirstDigit yX3_takesFirstDigit, Cond.code yX3_takesFirstDigit cX3_takesFirstDigit 4 (some .boolean), Cond.methodLink RX3 65 yX3_isDigit, Cond.static yX3_isDigit, Cond.code yX3_isDigit cX3_isDigit 1 (some .boolean), Cond.methodLink RX3 51 yX3_takesDigit, Cond.instanceMethod yX3_takesDigit, Cond.selects RX3 yX3_takesDigit yX3_takesDigit, Cond.code yX3_takesDigit cX3_takesDigit 6 (some .boolean), Cond.static yX4_at]
def wsX3_takes_r2 : List Cond := [Cond.code yX4_at cX4_at 2 (some .int), Cond.methodLink RX3 54 yX3_takesEndOfAddress, Cond.instanceMethod yX3_takesEndOfAddress, Cond.selects RX3 yX3_takesEndOfAddress yX3_takesEndOfAddress, Cond.code yX3_takesEndOfAddress cX3_takesEndOfAddress 2 (some .boolean), Cond.methodLink RX3 41 yX3_isWriting, Cond.instanceMethod yX3_isWriting, Cond.selects RX3 yX3_isWriting yX3_isWriting, Cond.code yX3_isWriting cX3_isWriting 2 (some .boolean), Cond.methodLink RX3 57 yX3_takesMark, Cond.instanceMethod yX3_takesMark, Cond.selects RX3 yX3_takesMark yX3_takesMark, Cond.code yX3_takesMark cX3_takesMark 4 (some .boolean)]
def wsX3_takes : List Cond := .code yX3_takes cX3_takes 2 (some .boolean) :: ((wsX3_takes_r1 ++ wsX3_takes_r2) ++ wsX30)
def wsX3_parse_r1 : List Cond := [Cond.fieldLink RX3 21 "GrooveTurns$Requests" "size" "I", Cond.fieldLink RX3 25 "GrooveTurns$Requests" "place" "I", Cond.fieldLink RX3 28 "GrooveTurns$Pad" "length" "I", Cond.methodLink RX3 33 yX2_signAt, Cond.instanceMethod yX2_signAt, Cond.selects RX2 yX2_signAt yX2_signAt, Cond.initialized RX2, Cond.code yX2_signAt cX2_signAt 2 (some .int), Cond.fieldLink RX2 9 "GrooveTurns$Pad" "signs" "[I", Cond.static yX4_at, Cond.initialized RX4, Cond.code yX4_at cX4_at 2 (some .int), Cond.methodLink RX3 37 yX3_takes, Cond.instanceMethod yX3_takes, Cond.selects RX3 yX3_takes yX3_takes, Cond.initialized RX3, Cond.code yX3_takes cX3_takes 2 (some .boolean), Cond.fieldLink RX3 9 "GrooveTurns$Requests" "addresses" "[I", Cond.fieldLink RX3 15 "GrooveTurns$Requests" "numbers" "[I", Cond.methodLink RX3 44 yX3_takesKind, Cond.instanceMethod yX3_takesKind, Cond.selects RX3 yX3_takesKind yX3_takesKind, Cond.code yX3_takesKind cX3_takesKind 2 (some .boolean), Cond.static yX4_lay]
def wsX3_parse_r2 : List Cond := [Cond.code yX4_lay cX4_lay 3 none, Cond.methodLink RX3 47 yX3_takesFirstDigit, Cond.instanceMethod yX3_takesFirstDigit, Cond.selects RX3 yX3_takesFirstDigit yX3_takesFirstDigit, Cond.code yX3_takesFirstDigit cX3_takesFirstDigit 4 (some .boolean), Cond.methodLink RX3 65 yX3_isDigit, Cond.static yX3_isDigit, Cond.code yX3_isDigit cX3_isDigit 1 (some .boolean), Cond.methodLink RX3 51 yX3_takesDigit, Cond.instanceMethod yX3_takesDigit, Cond.selects RX3 yX3_takesDigit yX3_takesDigit, Cond.code yX3_takesDigit cX3_takesDigit 6 (some .boolean), Cond.methodLink RX3 54 yX3_takesEndOfAddress, Cond.instanceMethod yX3_takesEndOfAddress, Cond.selects RX3 yX3_takesEndOfAddress yX3_takesEndOfAddress, Cond.code yX3_takesEndOfAddress cX3_takesEndOfAddress 2 (some .boolean), Cond.methodLink RX3 41 yX3_isWriting, Cond.instanceMethod yX3_isWriting, Cond.selects RX3 yX3_isWriting yX3_isWriting, Cond.code yX3_isWriting cX3_isWriting 2 (some .boolean), Cond.methodLink RX3 57 yX3_takesMark, Cond.instanceMethod yX3_takesMark, Cond.selects RX3 yX3_takesMark yX3_takesMark, Cond.code yX3_takesMark cX3_takesMark 4 (some .boolean)]
def wsX3_parse : List Cond := .code yX3_parse cX3_parse 3 (some .int) :: ((wsX3_parse_r1 ++ wsX3_parse_r2) ++ wsX30 ++ wsX20)
def wsX3_noteTracks : List Cond := .code yX3_noteTracks cX3_noteTracks 5 none :: ([.fieldLink RX3 21 "GrooveTurns$Requests" "size" "I", .fieldLink RX3 9 "GrooveTurns$Requests" "addresses" "[I", .fieldLink RX3 18 "GrooveTurns$Requests" "tracks" "[I", .static yX4_at, .initialized RX4, .code yX4_at cX4_at 2 (some .int), .methodLink RX3 80 yX0_sectorFor, .instanceMethod yX0_sectorFor, .selects RX0 yX0_sectorFor yX0_sectorFor, .initialized RX0, .code yX0_sectorFor cX0_sectorFor 2 (some .int), .fieldLink RX0 27 "GrooveTurns$Disc" "sectors" "[I", .static yX4_trackOf, .code yX4_trackOf cX4_trackOf 1 (some .int), .static yX4_lay, .code yX4_lay cX4_lay 3 none] ++ wsX30 ++ wsX00)
def wsX3_doOne_r1 : List Cond := [Cond.fieldLink RX3 9 "GrooveTurns$Requests" "addresses" "[I", Cond.fieldLink RX3 15 "GrooveTurns$Requests" "numbers" "[I", Cond.static yX4_at, Cond.initialized RX4, Cond.code yX4_at cX4_at 2 (some .int), Cond.methodLink RX3 41 yX3_isWriting, Cond.instanceMethod yX3_isWriting, Cond.selects RX3 yX3_isWriting yX3_isWriting, Cond.initialized RX3, Cond.code yX3_isWriting cX3_isWriting 2 (some .boolean), Cond.methodLink RX3 88 yX0_writeTo, Cond.instanceMethod yX0_writeTo, Cond.selects RX0 yX0_writeTo yX0_writeTo, Cond.initialized RX0, Cond.code yX0_writeTo cX0_writeTo 5 (some .int), Cond.methodLink RX0 61 yX0_sectorToWrite, Cond.instanceMethod yX0_sectorToWrite, Cond.selects RX0 yX0_sectorToWrite yX0_sectorToWrite, Cond.code yX0_sectorToWrite cX0_sectorToWrite 4 (some .int), Cond.fieldLink RX0 30 "GrooveTurns$Disc" "sparesTaken" "I", Cond.methodLink RX0 82 yX0_sectorFor, Cond.instanceMethod yX0_sectorFor, Cond.selects RX0 yX0_sectorFor yX0_sectorFor, Cond.code yX0_sectorFor cX0_sectorFor 2 (some .int)]
def wsX3_doOne_r2 : List Cond := [Cond.fieldLink RX0 27 "GrooveTurns$Disc" "sectors" "[I", Cond.methodLink RX0 98 yX0_writingsOf, Cond.instanceMethod yX0_writingsOf, Cond.selects RX0 yX0_writingsOf yX0_writingsOf, Cond.code yX0_writingsOf cX0_writingsOf 2 (some .int), Cond.fieldLink RX0 24 "GrooveTurns$Disc" "writings" "[I", Cond.methodLink RX0 104 yX0_settingOf, Cond.instanceMethod yX0_settingOf, Cond.selects RX0 yX0_settingOf yX0_settingOf, Cond.code yX0_settingOf cX0_settingOf 2 (some .int), Cond.fieldLink RX0 13 "GrooveTurns$Disc" "settings" "[I", Cond.methodLink RX0 128 yX0_sparesLeft, Cond.instanceMethod yX0_sparesLeft, Cond.selects RX0 yX0_sparesLeft yX0_sparesLeft, Cond.code yX0_sparesLeft cX0_sparesLeft 1 (some .int), Cond.methodLink RX0 65 yX0_ticksTo, Cond.instanceMethod yX0_ticksTo, Cond.selects RX0 yX0_ticksTo yX0_ticksTo, Cond.code yX0_ticksTo cX0_ticksTo 4 (some .int), Cond.fieldLink RX0 37 "GrooveTurns$Disc" "ticks" "I", Cond.static yX4_trackOf, Cond.code yX4_trackOf cX4_trackOf 1 (some .int), Cond.methodLink RX0 91 yX0_ticksToTrack, Cond.instanceMethod yX0_ticksToTrack]
def wsX3_doOne_r3 : List Cond := [Cond.selects RX0 yX0_ticksToTrack yX0_ticksToTrack, Cond.code yX0_ticksToTrack cX0_ticksToTrack 2 (some .int), Cond.fieldLink RX0 40 "GrooveTurns$Disc" "head" "I", Cond.methodLink RX0 134 Lib.Math.abs.name, Cond.static Lib.Math.abs.name, Cond.initialized "java/lang/Math", Cond.code Lib.Math.abs.name Lib.Math.abs.code 1 (some .int), Cond.methodLink RX0 131 yJ9_floorMod_7cf53, Cond.static yJ9_floorMod_7cf53, Cond.initialized RJ9, Cond.code yJ9_floorMod_7cf53 cJ9_floorMod_7cf53 3 (some .int), Cond.methodLink RX0 68 yX0_hasTime, Cond.instanceMethod yX0_hasTime, Cond.selects RX0 yX0_hasTime yX0_hasTime, Cond.code yX0_hasTime cX0_hasTime 2 (some .boolean), Cond.constant RX0 137 (9999999), Cond.methodLink RX0 72 yX0_fill, Cond.instanceMethod yX0_fill, Cond.selects RX0 yX0_fill yX0_fill, Cond.code yX0_fill cX0_fill 4 none, Cond.fieldLink RX0 18 "GrooveTurns$Disc" "numbers" "[I", Cond.fieldLink RX0 21 "GrooveTurns$Disc" "blurs" "[I", Cond.static yX4_lay, Cond.code yX4_lay cX4_lay 3 none]
def wsX3_doOne_r4 : List Cond := [Cond.static yX4_isSpare, Cond.code yX4_isSpare cX4_isSpare 1 (some .boolean), Cond.methodLink RX0 107 yX0_blurBy, Cond.instanceMethod yX0_blurBy, Cond.selects RX0 yX0_blurBy yX0_blurBy, Cond.code yX0_blurBy cX0_blurBy 3 none, Cond.methodLink RX0 119 Lib.Math.min.name, Cond.static Lib.Math.min.name, Cond.code Lib.Math.min.name Lib.Math.min.code 2 (some .int), Cond.methodLink RX0 110 yX0_isOnTracksInUse, Cond.instanceMethod yX0_isOnTracksInUse, Cond.selects RX0 yX0_isOnTracksInUse yX0_isOnTracksInUse, Cond.code yX0_isOnTracksInUse cX0_isOnTracksInUse 2 (some .boolean), Cond.static yX4_isAddress, Cond.code yX4_isAddress cX4_isAddress 1 (some .boolean), Cond.methodLink RX0 113 yX0_holdsNumber, Cond.instanceMethod yX0_holdsNumber, Cond.selects RX0 yX0_holdsNumber yX0_holdsNumber, Cond.code yX0_holdsNumber cX0_holdsNumber 2 (some .boolean), Cond.methodLink RX0 116 yX0_blurOf, Cond.instanceMethod yX0_blurOf, Cond.selects RX0 yX0_blurOf yX0_blurOf, Cond.code yX0_blurOf cX0_blurOf 2 (some .int), Cond.methodLink RX0 78 yX0_pass]
def wsX3_doOne_r5 : List Cond := [Cond.instanceMethod yX0_pass, Cond.selects RX0 yX0_pass yX0_pass, Cond.code yX0_pass cX0_pass 3 none, Cond.methodLink RX3 92 yX0_readFrom, Cond.instanceMethod yX0_readFrom, Cond.selects RX0 yX0_readFrom yX0_readFrom, Cond.code yX0_readFrom cX0_readFrom 4 (some .int), Cond.fieldLink RX0 34 "GrooveTurns$Disc" "reads" "I", Cond.methodLink RX0 85 yX0_isReadable, Cond.instanceMethod yX0_isReadable, Cond.selects RX0 yX0_isReadable yX0_isReadable, Cond.code yX0_isReadable cX0_isReadable 2 (some .boolean), Cond.methodLink RX0 88 yX0_numberIn, Cond.instanceMethod yX0_numberIn, Cond.selects RX0 yX0_numberIn yX0_numberIn, Cond.code yX0_numberIn cX0_numberIn 2 (some .int)]
def wsX3_doOne : List Cond := .code yX3_doOne cX3_doOne 5 (some .int) :: ((wsX3_doOne_r1 ++ (wsX3_doOne_r2 ++ (wsX3_doOne_r3 ++ (wsX3_doOne_r4 ++ wsX3_doOne_r5)))) ++ wsX30 ++ wsX00)
def wsX3_doOn_r1 : List Cond := [Cond.fieldLink RX3 21 "GrooveTurns$Requests" "size" "I", Cond.fieldLink RX3 18 "GrooveTurns$Requests" "tracks" "[I", Cond.methodLink RX3 72 yX3_noteTracks, Cond.instanceMethod yX3_noteTracks, Cond.selects RX3 yX3_noteTracks yX3_noteTracks, Cond.initialized RX3, Cond.code yX3_noteTracks cX3_noteTracks 5 none, Cond.fieldLink RX3 9 "GrooveTurns$Requests" "addresses" "[I", Cond.static yX4_at, Cond.initialized RX4, Cond.code yX4_at cX4_at 2 (some .int), Cond.methodLink RX3 80 yX0_sectorFor, Cond.instanceMethod yX0_sectorFor, Cond.selects RX0 yX0_sectorFor yX0_sectorFor, Cond.initialized RX0, Cond.code yX0_sectorFor cX0_sectorFor 2 (some .int), Cond.fieldLink RX0 27 "GrooveTurns$Disc" "sectors" "[I", Cond.static yX4_trackOf, Cond.code yX4_trackOf cX4_trackOf 1 (some .int), Cond.static yX4_lay, Cond.code yX4_lay cX4_lay 3 none, Cond.methodLink RX3 76 yX3_doOne, Cond.instanceMethod yX3_doOne, Cond.selects RX3 yX3_doOne yX3_doOne]
def wsX3_doOn_r2 : List Cond := [Cond.code yX3_doOne cX3_doOne 5 (some .int), Cond.fieldLink RX3 15 "GrooveTurns$Requests" "numbers" "[I", Cond.methodLink RX3 41 yX3_isWriting, Cond.instanceMethod yX3_isWriting, Cond.selects RX3 yX3_isWriting yX3_isWriting, Cond.code yX3_isWriting cX3_isWriting 2 (some .boolean), Cond.methodLink RX3 88 yX0_writeTo, Cond.instanceMethod yX0_writeTo, Cond.selects RX0 yX0_writeTo yX0_writeTo, Cond.code yX0_writeTo cX0_writeTo 5 (some .int), Cond.methodLink RX0 61 yX0_sectorToWrite, Cond.instanceMethod yX0_sectorToWrite, Cond.selects RX0 yX0_sectorToWrite yX0_sectorToWrite, Cond.code yX0_sectorToWrite cX0_sectorToWrite 4 (some .int), Cond.fieldLink RX0 30 "GrooveTurns$Disc" "sparesTaken" "I", Cond.methodLink RX0 82 yX0_sectorFor, Cond.methodLink RX0 98 yX0_writingsOf, Cond.instanceMethod yX0_writingsOf, Cond.selects RX0 yX0_writingsOf yX0_writingsOf, Cond.code yX0_writingsOf cX0_writingsOf 2 (some .int), Cond.fieldLink RX0 24 "GrooveTurns$Disc" "writings" "[I", Cond.methodLink RX0 104 yX0_settingOf, Cond.instanceMethod yX0_settingOf, Cond.selects RX0 yX0_settingOf yX0_settingOf]
def wsX3_doOn_r3 : List Cond := [Cond.code yX0_settingOf cX0_settingOf 2 (some .int), Cond.fieldLink RX0 13 "GrooveTurns$Disc" "settings" "[I", Cond.methodLink RX0 128 yX0_sparesLeft, Cond.instanceMethod yX0_sparesLeft, Cond.selects RX0 yX0_sparesLeft yX0_sparesLeft, Cond.code yX0_sparesLeft cX0_sparesLeft 1 (some .int), Cond.methodLink RX0 65 yX0_ticksTo, Cond.instanceMethod yX0_ticksTo, Cond.selects RX0 yX0_ticksTo yX0_ticksTo, Cond.code yX0_ticksTo cX0_ticksTo 4 (some .int), Cond.fieldLink RX0 37 "GrooveTurns$Disc" "ticks" "I", Cond.methodLink RX0 91 yX0_ticksToTrack, Cond.instanceMethod yX0_ticksToTrack, Cond.selects RX0 yX0_ticksToTrack yX0_ticksToTrack, Cond.code yX0_ticksToTrack cX0_ticksToTrack 2 (some .int), Cond.fieldLink RX0 40 "GrooveTurns$Disc" "head" "I", Cond.methodLink RX0 134 Lib.Math.abs.name, Cond.static Lib.Math.abs.name, Cond.initialized "java/lang/Math", Cond.code Lib.Math.abs.name Lib.Math.abs.code 1 (some .int), Cond.methodLink RX0 131 yJ9_floorMod_7cf53, Cond.static yJ9_floorMod_7cf53, Cond.initialized RJ9, Cond.code yJ9_floorMod_7cf53 cJ9_floorMod_7cf53 3 (some .int)]
def wsX3_doOn_r4 : List Cond := [Cond.methodLink RX0 68 yX0_hasTime, Cond.instanceMethod yX0_hasTime, Cond.selects RX0 yX0_hasTime yX0_hasTime, Cond.code yX0_hasTime cX0_hasTime 2 (some .boolean), Cond.constant RX0 137 (9999999), Cond.methodLink RX0 72 yX0_fill, Cond.instanceMethod yX0_fill, Cond.selects RX0 yX0_fill yX0_fill, Cond.code yX0_fill cX0_fill 4 none, Cond.fieldLink RX0 18 "GrooveTurns$Disc" "numbers" "[I", Cond.fieldLink RX0 21 "GrooveTurns$Disc" "blurs" "[I", Cond.static yX4_isSpare, Cond.code yX4_isSpare cX4_isSpare 1 (some .boolean), Cond.methodLink RX0 107 yX0_blurBy, Cond.instanceMethod yX0_blurBy, Cond.selects RX0 yX0_blurBy yX0_blurBy, Cond.code yX0_blurBy cX0_blurBy 3 none, Cond.methodLink RX0 119 Lib.Math.min.name, Cond.static Lib.Math.min.name, Cond.code Lib.Math.min.name Lib.Math.min.code 2 (some .int), Cond.methodLink RX0 110 yX0_isOnTracksInUse, Cond.instanceMethod yX0_isOnTracksInUse, Cond.selects RX0 yX0_isOnTracksInUse yX0_isOnTracksInUse, Cond.code yX0_isOnTracksInUse cX0_isOnTracksInUse 2 (some .boolean)]
def wsX3_doOn_r5 : List Cond := [Cond.static yX4_isAddress, Cond.code yX4_isAddress cX4_isAddress 1 (some .boolean), Cond.methodLink RX0 113 yX0_holdsNumber, Cond.instanceMethod yX0_holdsNumber, Cond.selects RX0 yX0_holdsNumber yX0_holdsNumber, Cond.code yX0_holdsNumber cX0_holdsNumber 2 (some .boolean), Cond.methodLink RX0 116 yX0_blurOf, Cond.instanceMethod yX0_blurOf, Cond.selects RX0 yX0_blurOf yX0_blurOf, Cond.code yX0_blurOf cX0_blurOf 2 (some .int), Cond.methodLink RX0 78 yX0_pass, Cond.instanceMethod yX0_pass, Cond.selects RX0 yX0_pass yX0_pass, Cond.code yX0_pass cX0_pass 3 none, Cond.methodLink RX3 92 yX0_readFrom, Cond.instanceMethod yX0_readFrom, Cond.selects RX0 yX0_readFrom yX0_readFrom, Cond.code yX0_readFrom cX0_readFrom 4 (some .int), Cond.fieldLink RX0 34 "GrooveTurns$Disc" "reads" "I", Cond.methodLink RX0 85 yX0_isReadable, Cond.instanceMethod yX0_isReadable, Cond.selects RX0 yX0_isReadable yX0_isReadable, Cond.code yX0_isReadable cX0_isReadable 2 (some .boolean), Cond.methodLink RX0 88 yX0_numberIn]
def wsX3_doOn_r6 : List Cond := [Cond.instanceMethod yX0_numberIn, Cond.selects RX0 yX0_numberIn yX0_numberIn, Cond.code yX0_numberIn cX0_numberIn 2 (some .int)]
def wsX3_doOn : List Cond := .code yX3_doOn cX3_doOn 6 (some .int) :: ((wsX3_doOn_r1 ++ (wsX3_doOn_r2 ++ (wsX3_doOn_r3 ++ (wsX3_doOn_r4 ++ (wsX3_doOn_r5 ++ wsX3_doOn_r6))))) ++ wsX30 ++ wsX00)
def wsX4_init_r1 : List Cond := [Cond.methodLink RX4 3 objectInit, Cond.instanceMethod objectInit, Cond.code objectInit ⟨#[0xb1]⟩ 1 none, Cond.classLink RX4 9 RX0, Cond.instantiable RX0 9, Cond.initialized RX0, Cond.fieldLink RX4 12 "GrooveTurns" "disc" "LGrooveTurns$Disc;", Cond.fieldLink RX4 16 "GrooveTurns" "trial" "LGrooveTurns$Disc;", Cond.classLink RX4 19 RX2, Cond.instantiable RX2 2, Cond.initialized RX2, Cond.fieldLink RX4 22 "GrooveTurns" "pad" "LGrooveTurns$Pad;", Cond.classLink RX4 26 RX3, Cond.instantiable RX3 5, Cond.initialized RX3, Cond.fieldLink RX4 29 "GrooveTurns" "requests" "LGrooveTurns$Requests;", Cond.classLink RX4 33 RX1, Cond.instantiable RX1 3, Cond.initialized RX1, Cond.fieldLink RX4 36 "GrooveTurns" "history" "LGrooveTurns$History;", Cond.fieldLink RX4 40 "GrooveTurns" "slots" "[LGrooveTurns$Disc;", Cond.methodLink RX4 11 yX0_init, Cond.instanceMethod yX0_init, Cond.code yX0_init cX0_init 2 none]
def wsX4_init_r2 : List Cond := [Cond.methodLink RX0 3 objectInit, Cond.arrayClass .int, Cond.fieldLink RX0 13 "GrooveTurns$Disc" "settings" "[I", Cond.fieldLink RX0 18 "GrooveTurns$Disc" "numbers" "[I", Cond.fieldLink RX0 21 "GrooveTurns$Disc" "blurs" "[I", Cond.fieldLink RX0 24 "GrooveTurns$Disc" "writings" "[I", Cond.fieldLink RX0 27 "GrooveTurns$Disc" "sectors" "[I", Cond.fieldLink RX0 30 "GrooveTurns$Disc" "sparesTaken" "I", Cond.fieldLink RX0 34 "GrooveTurns$Disc" "reads" "I", Cond.fieldLink RX0 37 "GrooveTurns$Disc" "ticks" "I", Cond.fieldLink RX0 40 "GrooveTurns$Disc" "head" "I", Cond.static yX4_copyRow, Cond.initialized RX4, Cond.code yX4_copyRow cX4_copyRow 2 none, Cond.methodLink RX4 200 Lib.Math.min.name, Cond.static Lib.Math.min.name, Cond.initialized "java/lang/Math", Cond.code Lib.Math.min.name Lib.Math.min.code 2 (some .int), Cond.methodLink RX4 205 arraycopyName, Cond.native arraycopyName, Cond.static arraycopyName, Cond.initialized "java/lang/System", Cond.methodLink RX0 47 yJ7_fill_53178, Cond.static yJ7_fill_53178]
def wsX4_init_r3 : List Cond := [Cond.initialized RJ7, Cond.code yJ7_fill_53178 cJ7_fill_53178 4 none, Cond.instanceMethod yX2_init, Cond.code yX2_init cX2_init 1 none, Cond.methodLink RX2 3 objectInit, Cond.fieldLink RX2 9 "GrooveTurns$Pad" "signs" "[I", Cond.fieldLink RX2 15 "GrooveTurns$Pad" "length" "I", Cond.instanceMethod yX3_init, Cond.code yX3_init cX3_init 1 none, Cond.methodLink RX3 3 objectInit, Cond.fieldLink RX3 9 "GrooveTurns$Requests" "addresses" "[I", Cond.fieldLink RX3 15 "GrooveTurns$Requests" "numbers" "[I", Cond.fieldLink RX3 18 "GrooveTurns$Requests" "tracks" "[I", Cond.fieldLink RX3 21 "GrooveTurns$Requests" "size" "I", Cond.fieldLink RX3 25 "GrooveTurns$Requests" "place" "I", Cond.instanceMethod yX1_init, Cond.code yX1_init cX1_init 1 none, Cond.methodLink RX1 3 objectInit, Cond.classLink RX1 9 RX0, Cond.fieldLink RX1 11 "GrooveTurns$History" "ring" "[LGrooveTurns$Disc;", Cond.fieldLink RX1 17 "GrooveTurns$History" "oldest" "I", Cond.fieldLink RX1 21 "GrooveTurns$History" "size" "I"]
def wsX4_init : List Cond := .code yX4_init cX4_init 1 none :: ((wsX4_init_r1 ++ (wsX4_init_r2 ++ wsX4_init_r3)) ++ wsX00 ++ wsX40 ++ wsX20 ++ wsX30 ++ wsX10)
def wsX4_freshTrial_r1 : List Cond := [Cond.fieldLink RX4 16 "GrooveTurns" "trial" "LGrooveTurns$Disc;", Cond.fieldLink RX4 12 "GrooveTurns" "disc" "LGrooveTurns$Disc;", Cond.methodLink RX4 187 yX0_becomeLike, Cond.instanceMethod yX0_becomeLike, Cond.selects RX0 yX0_becomeLike yX0_becomeLike, Cond.initialized RX0, Cond.code yX0_becomeLike cX0_becomeLike 2 none, Cond.fieldLink RX0 13 "GrooveTurns$Disc" "settings" "[I", Cond.fieldLink RX0 18 "GrooveTurns$Disc" "numbers" "[I", Cond.fieldLink RX0 21 "GrooveTurns$Disc" "blurs" "[I", Cond.fieldLink RX0 24 "GrooveTurns$Disc" "writings" "[I", Cond.fieldLink RX0 27 "GrooveTurns$Disc" "sectors" "[I", Cond.fieldLink RX0 30 "GrooveTurns$Disc" "sparesTaken" "I", Cond.fieldLink RX0 34 "GrooveTurns$Disc" "reads" "I", Cond.fieldLink RX0 37 "GrooveTurns$Disc" "ticks" "I", Cond.fieldLink RX0 40 "GrooveTurns$Disc" "head" "I", Cond.static yX4_copyRow, Cond.initialized RX4, Cond.code yX4_copyRow cX4_copyRow 2 none, Cond.methodLink RX4 200 Lib.Math.min.name, Cond.static Lib.Math.min.name, Cond.initialized "java/lang/Math", Cond.code Lib.Math.min.name Lib.Math.min.code 2 (some .int), Cond.methodLink RX4 205 arraycopyName]
def wsX4_freshTrial_r2 : List Cond := [Cond.native arraycopyName, Cond.static arraycopyName, Cond.initialized "java/lang/System"]
def wsX4_freshTrial : List Cond := .code yX4_freshTrial cX4_freshTrial 1 (some (.object "GrooveTurns$Disc")) :: ((wsX4_freshTrial_r1 ++ wsX4_freshTrial_r2) ++ wsX40 ++ wsX00)
def wsX4_adopt_r1 : List Cond := [Cond.fieldLink RX4 36 "GrooveTurns" "history" "LGrooveTurns$History;", Cond.fieldLink RX4 12 "GrooveTurns" "disc" "LGrooveTurns$Disc;", Cond.fieldLink RX4 16 "GrooveTurns" "trial" "LGrooveTurns$Disc;", Cond.classLink RX4 9 RX0, Cond.instantiable RX0 9, Cond.initialized RX0, Cond.methodLink RX4 191 yX1_keep, Cond.instanceMethod yX1_keep, Cond.selects RX1 yX1_keep yX1_keep, Cond.initialized RX1, Cond.code yX1_keep cX1_keep 3 (some (.object "GrooveTurns$Disc")), Cond.fieldLink RX1 17 "GrooveTurns$History" "oldest" "I", Cond.fieldLink RX1 21 "GrooveTurns$History" "size" "I", Cond.methodLink RX1 24 yX1_exchange, Cond.instanceMethod yX1_exchange, Cond.selects RX1 yX1_exchange yX1_exchange, Cond.code yX1_exchange cX1_exchange 4 (some (.object "GrooveTurns$Disc")), Cond.fieldLink RX1 11 "GrooveTurns$History" "ring" "[LGrooveTurns$Disc;", Cond.methodLink RX4 11 yX0_init, Cond.instanceMethod yX0_init, Cond.code yX0_init cX0_init 2 none, Cond.methodLink RX0 3 objectInit, Cond.instanceMethod objectInit, Cond.code objectInit ⟨#[0xb1]⟩ 1 none]
def wsX4_adopt_r2 : List Cond := [Cond.arrayClass .int, Cond.fieldLink RX0 13 "GrooveTurns$Disc" "settings" "[I", Cond.fieldLink RX0 18 "GrooveTurns$Disc" "numbers" "[I", Cond.fieldLink RX0 21 "GrooveTurns$Disc" "blurs" "[I", Cond.fieldLink RX0 24 "GrooveTurns$Disc" "writings" "[I", Cond.fieldLink RX0 27 "GrooveTurns$Disc" "sectors" "[I", Cond.fieldLink RX0 30 "GrooveTurns$Disc" "sparesTaken" "I", Cond.fieldLink RX0 34 "GrooveTurns$Disc" "reads" "I", Cond.fieldLink RX0 37 "GrooveTurns$Disc" "ticks" "I", Cond.fieldLink RX0 40 "GrooveTurns$Disc" "head" "I", Cond.static yX4_copyRow, Cond.initialized RX4, Cond.code yX4_copyRow cX4_copyRow 2 none, Cond.methodLink RX4 200 Lib.Math.min.name, Cond.static Lib.Math.min.name, Cond.initialized "java/lang/Math", Cond.code Lib.Math.min.name Lib.Math.min.code 2 (some .int), Cond.methodLink RX4 205 arraycopyName, Cond.native arraycopyName, Cond.static arraycopyName, Cond.initialized "java/lang/System", Cond.methodLink RX0 47 yJ7_fill_53178, Cond.static yJ7_fill_53178, Cond.initialized RJ7]
def wsX4_adopt_r3 : List Cond := [Cond.code yJ7_fill_53178 cJ7_fill_53178 4 none]
def wsX4_adopt : List Cond := .code yX4_adopt cX4_adopt 3 (some .int) :: ((wsX4_adopt_r1 ++ (wsX4_adopt_r2 ++ wsX4_adopt_r3)) ++ wsX40 ++ wsX00 ++ wsX10)
def wsX4_set_r1 : List Cond := [Cond.fieldLink RX4 44 "GrooveTurns" "FIRST_SETTINGS" "[I", Cond.fieldLink RX4 48 "GrooveTurns" "LOWEST_SETTINGS" "[I", Cond.fieldLink RX4 55 "GrooveTurns" "HIGHEST_SETTINGS" "[I", Cond.methodLink RX4 51 yX4_at, Cond.static yX4_at, Cond.initialized RX4, Cond.code yX4_at cX4_at 2 (some .int), Cond.methodLink RX4 58 yX4_freshTrial, Cond.instanceMethod yX4_freshTrial, Cond.selects RX4 yX4_freshTrial yX4_freshTrial, Cond.code yX4_freshTrial cX4_freshTrial 1 (some (.object "GrooveTurns$Disc")), Cond.fieldLink RX4 16 "GrooveTurns" "trial" "LGrooveTurns$Disc;", Cond.fieldLink RX4 12 "GrooveTurns" "disc" "LGrooveTurns$Disc;", Cond.methodLink RX4 187 yX0_becomeLike, Cond.instanceMethod yX0_becomeLike, Cond.selects RX0 yX0_becomeLike yX0_becomeLike, Cond.initialized RX0, Cond.code yX0_becomeLike cX0_becomeLike 2 none, Cond.fieldLink RX0 13 "GrooveTurns$Disc" "settings" "[I", Cond.fieldLink RX0 18 "GrooveTurns$Disc" "numbers" "[I", Cond.fieldLink RX0 21 "GrooveTurns$Disc" "blurs" "[I", Cond.fieldLink RX0 24 "GrooveTurns$Disc" "writings" "[I", Cond.fieldLink RX0 27 "GrooveTurns$Disc" "sectors" "[I", Cond.fieldLink RX0 30 "GrooveTurns$Disc" "sparesTaken" "I"]
def wsX4_set_r2 : List Cond := [Cond.fieldLink RX0 34 "GrooveTurns$Disc" "reads" "I", Cond.fieldLink RX0 37 "GrooveTurns$Disc" "ticks" "I", Cond.fieldLink RX0 40 "GrooveTurns$Disc" "head" "I", Cond.static yX4_copyRow, Cond.code yX4_copyRow cX4_copyRow 2 none, Cond.methodLink RX4 200 Lib.Math.min.name, Cond.static Lib.Math.min.name, Cond.initialized "java/lang/Math", Cond.code Lib.Math.min.name Lib.Math.min.code 2 (some .int), Cond.methodLink RX4 205 arraycopyName, Cond.native arraycopyName, Cond.static arraycopyName, Cond.initialized "java/lang/System", Cond.methodLink RX4 62 yX0_exchangeSetting, Cond.instanceMethod yX0_exchangeSetting, Cond.selects RX0 yX0_exchangeSetting yX0_exchangeSetting, Cond.code yX0_exchangeSetting cX0_exchangeSetting 4 (some .int), Cond.static yX4_lay, Cond.code yX4_lay cX4_lay 3 none, Cond.methodLink RX4 66 yX4_adopt, Cond.instanceMethod yX4_adopt, Cond.selects RX4 yX4_adopt yX4_adopt, Cond.code yX4_adopt cX4_adopt 3 (some .int), Cond.fieldLink RX4 36 "GrooveTurns" "history" "LGrooveTurns$History;"]
def wsX4_set_r3 : List Cond := [Cond.classLink RX4 9 RX0, Cond.instantiable RX0 9, Cond.methodLink RX4 191 yX1_keep, Cond.instanceMethod yX1_keep, Cond.selects RX1 yX1_keep yX1_keep, Cond.initialized RX1, Cond.code yX1_keep cX1_keep 3 (some (.object "GrooveTurns$Disc")), Cond.fieldLink RX1 17 "GrooveTurns$History" "oldest" "I", Cond.fieldLink RX1 21 "GrooveTurns$History" "size" "I", Cond.methodLink RX1 24 yX1_exchange, Cond.instanceMethod yX1_exchange, Cond.selects RX1 yX1_exchange yX1_exchange, Cond.code yX1_exchange cX1_exchange 4 (some (.object "GrooveTurns$Disc")), Cond.fieldLink RX1 11 "GrooveTurns$History" "ring" "[LGrooveTurns$Disc;", Cond.methodLink RX4 11 yX0_init, Cond.instanceMethod yX0_init, Cond.code yX0_init cX0_init 2 none, Cond.methodLink RX0 3 objectInit, Cond.instanceMethod objectInit, Cond.code objectInit ⟨#[0xb1]⟩ 1 none, Cond.arrayClass .int, Cond.methodLink RX0 47 yJ7_fill_53178, Cond.static yJ7_fill_53178, Cond.initialized RJ7]
def wsX4_set_r4 : List Cond := [Cond.code yJ7_fill_53178 cJ7_fill_53178 4 none]
def wsX4_set : List Cond := .code yX4_set cX4_set 3 (some .int) :: ((wsX4_set_r1 ++ (wsX4_set_r2 ++ (wsX4_set_r3 ++ wsX4_set_r4))) ++ wsX40 ++ wsX00 ++ wsX10)
def wsX4_write_r1 : List Cond := [Cond.methodLink RX4 70 yX4_isAddress, Cond.static yX4_isAddress, Cond.initialized RX4, Cond.code yX4_isAddress cX4_isAddress 1 (some .boolean), Cond.methodLink RX4 58 yX4_freshTrial, Cond.instanceMethod yX4_freshTrial, Cond.selects RX4 yX4_freshTrial yX4_freshTrial, Cond.code yX4_freshTrial cX4_freshTrial 1 (some (.object "GrooveTurns$Disc")), Cond.fieldLink RX4 16 "GrooveTurns" "trial" "LGrooveTurns$Disc;", Cond.fieldLink RX4 12 "GrooveTurns" "disc" "LGrooveTurns$Disc;", Cond.methodLink RX4 187 yX0_becomeLike, Cond.instanceMethod yX0_becomeLike, Cond.selects RX0 yX0_becomeLike yX0_becomeLike, Cond.initialized RX0, Cond.code yX0_becomeLike cX0_becomeLike 2 none, Cond.fieldLink RX0 13 "GrooveTurns$Disc" "settings" "[I", Cond.fieldLink RX0 18 "GrooveTurns$Disc" "numbers" "[I", Cond.fieldLink RX0 21 "GrooveTurns$Disc" "blurs" "[I", Cond.fieldLink RX0 24 "GrooveTurns$Disc" "writings" "[I", Cond.fieldLink RX0 27 "GrooveTurns$Disc" "sectors" "[I", Cond.fieldLink RX0 30 "GrooveTurns$Disc" "sparesTaken" "I", Cond.fieldLink RX0 34 "GrooveTurns$Disc" "reads" "I", Cond.fieldLink RX0 37 "GrooveTurns$Disc" "ticks" "I", Cond.fieldLink RX0 40 "GrooveTurns$Disc" "head" "I"]
def wsX4_write_r2 : List Cond := [Cond.static yX4_copyRow, Cond.code yX4_copyRow cX4_copyRow 2 none, Cond.methodLink RX4 200 Lib.Math.min.name, Cond.static Lib.Math.min.name, Cond.initialized "java/lang/Math", Cond.code Lib.Math.min.name Lib.Math.min.code 2 (some .int), Cond.methodLink RX4 205 arraycopyName, Cond.native arraycopyName, Cond.static arraycopyName, Cond.initialized "java/lang/System", Cond.methodLink RX4 74 yX0_writeTo, Cond.instanceMethod yX0_writeTo, Cond.selects RX0 yX0_writeTo yX0_writeTo, Cond.code yX0_writeTo cX0_writeTo 5 (some .int), Cond.methodLink RX0 61 yX0_sectorToWrite, Cond.instanceMethod yX0_sectorToWrite, Cond.selects RX0 yX0_sectorToWrite yX0_sectorToWrite, Cond.code yX0_sectorToWrite cX0_sectorToWrite 4 (some .int), Cond.methodLink RX0 82 yX0_sectorFor, Cond.instanceMethod yX0_sectorFor, Cond.selects RX0 yX0_sectorFor yX0_sectorFor, Cond.code yX0_sectorFor cX0_sectorFor 2 (some .int), Cond.static yX4_at, Cond.code yX4_at cX4_at 2 (some .int)]
def wsX4_write_r3 : List Cond := [Cond.methodLink RX0 98 yX0_writingsOf, Cond.instanceMethod yX0_writingsOf, Cond.selects RX0 yX0_writingsOf yX0_writingsOf, Cond.code yX0_writingsOf cX0_writingsOf 2 (some .int), Cond.methodLink RX0 104 yX0_settingOf, Cond.instanceMethod yX0_settingOf, Cond.selects RX0 yX0_settingOf yX0_settingOf, Cond.code yX0_settingOf cX0_settingOf 2 (some .int), Cond.methodLink RX0 128 yX0_sparesLeft, Cond.instanceMethod yX0_sparesLeft, Cond.selects RX0 yX0_sparesLeft yX0_sparesLeft, Cond.code yX0_sparesLeft cX0_sparesLeft 1 (some .int), Cond.methodLink RX0 65 yX0_ticksTo, Cond.instanceMethod yX0_ticksTo, Cond.selects RX0 yX0_ticksTo yX0_ticksTo, Cond.code yX0_ticksTo cX0_ticksTo 4 (some .int), Cond.static yX4_trackOf, Cond.code yX4_trackOf cX4_trackOf 1 (some .int), Cond.methodLink RX0 91 yX0_ticksToTrack, Cond.instanceMethod yX0_ticksToTrack, Cond.selects RX0 yX0_ticksToTrack yX0_ticksToTrack, Cond.code yX0_ticksToTrack cX0_ticksToTrack 2 (some .int), Cond.methodLink RX0 134 Lib.Math.abs.name, Cond.static Lib.Math.abs.name]
def wsX4_write_r4 : List Cond := [Cond.code Lib.Math.abs.name Lib.Math.abs.code 1 (some .int), Cond.methodLink RX0 131 yJ9_floorMod_7cf53, Cond.static yJ9_floorMod_7cf53, Cond.initialized RJ9, Cond.code yJ9_floorMod_7cf53 cJ9_floorMod_7cf53 3 (some .int), Cond.methodLink RX0 68 yX0_hasTime, Cond.instanceMethod yX0_hasTime, Cond.selects RX0 yX0_hasTime yX0_hasTime, Cond.code yX0_hasTime cX0_hasTime 2 (some .boolean), Cond.constant RX0 137 (9999999), Cond.methodLink RX0 72 yX0_fill, Cond.instanceMethod yX0_fill, Cond.selects RX0 yX0_fill yX0_fill, Cond.code yX0_fill cX0_fill 4 none, Cond.static yX4_lay, Cond.code yX4_lay cX4_lay 3 none, Cond.static yX4_isSpare, Cond.code yX4_isSpare cX4_isSpare 1 (some .boolean), Cond.methodLink RX0 107 yX0_blurBy, Cond.instanceMethod yX0_blurBy, Cond.selects RX0 yX0_blurBy yX0_blurBy, Cond.code yX0_blurBy cX0_blurBy 3 none, Cond.methodLink RX0 119 Lib.Math.min.name, Cond.methodLink RX0 110 yX0_isOnTracksInUse]
def wsX4_write_r5 : List Cond := [Cond.instanceMethod yX0_isOnTracksInUse, Cond.selects RX0 yX0_isOnTracksInUse yX0_isOnTracksInUse, Cond.code yX0_isOnTracksInUse cX0_isOnTracksInUse 2 (some .boolean), Cond.methodLink RX0 113 yX0_holdsNumber, Cond.instanceMethod yX0_holdsNumber, Cond.selects RX0 yX0_holdsNumber yX0_holdsNumber, Cond.code yX0_holdsNumber cX0_holdsNumber 2 (some .boolean), Cond.methodLink RX0 116 yX0_blurOf, Cond.instanceMethod yX0_blurOf, Cond.selects RX0 yX0_blurOf yX0_blurOf, Cond.code yX0_blurOf cX0_blurOf 2 (some .int), Cond.methodLink RX0 78 yX0_pass, Cond.instanceMethod yX0_pass, Cond.selects RX0 yX0_pass yX0_pass, Cond.code yX0_pass cX0_pass 3 none, Cond.methodLink RX4 66 yX4_adopt, Cond.instanceMethod yX4_adopt, Cond.selects RX4 yX4_adopt yX4_adopt, Cond.code yX4_adopt cX4_adopt 3 (some .int), Cond.fieldLink RX4 36 "GrooveTurns" "history" "LGrooveTurns$History;", Cond.classLink RX4 9 RX0, Cond.instantiable RX0 9, Cond.methodLink RX4 191 yX1_keep, Cond.instanceMethod yX1_keep]
def wsX4_write_r6 : List Cond := [Cond.selects RX1 yX1_keep yX1_keep, Cond.initialized RX1, Cond.code yX1_keep cX1_keep 3 (some (.object "GrooveTurns$Disc")), Cond.fieldLink RX1 17 "GrooveTurns$History" "oldest" "I", Cond.fieldLink RX1 21 "GrooveTurns$History" "size" "I", Cond.methodLink RX1 24 yX1_exchange, Cond.instanceMethod yX1_exchange, Cond.selects RX1 yX1_exchange yX1_exchange, Cond.code yX1_exchange cX1_exchange 4 (some (.object "GrooveTurns$Disc")), Cond.fieldLink RX1 11 "GrooveTurns$History" "ring" "[LGrooveTurns$Disc;", Cond.methodLink RX4 11 yX0_init, Cond.instanceMethod yX0_init, Cond.code yX0_init cX0_init 2 none, Cond.methodLink RX0 3 objectInit, Cond.instanceMethod objectInit, Cond.code objectInit ⟨#[0xb1]⟩ 1 none, Cond.arrayClass .int, Cond.methodLink RX0 47 yJ7_fill_53178, Cond.static yJ7_fill_53178, Cond.initialized RJ7, Cond.code yJ7_fill_53178 cJ7_fill_53178 4 none]
def wsX4_write : List Cond := .code yX4_write cX4_write 3 (some .int) :: ((wsX4_write_r1 ++ (wsX4_write_r2 ++ (wsX4_write_r3 ++ (wsX4_write_r4 ++ (wsX4_write_r5 ++ wsX4_write_r6))))) ++ wsX40 ++ wsX00 ++ wsX10)
def wsX4_read_r1 : List Cond := [Cond.methodLink RX4 70 yX4_isAddress, Cond.static yX4_isAddress, Cond.initialized RX4, Cond.code yX4_isAddress cX4_isAddress 1 (some .boolean), Cond.methodLink RX4 58 yX4_freshTrial, Cond.instanceMethod yX4_freshTrial, Cond.selects RX4 yX4_freshTrial yX4_freshTrial, Cond.code yX4_freshTrial cX4_freshTrial 1 (some (.object "GrooveTurns$Disc")), Cond.fieldLink RX4 16 "GrooveTurns" "trial" "LGrooveTurns$Disc;", Cond.fieldLink RX4 12 "GrooveTurns" "disc" "LGrooveTurns$Disc;", Cond.methodLink RX4 187 yX0_becomeLike, Cond.instanceMethod yX0_becomeLike, Cond.selects RX0 yX0_becomeLike yX0_becomeLike, Cond.initialized RX0, Cond.code yX0_becomeLike cX0_becomeLike 2 none, Cond.fieldLink RX0 13 "GrooveTurns$Disc" "settings" "[I", Cond.fieldLink RX0 18 "GrooveTurns$Disc" "numbers" "[I", Cond.fieldLink RX0 21 "GrooveTurns$Disc" "blurs" "[I", Cond.fieldLink RX0 24 "GrooveTurns$Disc" "writings" "[I", Cond.fieldLink RX0 27 "GrooveTurns$Disc" "sectors" "[I", Cond.fieldLink RX0 30 "GrooveTurns$Disc" "sparesTaken" "I", Cond.fieldLink RX0 34 "GrooveTurns$Disc" "reads" "I", Cond.fieldLink RX0 37 "GrooveTurns$Disc" "ticks" "I", Cond.fieldLink RX0 40 "GrooveTurns$Disc" "head" "I"]
def wsX4_read_r2 : List Cond := [Cond.static yX4_copyRow, Cond.code yX4_copyRow cX4_copyRow 2 none, Cond.methodLink RX4 200 Lib.Math.min.name, Cond.static Lib.Math.min.name, Cond.initialized "java/lang/Math", Cond.code Lib.Math.min.name Lib.Math.min.code 2 (some .int), Cond.methodLink RX4 205 arraycopyName, Cond.native arraycopyName, Cond.static arraycopyName, Cond.initialized "java/lang/System", Cond.methodLink RX4 77 yX0_readFrom, Cond.instanceMethod yX0_readFrom, Cond.selects RX0 yX0_readFrom yX0_readFrom, Cond.code yX0_readFrom cX0_readFrom 4 (some .int), Cond.methodLink RX0 82 yX0_sectorFor, Cond.instanceMethod yX0_sectorFor, Cond.selects RX0 yX0_sectorFor yX0_sectorFor, Cond.code yX0_sectorFor cX0_sectorFor 2 (some .int), Cond.static yX4_at, Cond.code yX4_at cX4_at 2 (some .int), Cond.methodLink RX0 85 yX0_isReadable, Cond.instanceMethod yX0_isReadable, Cond.selects RX0 yX0_isReadable yX0_isReadable, Cond.code yX0_isReadable cX0_isReadable 2 (some .boolean)]
def wsX4_read_r3 : List Cond := [Cond.methodLink RX0 113 yX0_holdsNumber, Cond.instanceMethod yX0_holdsNumber, Cond.selects RX0 yX0_holdsNumber yX0_holdsNumber, Cond.code yX0_holdsNumber cX0_holdsNumber 2 (some .boolean), Cond.methodLink RX0 116 yX0_blurOf, Cond.instanceMethod yX0_blurOf, Cond.selects RX0 yX0_blurOf yX0_blurOf, Cond.code yX0_blurOf cX0_blurOf 2 (some .int), Cond.methodLink RX0 104 yX0_settingOf, Cond.instanceMethod yX0_settingOf, Cond.selects RX0 yX0_settingOf yX0_settingOf, Cond.code yX0_settingOf cX0_settingOf 2 (some .int), Cond.methodLink RX0 65 yX0_ticksTo, Cond.instanceMethod yX0_ticksTo, Cond.selects RX0 yX0_ticksTo yX0_ticksTo, Cond.code yX0_ticksTo cX0_ticksTo 4 (some .int), Cond.static yX4_trackOf, Cond.code yX4_trackOf cX4_trackOf 1 (some .int), Cond.methodLink RX0 91 yX0_ticksToTrack, Cond.instanceMethod yX0_ticksToTrack, Cond.selects RX0 yX0_ticksToTrack yX0_ticksToTrack, Cond.code yX0_ticksToTrack cX0_ticksToTrack 2 (some .int), Cond.methodLink RX0 134 Lib.Math.abs.name, Cond.static Lib.Math.abs.name]
def wsX4_read_r4 : List Cond := [Cond.code Lib.Math.abs.name Lib.Math.abs.code 1 (some .int), Cond.methodLink RX0 131 yJ9_floorMod_7cf53, Cond.static yJ9_floorMod_7cf53, Cond.initialized RJ9, Cond.code yJ9_floorMod_7cf53 cJ9_floorMod_7cf53 3 (some .int), Cond.methodLink RX0 68 yX0_hasTime, Cond.instanceMethod yX0_hasTime, Cond.selects RX0 yX0_hasTime yX0_hasTime, Cond.code yX0_hasTime cX0_hasTime 2 (some .boolean), Cond.constant RX0 137 (9999999), Cond.methodLink RX0 78 yX0_pass, Cond.instanceMethod yX0_pass, Cond.selects RX0 yX0_pass yX0_pass, Cond.code yX0_pass cX0_pass 3 none, Cond.methodLink RX0 88 yX0_numberIn, Cond.instanceMethod yX0_numberIn, Cond.selects RX0 yX0_numberIn yX0_numberIn, Cond.code yX0_numberIn cX0_numberIn 2 (some .int), Cond.methodLink RX4 66 yX4_adopt, Cond.instanceMethod yX4_adopt, Cond.selects RX4 yX4_adopt yX4_adopt, Cond.code yX4_adopt cX4_adopt 3 (some .int), Cond.fieldLink RX4 36 "GrooveTurns" "history" "LGrooveTurns$History;", Cond.classLink RX4 9 RX0]
def wsX4_read_r5 : List Cond := [Cond.instantiable RX0 9, Cond.methodLink RX4 191 yX1_keep, Cond.instanceMethod yX1_keep, Cond.selects RX1 yX1_keep yX1_keep, Cond.initialized RX1, Cond.code yX1_keep cX1_keep 3 (some (.object "GrooveTurns$Disc")), Cond.fieldLink RX1 17 "GrooveTurns$History" "oldest" "I", Cond.fieldLink RX1 21 "GrooveTurns$History" "size" "I", Cond.methodLink RX1 24 yX1_exchange, Cond.instanceMethod yX1_exchange, Cond.selects RX1 yX1_exchange yX1_exchange, Cond.code yX1_exchange cX1_exchange 4 (some (.object "GrooveTurns$Disc")), Cond.fieldLink RX1 11 "GrooveTurns$History" "ring" "[LGrooveTurns$Disc;", Cond.methodLink RX4 11 yX0_init, Cond.instanceMethod yX0_init, Cond.code yX0_init cX0_init 2 none, Cond.methodLink RX0 3 objectInit, Cond.instanceMethod objectInit, Cond.code objectInit ⟨#[0xb1]⟩ 1 none, Cond.arrayClass .int, Cond.methodLink RX0 47 yJ7_fill_53178, Cond.static yJ7_fill_53178, Cond.initialized RJ7, Cond.code yJ7_fill_53178 cJ7_fill_53178 4 none]
def wsX4_read : List Cond := .code yX4_read cX4_read 2 (some .int) :: ((wsX4_read_r1 ++ (wsX4_read_r2 ++ (wsX4_read_r3 ++ (wsX4_read_r4 ++ wsX4_read_r5)))) ++ wsX40 ++ wsX00 ++ wsX10)
def wsX4_refresh_r1 : List Cond := [Cond.fieldLink RX4 12 "GrooveTurns" "disc" "LGrooveTurns$Disc;", Cond.methodLink RX4 70 yX4_isAddress, Cond.static yX4_isAddress, Cond.initialized RX4, Cond.code yX4_isAddress cX4_isAddress 1 (some .boolean), Cond.methodLink RX4 80 yX0_sectorFor, Cond.instanceMethod yX0_sectorFor, Cond.selects RX0 yX0_sectorFor yX0_sectorFor, Cond.initialized RX0, Cond.code yX0_sectorFor cX0_sectorFor 2 (some .int), Cond.fieldLink RX0 27 "GrooveTurns$Disc" "sectors" "[I", Cond.static yX4_at, Cond.code yX4_at cX4_at 2 (some .int), Cond.methodLink RX4 83 yX0_blurOf, Cond.instanceMethod yX0_blurOf, Cond.selects RX0 yX0_blurOf yX0_blurOf, Cond.code yX0_blurOf cX0_blurOf 2 (some .int), Cond.fieldLink RX0 21 "GrooveTurns$Disc" "blurs" "[I", Cond.methodLink RX4 58 yX4_freshTrial, Cond.instanceMethod yX4_freshTrial, Cond.selects RX4 yX4_freshTrial yX4_freshTrial, Cond.code yX4_freshTrial cX4_freshTrial 1 (some (.object "GrooveTurns$Disc")), Cond.fieldLink RX4 16 "GrooveTurns" "trial" "LGrooveTurns$Disc;", Cond.methodLink RX4 187 yX0_becomeLike]
def wsX4_refresh_r2 : List Cond := [Cond.instanceMethod yX0_becomeLike, Cond.selects RX0 yX0_becomeLike yX0_becomeLike, Cond.code yX0_becomeLike cX0_becomeLike 2 none, Cond.fieldLink RX0 13 "GrooveTurns$Disc" "settings" "[I", Cond.fieldLink RX0 18 "GrooveTurns$Disc" "numbers" "[I", Cond.fieldLink RX0 24 "GrooveTurns$Disc" "writings" "[I", Cond.fieldLink RX0 30 "GrooveTurns$Disc" "sparesTaken" "I", Cond.fieldLink RX0 34 "GrooveTurns$Disc" "reads" "I", Cond.fieldLink RX0 37 "GrooveTurns$Disc" "ticks" "I", Cond.fieldLink RX0 40 "GrooveTurns$Disc" "head" "I", Cond.static yX4_copyRow, Cond.code yX4_copyRow cX4_copyRow 2 none, Cond.methodLink RX4 200 Lib.Math.min.name, Cond.static Lib.Math.min.name, Cond.initialized "java/lang/Math", Cond.code Lib.Math.min.name Lib.Math.min.code 2 (some .int), Cond.methodLink RX4 205 arraycopyName, Cond.native arraycopyName, Cond.static arraycopyName, Cond.initialized "java/lang/System", Cond.methodLink RX4 77 yX0_readFrom, Cond.instanceMethod yX0_readFrom, Cond.selects RX0 yX0_readFrom yX0_readFrom, Cond.code yX0_readFrom cX0_readFrom 4 (some .int)]
def wsX4_refresh_r3 : List Cond := [Cond.methodLink RX0 82 yX0_sectorFor, Cond.methodLink RX0 85 yX0_isReadable, Cond.instanceMethod yX0_isReadable, Cond.selects RX0 yX0_isReadable yX0_isReadable, Cond.code yX0_isReadable cX0_isReadable 2 (some .boolean), Cond.methodLink RX0 113 yX0_holdsNumber, Cond.instanceMethod yX0_holdsNumber, Cond.selects RX0 yX0_holdsNumber yX0_holdsNumber, Cond.code yX0_holdsNumber cX0_holdsNumber 2 (some .boolean), Cond.methodLink RX0 116 yX0_blurOf, Cond.methodLink RX0 104 yX0_settingOf, Cond.instanceMethod yX0_settingOf, Cond.selects RX0 yX0_settingOf yX0_settingOf, Cond.code yX0_settingOf cX0_settingOf 2 (some .int), Cond.methodLink RX0 65 yX0_ticksTo, Cond.instanceMethod yX0_ticksTo, Cond.selects RX0 yX0_ticksTo yX0_ticksTo, Cond.code yX0_ticksTo cX0_ticksTo 4 (some .int), Cond.static yX4_trackOf, Cond.code yX4_trackOf cX4_trackOf 1 (some .int), Cond.methodLink RX0 91 yX0_ticksToTrack, Cond.instanceMethod yX0_ticksToTrack, Cond.selects RX0 yX0_ticksToTrack yX0_ticksToTrack, Cond.code yX0_ticksToTrack cX0_ticksToTrack 2 (some .int)]
def wsX4_refresh_r4 : List Cond := [Cond.methodLink RX0 134 Lib.Math.abs.name, Cond.static Lib.Math.abs.name, Cond.code Lib.Math.abs.name Lib.Math.abs.code 1 (some .int), Cond.methodLink RX0 131 yJ9_floorMod_7cf53, Cond.static yJ9_floorMod_7cf53, Cond.initialized RJ9, Cond.code yJ9_floorMod_7cf53 cJ9_floorMod_7cf53 3 (some .int), Cond.methodLink RX0 68 yX0_hasTime, Cond.instanceMethod yX0_hasTime, Cond.selects RX0 yX0_hasTime yX0_hasTime, Cond.code yX0_hasTime cX0_hasTime 2 (some .boolean), Cond.constant RX0 137 (9999999), Cond.methodLink RX0 78 yX0_pass, Cond.instanceMethod yX0_pass, Cond.selects RX0 yX0_pass yX0_pass, Cond.code yX0_pass cX0_pass 3 none, Cond.methodLink RX0 88 yX0_numberIn, Cond.instanceMethod yX0_numberIn, Cond.selects RX0 yX0_numberIn yX0_numberIn, Cond.code yX0_numberIn cX0_numberIn 2 (some .int), Cond.methodLink RX4 74 yX0_writeTo, Cond.instanceMethod yX0_writeTo, Cond.selects RX0 yX0_writeTo yX0_writeTo, Cond.code yX0_writeTo cX0_writeTo 5 (some .int)]
def wsX4_refresh_r5 : List Cond := [Cond.methodLink RX0 61 yX0_sectorToWrite, Cond.instanceMethod yX0_sectorToWrite, Cond.selects RX0 yX0_sectorToWrite yX0_sectorToWrite, Cond.code yX0_sectorToWrite cX0_sectorToWrite 4 (some .int), Cond.methodLink RX0 98 yX0_writingsOf, Cond.instanceMethod yX0_writingsOf, Cond.selects RX0 yX0_writingsOf yX0_writingsOf, Cond.code yX0_writingsOf cX0_writingsOf 2 (some .int), Cond.methodLink RX0 128 yX0_sparesLeft, Cond.instanceMethod yX0_sparesLeft, Cond.selects RX0 yX0_sparesLeft yX0_sparesLeft, Cond.code yX0_sparesLeft cX0_sparesLeft 1 (some .int), Cond.methodLink RX0 72 yX0_fill, Cond.instanceMethod yX0_fill, Cond.selects RX0 yX0_fill yX0_fill, Cond.code yX0_fill cX0_fill 4 none, Cond.static yX4_lay, Cond.code yX4_lay cX4_lay 3 none, Cond.static yX4_isSpare, Cond.code yX4_isSpare cX4_isSpare 1 (some .boolean), Cond.methodLink RX0 107 yX0_blurBy, Cond.instanceMethod yX0_blurBy, Cond.selects RX0 yX0_blurBy yX0_blurBy, Cond.code yX0_blurBy cX0_blurBy 3 none]
def wsX4_refresh_r6 : List Cond := [Cond.methodLink RX0 119 Lib.Math.min.name, Cond.methodLink RX0 110 yX0_isOnTracksInUse, Cond.instanceMethod yX0_isOnTracksInUse, Cond.selects RX0 yX0_isOnTracksInUse yX0_isOnTracksInUse, Cond.code yX0_isOnTracksInUse cX0_isOnTracksInUse 2 (some .boolean), Cond.methodLink RX4 66 yX4_adopt, Cond.instanceMethod yX4_adopt, Cond.selects RX4 yX4_adopt yX4_adopt, Cond.code yX4_adopt cX4_adopt 3 (some .int), Cond.fieldLink RX4 36 "GrooveTurns" "history" "LGrooveTurns$History;", Cond.classLink RX4 9 RX0, Cond.instantiable RX0 9, Cond.methodLink RX4 191 yX1_keep, Cond.instanceMethod yX1_keep, Cond.selects RX1 yX1_keep yX1_keep, Cond.initialized RX1, Cond.code yX1_keep cX1_keep 3 (some (.object "GrooveTurns$Disc")), Cond.fieldLink RX1 17 "GrooveTurns$History" "oldest" "I", Cond.fieldLink RX1 21 "GrooveTurns$History" "size" "I", Cond.methodLink RX1 24 yX1_exchange, Cond.instanceMethod yX1_exchange, Cond.selects RX1 yX1_exchange yX1_exchange, Cond.code yX1_exchange cX1_exchange 4 (some (.object "GrooveTurns$Disc")), Cond.fieldLink RX1 11 "GrooveTurns$History" "ring" "[LGrooveTurns$Disc;"]
def wsX4_refresh_r7 : List Cond := [Cond.methodLink RX4 11 yX0_init, Cond.instanceMethod yX0_init, Cond.code yX0_init cX0_init 2 none, Cond.methodLink RX0 3 objectInit, Cond.instanceMethod objectInit, Cond.code objectInit ⟨#[0xb1]⟩ 1 none, Cond.arrayClass .int, Cond.methodLink RX0 47 yJ7_fill_53178, Cond.static yJ7_fill_53178, Cond.initialized RJ7, Cond.code yJ7_fill_53178 cJ7_fill_53178 4 none]
def wsX4_refresh : List Cond := .code yX4_refresh cX4_refresh 6 (some .int) :: ((wsX4_refresh_r1 ++ (wsX4_refresh_r2 ++ (wsX4_refresh_r3 ++ (wsX4_refresh_r4 ++ (wsX4_refresh_r5 ++ (wsX4_refresh_r6 ++ wsX4_refresh_r7)))))) ++ wsX40 ++ wsX00 ++ wsX10)
def wsX4_isTrack : List Cond := .code yX4_isTrack cX4_isTrack 1 (some .boolean) :: ([])
def wsX4_seek_r1 : List Cond := [Cond.methodLink RX4 86 yX4_isTrack, Cond.static yX4_isTrack, Cond.initialized RX4, Cond.code yX4_isTrack cX4_isTrack 1 (some .boolean), Cond.methodLink RX4 58 yX4_freshTrial, Cond.instanceMethod yX4_freshTrial, Cond.selects RX4 yX4_freshTrial yX4_freshTrial, Cond.code yX4_freshTrial cX4_freshTrial 1 (some (.object "GrooveTurns$Disc")), Cond.fieldLink RX4 16 "GrooveTurns" "trial" "LGrooveTurns$Disc;", Cond.fieldLink RX4 12 "GrooveTurns" "disc" "LGrooveTurns$Disc;", Cond.methodLink RX4 187 yX0_becomeLike, Cond.instanceMethod yX0_becomeLike, Cond.selects RX0 yX0_becomeLike yX0_becomeLike, Cond.initialized RX0, Cond.code yX0_becomeLike cX0_becomeLike 2 none, Cond.fieldLink RX0 13 "GrooveTurns$Disc" "settings" "[I", Cond.fieldLink RX0 18 "GrooveTurns$Disc" "numbers" "[I", Cond.fieldLink RX0 21 "GrooveTurns$Disc" "blurs" "[I", Cond.fieldLink RX0 24 "GrooveTurns$Disc" "writings" "[I", Cond.fieldLink RX0 27 "GrooveTurns$Disc" "sectors" "[I", Cond.fieldLink RX0 30 "GrooveTurns$Disc" "sparesTaken" "I", Cond.fieldLink RX0 34 "GrooveTurns$Disc" "reads" "I", Cond.fieldLink RX0 37 "GrooveTurns$Disc" "ticks" "I", Cond.fieldLink RX0 40 "GrooveTurns$Disc" "head" "I"]
def wsX4_seek_r2 : List Cond := [Cond.static yX4_copyRow, Cond.code yX4_copyRow cX4_copyRow 2 none, Cond.methodLink RX4 200 Lib.Math.min.name, Cond.static Lib.Math.min.name, Cond.initialized "java/lang/Math", Cond.code Lib.Math.min.name Lib.Math.min.code 2 (some .int), Cond.methodLink RX4 205 arraycopyName, Cond.native arraycopyName, Cond.static arraycopyName, Cond.initialized "java/lang/System", Cond.methodLink RX4 89 yX0_moveHead, Cond.instanceMethod yX0_moveHead, Cond.selects RX0 yX0_moveHead yX0_moveHead, Cond.code yX0_moveHead cX0_moveHead 3 (some .int), Cond.methodLink RX0 91 yX0_ticksToTrack, Cond.instanceMethod yX0_ticksToTrack, Cond.selects RX0 yX0_ticksToTrack yX0_ticksToTrack, Cond.code yX0_ticksToTrack cX0_ticksToTrack 2 (some .int), Cond.methodLink RX0 134 Lib.Math.abs.name, Cond.static Lib.Math.abs.name, Cond.code Lib.Math.abs.name Lib.Math.abs.code 1 (some .int), Cond.methodLink RX0 104 yX0_settingOf, Cond.instanceMethod yX0_settingOf, Cond.selects RX0 yX0_settingOf yX0_settingOf]
def wsX4_seek_r3 : List Cond := [Cond.code yX0_settingOf cX0_settingOf 2 (some .int), Cond.static yX4_at, Cond.code yX4_at cX4_at 2 (some .int), Cond.methodLink RX0 68 yX0_hasTime, Cond.instanceMethod yX0_hasTime, Cond.selects RX0 yX0_hasTime yX0_hasTime, Cond.code yX0_hasTime cX0_hasTime 2 (some .boolean), Cond.constant RX0 137 (9999999), Cond.methodLink RX0 78 yX0_pass, Cond.instanceMethod yX0_pass, Cond.selects RX0 yX0_pass yX0_pass, Cond.code yX0_pass cX0_pass 3 none, Cond.methodLink RX4 66 yX4_adopt, Cond.instanceMethod yX4_adopt, Cond.selects RX4 yX4_adopt yX4_adopt, Cond.code yX4_adopt cX4_adopt 3 (some .int), Cond.fieldLink RX4 36 "GrooveTurns" "history" "LGrooveTurns$History;", Cond.classLink RX4 9 RX0, Cond.instantiable RX0 9, Cond.methodLink RX4 191 yX1_keep, Cond.instanceMethod yX1_keep, Cond.selects RX1 yX1_keep yX1_keep, Cond.initialized RX1, Cond.code yX1_keep cX1_keep 3 (some (.object "GrooveTurns$Disc"))]
def wsX4_seek_r4 : List Cond := [Cond.fieldLink RX1 17 "GrooveTurns$History" "oldest" "I", Cond.fieldLink RX1 21 "GrooveTurns$History" "size" "I", Cond.methodLink RX1 24 yX1_exchange, Cond.instanceMethod yX1_exchange, Cond.selects RX1 yX1_exchange yX1_exchange, Cond.code yX1_exchange cX1_exchange 4 (some (.object "GrooveTurns$Disc")), Cond.fieldLink RX1 11 "GrooveTurns$History" "ring" "[LGrooveTurns$Disc;", Cond.methodLink RX4 11 yX0_init, Cond.instanceMethod yX0_init, Cond.code yX0_init cX0_init 2 none, Cond.methodLink RX0 3 objectInit, Cond.instanceMethod objectInit, Cond.code objectInit ⟨#[0xb1]⟩ 1 none, Cond.arrayClass .int, Cond.methodLink RX0 47 yJ7_fill_53178, Cond.static yJ7_fill_53178, Cond.initialized RJ7, Cond.code yJ7_fill_53178 cJ7_fill_53178 4 none]
def wsX4_seek : List Cond := .code yX4_seek cX4_seek 2 (some .int) :: ((wsX4_seek_r1 ++ (wsX4_seek_r2 ++ (wsX4_seek_r3 ++ wsX4_seek_r4))) ++ wsX40 ++ wsX00 ++ wsX10)
def wsX4_idle_r1 : List Cond := [Cond.methodLink RX4 58 yX4_freshTrial, Cond.instanceMethod yX4_freshTrial, Cond.selects RX4 yX4_freshTrial yX4_freshTrial, Cond.initialized RX4, Cond.code yX4_freshTrial cX4_freshTrial 1 (some (.object "GrooveTurns$Disc")), Cond.fieldLink RX4 16 "GrooveTurns" "trial" "LGrooveTurns$Disc;", Cond.fieldLink RX4 12 "GrooveTurns" "disc" "LGrooveTurns$Disc;", Cond.methodLink RX4 187 yX0_becomeLike, Cond.instanceMethod yX0_becomeLike, Cond.selects RX0 yX0_becomeLike yX0_becomeLike, Cond.initialized RX0, Cond.code yX0_becomeLike cX0_becomeLike 2 none, Cond.fieldLink RX0 13 "GrooveTurns$Disc" "settings" "[I", Cond.fieldLink RX0 18 "GrooveTurns$Disc" "numbers" "[I", Cond.fieldLink RX0 21 "GrooveTurns$Disc" "blurs" "[I", Cond.fieldLink RX0 24 "GrooveTurns$Disc" "writings" "[I", Cond.fieldLink RX0 27 "GrooveTurns$Disc" "sectors" "[I", Cond.fieldLink RX0 30 "GrooveTurns$Disc" "sparesTaken" "I", Cond.fieldLink RX0 34 "GrooveTurns$Disc" "reads" "I", Cond.fieldLink RX0 37 "GrooveTurns$Disc" "ticks" "I", Cond.fieldLink RX0 40 "GrooveTurns$Disc" "head" "I", Cond.static yX4_copyRow, Cond.code yX4_copyRow cX4_copyRow 2 none, Cond.methodLink RX4 200 Lib.Math.min.name]
def wsX4_idle_r2 : List Cond := [Cond.static Lib.Math.min.name, Cond.initialized "java/lang/Math", Cond.code Lib.Math.min.name Lib.Math.min.code 2 (some .int), Cond.methodLink RX4 205 arraycopyName, Cond.native arraycopyName, Cond.static arraycopyName, Cond.initialized "java/lang/System", Cond.methodLink RX4 92 yX0_waitFor, Cond.instanceMethod yX0_waitFor, Cond.selects RX0 yX0_waitFor yX0_waitFor, Cond.code yX0_waitFor cX0_waitFor 2 (some .int), Cond.methodLink RX0 68 yX0_hasTime, Cond.instanceMethod yX0_hasTime, Cond.selects RX0 yX0_hasTime yX0_hasTime, Cond.code yX0_hasTime cX0_hasTime 2 (some .boolean), Cond.constant RX0 137 (9999999), Cond.methodLink RX0 78 yX0_pass, Cond.instanceMethod yX0_pass, Cond.selects RX0 yX0_pass yX0_pass, Cond.code yX0_pass cX0_pass 3 none, Cond.methodLink RX0 94 yX0_sectorUnderHead, Cond.instanceMethod yX0_sectorUnderHead, Cond.selects RX0 yX0_sectorUnderHead yX0_sectorUnderHead, Cond.code yX0_sectorUnderHead cX0_sectorUnderHead 1 (some .int)]
def wsX4_idle_r3 : List Cond := [Cond.methodLink RX4 66 yX4_adopt, Cond.instanceMethod yX4_adopt, Cond.selects RX4 yX4_adopt yX4_adopt, Cond.code yX4_adopt cX4_adopt 3 (some .int), Cond.fieldLink RX4 36 "GrooveTurns" "history" "LGrooveTurns$History;", Cond.classLink RX4 9 RX0, Cond.instantiable RX0 9, Cond.methodLink RX4 191 yX1_keep, Cond.instanceMethod yX1_keep, Cond.selects RX1 yX1_keep yX1_keep, Cond.initialized RX1, Cond.code yX1_keep cX1_keep 3 (some (.object "GrooveTurns$Disc")), Cond.fieldLink RX1 17 "GrooveTurns$History" "oldest" "I", Cond.fieldLink RX1 21 "GrooveTurns$History" "size" "I", Cond.methodLink RX1 24 yX1_exchange, Cond.instanceMethod yX1_exchange, Cond.selects RX1 yX1_exchange yX1_exchange, Cond.code yX1_exchange cX1_exchange 4 (some (.object "GrooveTurns$Disc")), Cond.fieldLink RX1 11 "GrooveTurns$History" "ring" "[LGrooveTurns$Disc;", Cond.methodLink RX4 11 yX0_init, Cond.instanceMethod yX0_init, Cond.code yX0_init cX0_init 2 none, Cond.methodLink RX0 3 objectInit, Cond.instanceMethod objectInit]
def wsX4_idle_r4 : List Cond := [Cond.code objectInit ⟨#[0xb1]⟩ 1 none, Cond.arrayClass .int, Cond.methodLink RX0 47 yJ7_fill_53178, Cond.static yJ7_fill_53178, Cond.initialized RJ7, Cond.code yJ7_fill_53178 cJ7_fill_53178 4 none]
def wsX4_idle : List Cond := .code yX4_idle cX4_idle 2 (some .int) :: ((wsX4_idle_r1 ++ (wsX4_idle_r2 ++ (wsX4_idle_r3 ++ wsX4_idle_r4))) ++ wsX40 ++ wsX00 ++ wsX10)
def wsX4_run_r1 : List Cond := [Cond.fieldLink RX4 29 "GrooveTurns" "requests" "LGrooveTurns$Requests;", Cond.fieldLink RX4 22 "GrooveTurns" "pad" "LGrooveTurns$Pad;", Cond.methodLink RX4 95 yX3_parse, Cond.instanceMethod yX3_parse, Cond.selects RX3 yX3_parse yX3_parse, Cond.initialized RX3, Cond.code yX3_parse cX3_parse 3 (some .int), Cond.fieldLink RX3 21 "GrooveTurns$Requests" "size" "I", Cond.fieldLink RX3 25 "GrooveTurns$Requests" "place" "I", Cond.fieldLink RX3 28 "GrooveTurns$Pad" "length" "I", Cond.methodLink RX3 33 yX2_signAt, Cond.instanceMethod yX2_signAt, Cond.selects RX2 yX2_signAt yX2_signAt, Cond.initialized RX2, Cond.code yX2_signAt cX2_signAt 2 (some .int), Cond.fieldLink RX2 9 "GrooveTurns$Pad" "signs" "[I", Cond.static yX4_at, Cond.initialized RX4, Cond.code yX4_at cX4_at 2 (some .int), Cond.methodLink RX3 37 yX3_takes, Cond.instanceMethod yX3_takes, Cond.selects RX3 yX3_takes yX3_takes, Cond.code yX3_takes cX3_takes 2 (some .boolean), Cond.fieldLink RX3 9 "GrooveTurns$Requests" "addresses" "[I"]
def wsX4_run_r2 : List Cond := [Cond.fieldLink RX3 15 "GrooveTurns$Requests" "numbers" "[I", Cond.methodLink RX3 44 yX3_takesKind, Cond.instanceMethod yX3_takesKind, Cond.selects RX3 yX3_takesKind yX3_takesKind, Cond.code yX3_takesKind cX3_takesKind 2 (some .boolean), Cond.static yX4_lay, Cond.code yX4_lay cX4_lay 3 none, Cond.methodLink RX3 47 yX3_takesFirstDigit, Cond.instanceMethod yX3_takesFirstDigit, Cond.selects RX3 yX3_takesFirstDigit yX3_takesFirstDigit, Cond.code yX3_takesFirstDigit cX3_takesFirstDigit 4 (some .boolean), Cond.methodLink RX3 65 yX3_isDigit, Cond.static yX3_isDigit, Cond.code yX3_isDigit cX3_isDigit 1 (some .boolean), Cond.methodLink RX3 51 yX3_takesDigit, Cond.instanceMethod yX3_takesDigit, Cond.selects RX3 yX3_takesDigit yX3_takesDigit, Cond.code yX3_takesDigit cX3_takesDigit 6 (some .boolean), Cond.methodLink RX3 54 yX3_takesEndOfAddress, Cond.instanceMethod yX3_takesEndOfAddress, Cond.selects RX3 yX3_takesEndOfAddress yX3_takesEndOfAddress, Cond.code yX3_takesEndOfAddress cX3_takesEndOfAddress 2 (some .boolean), Cond.methodLink RX3 41 yX3_isWriting, Cond.instanceMethod yX3_isWriting]
def wsX4_run_r3 : List Cond := [Cond.selects RX3 yX3_isWriting yX3_isWriting, Cond.code yX3_isWriting cX3_isWriting 2 (some .boolean), Cond.methodLink RX3 57 yX3_takesMark, Cond.instanceMethod yX3_takesMark, Cond.selects RX3 yX3_takesMark yX3_takesMark, Cond.code yX3_takesMark cX3_takesMark 4 (some .boolean), Cond.methodLink RX4 58 yX4_freshTrial, Cond.instanceMethod yX4_freshTrial, Cond.selects RX4 yX4_freshTrial yX4_freshTrial, Cond.code yX4_freshTrial cX4_freshTrial 1 (some (.object "GrooveTurns$Disc")), Cond.fieldLink RX4 16 "GrooveTurns" "trial" "LGrooveTurns$Disc;", Cond.fieldLink RX4 12 "GrooveTurns" "disc" "LGrooveTurns$Disc;", Cond.methodLink RX4 187 yX0_becomeLike, Cond.instanceMethod yX0_becomeLike, Cond.selects RX0 yX0_becomeLike yX0_becomeLike, Cond.initialized RX0, Cond.code yX0_becomeLike cX0_becomeLike 2 none, Cond.fieldLink RX0 13 "GrooveTurns$Disc" "settings" "[I", Cond.fieldLink RX0 18 "GrooveTurns$Disc" "numbers" "[I", Cond.fieldLink RX0 21 "GrooveTurns$Disc" "blurs" "[I", Cond.fieldLink RX0 24 "GrooveTurns$Disc" "writings" "[I", Cond.fieldLink RX0 27 "GrooveTurns$Disc" "sectors" "[I", Cond.fieldLink RX0 30 "GrooveTurns$Disc" "sparesTaken" "I", Cond.fieldLink RX0 34 "GrooveTurns$Disc" "reads" "I"]
def wsX4_run_r4 : List Cond := [Cond.fieldLink RX0 37 "GrooveTurns$Disc" "ticks" "I", Cond.fieldLink RX0 40 "GrooveTurns$Disc" "head" "I", Cond.static yX4_copyRow, Cond.code yX4_copyRow cX4_copyRow 2 none, Cond.methodLink RX4 200 Lib.Math.min.name, Cond.static Lib.Math.min.name, Cond.initialized "java/lang/Math", Cond.code Lib.Math.min.name Lib.Math.min.code 2 (some .int), Cond.methodLink RX4 205 arraycopyName, Cond.native arraycopyName, Cond.static arraycopyName, Cond.initialized "java/lang/System", Cond.methodLink RX4 99 yX3_doOn, Cond.instanceMethod yX3_doOn, Cond.selects RX3 yX3_doOn yX3_doOn, Cond.code yX3_doOn cX3_doOn 6 (some .int), Cond.fieldLink RX3 18 "GrooveTurns$Requests" "tracks" "[I", Cond.methodLink RX3 72 yX3_noteTracks, Cond.instanceMethod yX3_noteTracks, Cond.selects RX3 yX3_noteTracks yX3_noteTracks, Cond.code yX3_noteTracks cX3_noteTracks 5 none, Cond.methodLink RX3 80 yX0_sectorFor, Cond.instanceMethod yX0_sectorFor, Cond.selects RX0 yX0_sectorFor yX0_sectorFor]
def wsX4_run_r5 : List Cond := [Cond.code yX0_sectorFor cX0_sectorFor 2 (some .int), Cond.static yX4_trackOf, Cond.code yX4_trackOf cX4_trackOf 1 (some .int), Cond.methodLink RX3 76 yX3_doOne, Cond.instanceMethod yX3_doOne, Cond.selects RX3 yX3_doOne yX3_doOne, Cond.code yX3_doOne cX3_doOne 5 (some .int), Cond.methodLink RX3 88 yX0_writeTo, Cond.instanceMethod yX0_writeTo, Cond.selects RX0 yX0_writeTo yX0_writeTo, Cond.code yX0_writeTo cX0_writeTo 5 (some .int), Cond.methodLink RX0 61 yX0_sectorToWrite, Cond.instanceMethod yX0_sectorToWrite, Cond.selects RX0 yX0_sectorToWrite yX0_sectorToWrite, Cond.code yX0_sectorToWrite cX0_sectorToWrite 4 (some .int), Cond.methodLink RX0 82 yX0_sectorFor, Cond.methodLink RX0 98 yX0_writingsOf, Cond.instanceMethod yX0_writingsOf, Cond.selects RX0 yX0_writingsOf yX0_writingsOf, Cond.code yX0_writingsOf cX0_writingsOf 2 (some .int), Cond.methodLink RX0 104 yX0_settingOf, Cond.instanceMethod yX0_settingOf, Cond.selects RX0 yX0_settingOf yX0_settingOf, Cond.code yX0_settingOf cX0_settingOf 2 (some .int)]
def wsX4_run_r6 : List Cond := [Cond.methodLink RX0 128 yX0_sparesLeft, Cond.instanceMethod yX0_sparesLeft, Cond.selects RX0 yX0_sparesLeft yX0_sparesLeft, Cond.code yX0_sparesLeft cX0_sparesLeft 1 (some .int), Cond.methodLink RX0 65 yX0_ticksTo, Cond.instanceMethod yX0_ticksTo, Cond.selects RX0 yX0_ticksTo yX0_ticksTo, Cond.code yX0_ticksTo cX0_ticksTo 4 (some .int), Cond.methodLink RX0 91 yX0_ticksToTrack, Cond.instanceMethod yX0_ticksToTrack, Cond.selects RX0 yX0_ticksToTrack yX0_ticksToTrack, Cond.code yX0_ticksToTrack cX0_ticksToTrack 2 (some .int), Cond.methodLink RX0 134 Lib.Math.abs.name, Cond.static Lib.Math.abs.name, Cond.code Lib.Math.abs.name Lib.Math.abs.code 1 (some .int), Cond.methodLink RX0 131 yJ9_floorMod_7cf53, Cond.static yJ9_floorMod_7cf53, Cond.initialized RJ9, Cond.code yJ9_floorMod_7cf53 cJ9_floorMod_7cf53 3 (some .int), Cond.methodLink RX0 68 yX0_hasTime, Cond.instanceMethod yX0_hasTime, Cond.selects RX0 yX0_hasTime yX0_hasTime, Cond.code yX0_hasTime cX0_hasTime 2 (some .boolean), Cond.constant RX0 137 (9999999)]
def wsX4_run_r7 : List Cond := [Cond.methodLink RX0 72 yX0_fill, Cond.instanceMethod yX0_fill, Cond.selects RX0 yX0_fill yX0_fill, Cond.code yX0_fill cX0_fill 4 none, Cond.static yX4_isSpare, Cond.code yX4_isSpare cX4_isSpare 1 (some .boolean), Cond.methodLink RX0 107 yX0_blurBy, Cond.instanceMethod yX0_blurBy, Cond.selects RX0 yX0_blurBy yX0_blurBy, Cond.code yX0_blurBy cX0_blurBy 3 none, Cond.methodLink RX0 119 Lib.Math.min.name, Cond.methodLink RX0 110 yX0_isOnTracksInUse, Cond.instanceMethod yX0_isOnTracksInUse, Cond.selects RX0 yX0_isOnTracksInUse yX0_isOnTracksInUse, Cond.code yX0_isOnTracksInUse cX0_isOnTracksInUse 2 (some .boolean), Cond.static yX4_isAddress, Cond.code yX4_isAddress cX4_isAddress 1 (some .boolean), Cond.methodLink RX0 113 yX0_holdsNumber, Cond.instanceMethod yX0_holdsNumber, Cond.selects RX0 yX0_holdsNumber yX0_holdsNumber, Cond.code yX0_holdsNumber cX0_holdsNumber 2 (some .boolean), Cond.methodLink RX0 116 yX0_blurOf, Cond.instanceMethod yX0_blurOf, Cond.selects RX0 yX0_blurOf yX0_blurOf]
def wsX4_run_r8 : List Cond := [Cond.code yX0_blurOf cX0_blurOf 2 (some .int), Cond.methodLink RX0 78 yX0_pass, Cond.instanceMethod yX0_pass, Cond.selects RX0 yX0_pass yX0_pass, Cond.code yX0_pass cX0_pass 3 none, Cond.methodLink RX3 92 yX0_readFrom, Cond.instanceMethod yX0_readFrom, Cond.selects RX0 yX0_readFrom yX0_readFrom, Cond.code yX0_readFrom cX0_readFrom 4 (some .int), Cond.methodLink RX0 85 yX0_isReadable, Cond.instanceMethod yX0_isReadable, Cond.selects RX0 yX0_isReadable yX0_isReadable, Cond.code yX0_isReadable cX0_isReadable 2 (some .boolean), Cond.methodLink RX0 88 yX0_numberIn, Cond.instanceMethod yX0_numberIn, Cond.selects RX0 yX0_numberIn yX0_numberIn, Cond.code yX0_numberIn cX0_numberIn 2 (some .int), Cond.methodLink RX4 103 yX2_clear, Cond.instanceMethod yX2_clear, Cond.selects RX2 yX2_clear yX2_clear, Cond.code yX2_clear cX2_clear 1 none, Cond.fieldLink RX2 15 "GrooveTurns$Pad" "length" "I", Cond.methodLink RX4 66 yX4_adopt, Cond.instanceMethod yX4_adopt]
def wsX4_run_r9 : List Cond := [Cond.selects RX4 yX4_adopt yX4_adopt, Cond.code yX4_adopt cX4_adopt 3 (some .int), Cond.fieldLink RX4 36 "GrooveTurns" "history" "LGrooveTurns$History;", Cond.classLink RX4 9 RX0, Cond.instantiable RX0 9, Cond.methodLink RX4 191 yX1_keep, Cond.instanceMethod yX1_keep, Cond.selects RX1 yX1_keep yX1_keep, Cond.initialized RX1, Cond.code yX1_keep cX1_keep 3 (some (.object "GrooveTurns$Disc")), Cond.fieldLink RX1 17 "GrooveTurns$History" "oldest" "I", Cond.fieldLink RX1 21 "GrooveTurns$History" "size" "I", Cond.methodLink RX1 24 yX1_exchange, Cond.instanceMethod yX1_exchange, Cond.selects RX1 yX1_exchange yX1_exchange, Cond.code yX1_exchange cX1_exchange 4 (some (.object "GrooveTurns$Disc")), Cond.fieldLink RX1 11 "GrooveTurns$History" "ring" "[LGrooveTurns$Disc;", Cond.methodLink RX4 11 yX0_init, Cond.instanceMethod yX0_init, Cond.code yX0_init cX0_init 2 none, Cond.methodLink RX0 3 objectInit, Cond.instanceMethod objectInit, Cond.code objectInit ⟨#[0xb1]⟩ 1 none, Cond.arrayClass .int]
def wsX4_run_r10 : List Cond := [Cond.methodLink RX0 47 yJ7_fill_53178, Cond.static yJ7_fill_53178, Cond.initialized RJ7, Cond.code yJ7_fill_53178 cJ7_fill_53178 4 none]
def wsX4_run : List Cond := .code yX4_run cX4_run 3 (some .int) :: ((wsX4_run_r1 ++ (wsX4_run_r2 ++ (wsX4_run_r3 ++ (wsX4_run_r4 ++ (wsX4_run_r5 ++ (wsX4_run_r6 ++ (wsX4_run_r7 ++ (wsX4_run_r8 ++ (wsX4_run_r9 ++ wsX4_run_r10))))))))) ++ wsX40 ++ wsX30 ++ wsX20 ++ wsX00 ++ wsX10)
def wsX4_sector_r1 : List Cond := [Cond.fieldLink RX4 12 "GrooveTurns" "disc" "LGrooveTurns$Disc;", Cond.methodLink RX4 70 yX4_isAddress, Cond.static yX4_isAddress, Cond.initialized RX4, Cond.code yX4_isAddress cX4_isAddress 1 (some .boolean), Cond.methodLink RX4 80 yX0_sectorFor, Cond.instanceMethod yX0_sectorFor, Cond.selects RX0 yX0_sectorFor yX0_sectorFor, Cond.initialized RX0, Cond.code yX0_sectorFor cX0_sectorFor 2 (some .int), Cond.fieldLink RX0 27 "GrooveTurns$Disc" "sectors" "[I", Cond.static yX4_at, Cond.code yX4_at cX4_at 2 (some .int), Cond.methodLink RX4 106 yX4_trackOf, Cond.static yX4_trackOf, Cond.code yX4_trackOf cX4_trackOf 1 (some .int), Cond.methodLink RX4 109 yX0_numberIn, Cond.instanceMethod yX0_numberIn, Cond.selects RX0 yX0_numberIn yX0_numberIn, Cond.code yX0_numberIn cX0_numberIn 2 (some .int), Cond.fieldLink RX0 18 "GrooveTurns$Disc" "numbers" "[I", Cond.methodLink RX4 83 yX0_blurOf, Cond.instanceMethod yX0_blurOf, Cond.selects RX0 yX0_blurOf yX0_blurOf]
def wsX4_sector_r2 : List Cond := [Cond.code yX0_blurOf cX0_blurOf 2 (some .int), Cond.fieldLink RX0 21 "GrooveTurns$Disc" "blurs" "[I", Cond.methodLink RX4 112 yX0_writingsOf, Cond.instanceMethod yX0_writingsOf, Cond.selects RX0 yX0_writingsOf yX0_writingsOf, Cond.code yX0_writingsOf cX0_writingsOf 2 (some .int), Cond.fieldLink RX0 24 "GrooveTurns$Disc" "writings" "[I", Cond.methodLink RX4 115 yX4_isSpare, Cond.static yX4_isSpare, Cond.code yX4_isSpare cX4_isSpare 1 (some .boolean), Cond.methodLink RX4 118 yX0_isReadable, Cond.instanceMethod yX0_isReadable, Cond.selects RX0 yX0_isReadable yX0_isReadable, Cond.code yX0_isReadable cX0_isReadable 2 (some .boolean), Cond.methodLink RX0 113 yX0_holdsNumber, Cond.instanceMethod yX0_holdsNumber, Cond.selects RX0 yX0_holdsNumber yX0_holdsNumber, Cond.code yX0_holdsNumber cX0_holdsNumber 2 (some .boolean), Cond.methodLink RX0 116 yX0_blurOf, Cond.methodLink RX0 104 yX0_settingOf, Cond.instanceMethod yX0_settingOf, Cond.selects RX0 yX0_settingOf yX0_settingOf, Cond.code yX0_settingOf cX0_settingOf 2 (some .int), Cond.fieldLink RX0 13 "GrooveTurns$Disc" "settings" "[I"]
def wsX4_sector : List Cond := .code yX4_sector cX4_sector 4 (some .int) :: ((wsX4_sector_r1 ++ wsX4_sector_r2) ++ wsX40 ++ wsX00)
def wsX4_track_r1 : List Cond := [Cond.fieldLink RX4 12 "GrooveTurns" "disc" "LGrooveTurns$Disc;", Cond.methodLink RX4 86 yX4_isTrack, Cond.static yX4_isTrack, Cond.initialized RX4, Cond.code yX4_isTrack cX4_isTrack 1 (some .boolean), Cond.methodLink RX4 121 yX0_filledOn, Cond.instanceMethod yX0_filledOn, Cond.selects RX0 yX0_filledOn yX0_filledOn, Cond.initialized RX0, Cond.code yX0_filledOn cX0_filledOn 6 (some .int), Cond.methodLink RX0 82 yX0_sectorFor, Cond.instanceMethod yX0_sectorFor, Cond.selects RX0 yX0_sectorFor yX0_sectorFor, Cond.code yX0_sectorFor cX0_sectorFor 2 (some .int), Cond.fieldLink RX0 27 "GrooveTurns$Disc" "sectors" "[I", Cond.static yX4_at, Cond.code yX4_at cX4_at 2 (some .int), Cond.methodLink RX0 138 yX0_isWithin, Cond.static yX0_isWithin, Cond.code yX0_isWithin cX0_isWithin 3 (some .boolean), Cond.static yX4_trackOf, Cond.code yX4_trackOf cX4_trackOf 1 (some .int), Cond.methodLink RX0 113 yX0_holdsNumber, Cond.instanceMethod yX0_holdsNumber]
def wsX4_track_r2 : List Cond := [Cond.selects RX0 yX0_holdsNumber yX0_holdsNumber, Cond.code yX0_holdsNumber cX0_holdsNumber 2 (some .boolean), Cond.fieldLink RX0 18 "GrooveTurns$Disc" "numbers" "[I", Cond.methodLink RX4 124 yX0_unreadableOn, Cond.instanceMethod yX0_unreadableOn, Cond.selects RX0 yX0_unreadableOn yX0_unreadableOn, Cond.code yX0_unreadableOn cX0_unreadableOn 6 (some .int), Cond.methodLink RX0 85 yX0_isReadable, Cond.instanceMethod yX0_isReadable, Cond.selects RX0 yX0_isReadable yX0_isReadable, Cond.code yX0_isReadable cX0_isReadable 2 (some .boolean), Cond.methodLink RX0 116 yX0_blurOf, Cond.instanceMethod yX0_blurOf, Cond.selects RX0 yX0_blurOf yX0_blurOf, Cond.code yX0_blurOf cX0_blurOf 2 (some .int), Cond.fieldLink RX0 21 "GrooveTurns$Disc" "blurs" "[I", Cond.methodLink RX0 104 yX0_settingOf, Cond.instanceMethod yX0_settingOf, Cond.selects RX0 yX0_settingOf yX0_settingOf, Cond.code yX0_settingOf cX0_settingOf 2 (some .int), Cond.fieldLink RX0 13 "GrooveTurns$Disc" "settings" "[I", Cond.methodLink RX4 127 yX0_blurOnTrack, Cond.instanceMethod yX0_blurOnTrack, Cond.selects RX0 yX0_blurOnTrack yX0_blurOnTrack]
def wsX4_track_r3 : List Cond := [Cond.code yX0_blurOnTrack cX0_blurOnTrack 2 (some .int), Cond.methodLink RX0 142 yX0_sumOnTrack, Cond.static yX0_sumOnTrack, Cond.code yX0_sumOnTrack cX0_sumOnTrack 4 (some .int), Cond.methodLink RX4 130 yX0_writingsOnTrack, Cond.instanceMethod yX0_writingsOnTrack, Cond.selects RX0 yX0_writingsOnTrack yX0_writingsOnTrack, Cond.code yX0_writingsOnTrack cX0_writingsOnTrack 2 (some .int), Cond.fieldLink RX0 24 "GrooveTurns$Disc" "writings" "[I"]
def wsX4_track : List Cond := .code yX4_track cX4_track 3 (some .int) :: ((wsX4_track_r1 ++ (wsX4_track_r2 ++ wsX4_track_r3)) ++ wsX40 ++ wsX00)
def wsX4_count_r1 : List Cond := [Cond.fieldLink RX4 44 "GrooveTurns" "FIRST_SETTINGS" "[I", Cond.fieldLink RX4 12 "GrooveTurns" "disc" "LGrooveTurns$Disc;", Cond.fieldLink RX4 136 "GrooveTurns$Disc" "ticks" "I", Cond.fieldLink RX4 140 "GrooveTurns$Disc" "head" "I", Cond.fieldLink RX4 153 "GrooveTurns$Disc" "reads" "I", Cond.fieldLink RX4 22 "GrooveTurns" "pad" "LGrooveTurns$Pad;", Cond.fieldLink RX4 159 "GrooveTurns$Pad" "length" "I", Cond.fieldLink RX4 36 "GrooveTurns" "history" "LGrooveTurns$History;", Cond.fieldLink RX4 162 "GrooveTurns$History" "size" "I", Cond.methodLink RX4 133 yX0_settingOf, Cond.instanceMethod yX0_settingOf, Cond.selects RX0 yX0_settingOf yX0_settingOf, Cond.initialized RX0, Cond.code yX0_settingOf cX0_settingOf 2 (some .int), Cond.fieldLink RX0 13 "GrooveTurns$Disc" "settings" "[I", Cond.static yX4_at, Cond.initialized RX4, Cond.code yX4_at cX4_at 2 (some .int), Cond.methodLink RX4 143 yX0_sectorUnderHead, Cond.instanceMethod yX0_sectorUnderHead, Cond.selects RX0 yX0_sectorUnderHead yX0_sectorUnderHead, Cond.code yX0_sectorUnderHead cX0_sectorUnderHead 1 (some .int), Cond.fieldLink RX0 37 "GrooveTurns$Disc" "ticks" "I", Cond.methodLink RX4 147 yX0_sparesLeft]
def wsX4_count_r2 : List Cond := [Cond.instanceMethod yX0_sparesLeft, Cond.selects RX0 yX0_sparesLeft yX0_sparesLeft, Cond.code yX0_sparesLeft cX0_sparesLeft 1 (some .int), Cond.fieldLink RX0 30 "GrooveTurns$Disc" "sparesTaken" "I", Cond.methodLink RX4 121 yX0_filledOn, Cond.instanceMethod yX0_filledOn, Cond.selects RX0 yX0_filledOn yX0_filledOn, Cond.code yX0_filledOn cX0_filledOn 6 (some .int), Cond.methodLink RX0 82 yX0_sectorFor, Cond.instanceMethod yX0_sectorFor, Cond.selects RX0 yX0_sectorFor yX0_sectorFor, Cond.code yX0_sectorFor cX0_sectorFor 2 (some .int), Cond.fieldLink RX0 27 "GrooveTurns$Disc" "sectors" "[I", Cond.methodLink RX0 138 yX0_isWithin, Cond.static yX0_isWithin, Cond.code yX0_isWithin cX0_isWithin 3 (some .boolean), Cond.static yX4_trackOf, Cond.code yX4_trackOf cX4_trackOf 1 (some .int), Cond.methodLink RX0 113 yX0_holdsNumber, Cond.instanceMethod yX0_holdsNumber, Cond.selects RX0 yX0_holdsNumber yX0_holdsNumber, Cond.code yX0_holdsNumber cX0_holdsNumber 2 (some .boolean), Cond.fieldLink RX0 18 "GrooveTurns$Disc" "numbers" "[I", Cond.methodLink RX4 124 yX0_unreadableOn]
def wsX4_count_r3 : List Cond := [Cond.instanceMethod yX0_unreadableOn, Cond.selects RX0 yX0_unreadableOn yX0_unreadableOn, Cond.code yX0_unreadableOn cX0_unreadableOn 6 (some .int), Cond.methodLink RX0 85 yX0_isReadable, Cond.instanceMethod yX0_isReadable, Cond.selects RX0 yX0_isReadable yX0_isReadable, Cond.code yX0_isReadable cX0_isReadable 2 (some .boolean), Cond.methodLink RX0 116 yX0_blurOf, Cond.instanceMethod yX0_blurOf, Cond.selects RX0 yX0_blurOf yX0_blurOf, Cond.code yX0_blurOf cX0_blurOf 2 (some .int), Cond.fieldLink RX0 21 "GrooveTurns$Disc" "blurs" "[I", Cond.methodLink RX0 104 yX0_settingOf, Cond.methodLink RX4 150 yX0_writingsOnTracks, Cond.instanceMethod yX0_writingsOnTracks, Cond.selects RX0 yX0_writingsOnTracks yX0_writingsOnTracks, Cond.code yX0_writingsOnTracks cX0_writingsOnTracks 5 (some .int), Cond.methodLink RX0 145 yX0_writingsOnTrack, Cond.instanceMethod yX0_writingsOnTrack, Cond.selects RX0 yX0_writingsOnTrack yX0_writingsOnTrack, Cond.code yX0_writingsOnTrack cX0_writingsOnTrack 2 (some .int), Cond.fieldLink RX0 24 "GrooveTurns$Disc" "writings" "[I", Cond.methodLink RX0 142 yX0_sumOnTrack, Cond.static yX0_sumOnTrack]
def wsX4_count_r4 : List Cond := [Cond.code yX0_sumOnTrack cX0_sumOnTrack 4 (some .int), Cond.methodLink RX4 130 yX0_writingsOnTrack, Cond.methodLink RX4 156 yX0_greatestBlur, Cond.instanceMethod yX0_greatestBlur, Cond.selects RX0 yX0_greatestBlur yX0_greatestBlur, Cond.code yX0_greatestBlur cX0_greatestBlur 3 (some .int), Cond.methodLink RX0 148 Lib.Math.max.name, Cond.static Lib.Math.max.name, Cond.initialized "java/lang/Math", Cond.code Lib.Math.max.name Lib.Math.max.code 2 (some .int)]
def wsX4_count : List Cond := .code yX4_count cX4_count 2 (some .int) :: ((wsX4_count_r1 ++ (wsX4_count_r2 ++ (wsX4_count_r3 ++ wsX4_count_r4))) ++ wsX40 ++ wsX00 ++ wsX20 ++ wsX10)
def wsX4_ticksFor_r1 : List Cond := [Cond.fieldLink RX4 12 "GrooveTurns" "disc" "LGrooveTurns$Disc;", Cond.methodLink RX4 70 yX4_isAddress, Cond.static yX4_isAddress, Cond.initialized RX4, Cond.code yX4_isAddress cX4_isAddress 1 (some .boolean), Cond.methodLink RX4 165 yX0_sectorToWrite, Cond.instanceMethod yX0_sectorToWrite, Cond.selects RX0 yX0_sectorToWrite yX0_sectorToWrite, Cond.initialized RX0, Cond.code yX0_sectorToWrite cX0_sectorToWrite 4 (some .int), Cond.fieldLink RX0 30 "GrooveTurns$Disc" "sparesTaken" "I", Cond.methodLink RX0 82 yX0_sectorFor, Cond.instanceMethod yX0_sectorFor, Cond.selects RX0 yX0_sectorFor yX0_sectorFor, Cond.code yX0_sectorFor cX0_sectorFor 2 (some .int), Cond.fieldLink RX0 27 "GrooveTurns$Disc" "sectors" "[I", Cond.static yX4_at, Cond.code yX4_at cX4_at 2 (some .int), Cond.methodLink RX0 98 yX0_writingsOf, Cond.instanceMethod yX0_writingsOf, Cond.selects RX0 yX0_writingsOf yX0_writingsOf, Cond.code yX0_writingsOf cX0_writingsOf 2 (some .int), Cond.fieldLink RX0 24 "GrooveTurns$Disc" "writings" "[I", Cond.methodLink RX0 104 yX0_settingOf]
def wsX4_ticksFor_r2 : List Cond := [Cond.instanceMethod yX0_settingOf, Cond.selects RX0 yX0_settingOf yX0_settingOf, Cond.code yX0_settingOf cX0_settingOf 2 (some .int), Cond.fieldLink RX0 13 "GrooveTurns$Disc" "settings" "[I", Cond.methodLink RX0 128 yX0_sparesLeft, Cond.instanceMethod yX0_sparesLeft, Cond.selects RX0 yX0_sparesLeft yX0_sparesLeft, Cond.code yX0_sparesLeft cX0_sparesLeft 1 (some .int), Cond.methodLink RX4 80 yX0_sectorFor, Cond.methodLink RX4 168 yX0_ticksTo, Cond.instanceMethod yX0_ticksTo, Cond.selects RX0 yX0_ticksTo yX0_ticksTo, Cond.code yX0_ticksTo cX0_ticksTo 4 (some .int), Cond.fieldLink RX0 37 "GrooveTurns$Disc" "ticks" "I", Cond.static yX4_trackOf, Cond.code yX4_trackOf cX4_trackOf 1 (some .int), Cond.methodLink RX0 91 yX0_ticksToTrack, Cond.instanceMethod yX0_ticksToTrack, Cond.selects RX0 yX0_ticksToTrack yX0_ticksToTrack, Cond.code yX0_ticksToTrack cX0_ticksToTrack 2 (some .int), Cond.fieldLink RX0 40 "GrooveTurns$Disc" "head" "I", Cond.methodLink RX0 134 Lib.Math.abs.name, Cond.static Lib.Math.abs.name, Cond.initialized "java/lang/Math"]
def wsX4_ticksFor_r3 : List Cond := [Cond.code Lib.Math.abs.name Lib.Math.abs.code 1 (some .int), Cond.methodLink RX0 131 yJ9_floorMod_7cf53, Cond.static yJ9_floorMod_7cf53, Cond.initialized RJ9, Cond.code yJ9_floorMod_7cf53 cJ9_floorMod_7cf53 3 (some .int)]
def wsX4_ticksFor : List Cond := .code yX4_ticksFor cX4_ticksFor 3 (some .int) :: ((wsX4_ticksFor_r1 ++ (wsX4_ticksFor_r2 ++ wsX4_ticksFor_r3)) ++ wsX40 ++ wsX00)
def wsX4_ifRun_r1 : List Cond := [Cond.fieldLink RX4 29 "GrooveTurns" "requests" "LGrooveTurns$Requests;", Cond.fieldLink RX4 22 "GrooveTurns" "pad" "LGrooveTurns$Pad;", Cond.fieldLink RX4 136 "GrooveTurns$Disc" "ticks" "I", Cond.fieldLink RX4 12 "GrooveTurns" "disc" "LGrooveTurns$Disc;", Cond.methodLink RX4 95 yX3_parse, Cond.instanceMethod yX3_parse, Cond.selects RX3 yX3_parse yX3_parse, Cond.initialized RX3, Cond.code yX3_parse cX3_parse 3 (some .int), Cond.fieldLink RX3 21 "GrooveTurns$Requests" "size" "I", Cond.fieldLink RX3 25 "GrooveTurns$Requests" "place" "I", Cond.fieldLink RX3 28 "GrooveTurns$Pad" "length" "I", Cond.methodLink RX3 33 yX2_signAt, Cond.instanceMethod yX2_signAt, Cond.selects RX2 yX2_signAt yX2_signAt, Cond.initialized RX2, Cond.code yX2_signAt cX2_signAt 2 (some .int), Cond.fieldLink RX2 9 "GrooveTurns$Pad" "signs" "[I", Cond.static yX4_at, Cond.initialized RX4, Cond.code yX4_at cX4_at 2 (some .int), Cond.methodLink RX3 37 yX3_takes, Cond.instanceMethod yX3_takes, Cond.selects RX3 yX3_takes yX3_takes]
def wsX4_ifRun_r2 : List Cond := [Cond.code yX3_takes cX3_takes 2 (some .boolean), Cond.fieldLink RX3 9 "GrooveTurns$Requests" "addresses" "[I", Cond.fieldLink RX3 15 "GrooveTurns$Requests" "numbers" "[I", Cond.methodLink RX3 44 yX3_takesKind, Cond.instanceMethod yX3_takesKind, Cond.selects RX3 yX3_takesKind yX3_takesKind, Cond.code yX3_takesKind cX3_takesKind 2 (some .boolean), Cond.static yX4_lay, Cond.code yX4_lay cX4_lay 3 none, Cond.methodLink RX3 47 yX3_takesFirstDigit, Cond.instanceMethod yX3_takesFirstDigit, Cond.selects RX3 yX3_takesFirstDigit yX3_takesFirstDigit, Cond.code yX3_takesFirstDigit cX3_takesFirstDigit 4 (some .boolean), Cond.methodLink RX3 65 yX3_isDigit, Cond.static yX3_isDigit, Cond.code yX3_isDigit cX3_isDigit 1 (some .boolean), Cond.methodLink RX3 51 yX3_takesDigit, Cond.instanceMethod yX3_takesDigit, Cond.selects RX3 yX3_takesDigit yX3_takesDigit, Cond.code yX3_takesDigit cX3_takesDigit 6 (some .boolean), Cond.methodLink RX3 54 yX3_takesEndOfAddress, Cond.instanceMethod yX3_takesEndOfAddress, Cond.selects RX3 yX3_takesEndOfAddress yX3_takesEndOfAddress, Cond.code yX3_takesEndOfAddress cX3_takesEndOfAddress 2 (some .boolean)]
def wsX4_ifRun_r3 : List Cond := [Cond.methodLink RX3 41 yX3_isWriting, Cond.instanceMethod yX3_isWriting, Cond.selects RX3 yX3_isWriting yX3_isWriting, Cond.code yX3_isWriting cX3_isWriting 2 (some .boolean), Cond.methodLink RX3 57 yX3_takesMark, Cond.instanceMethod yX3_takesMark, Cond.selects RX3 yX3_takesMark yX3_takesMark, Cond.code yX3_takesMark cX3_takesMark 4 (some .boolean), Cond.methodLink RX4 58 yX4_freshTrial, Cond.instanceMethod yX4_freshTrial, Cond.selects RX4 yX4_freshTrial yX4_freshTrial, Cond.code yX4_freshTrial cX4_freshTrial 1 (some (.object "GrooveTurns$Disc")), Cond.fieldLink RX4 16 "GrooveTurns" "trial" "LGrooveTurns$Disc;", Cond.methodLink RX4 187 yX0_becomeLike, Cond.instanceMethod yX0_becomeLike, Cond.selects RX0 yX0_becomeLike yX0_becomeLike, Cond.initialized RX0, Cond.code yX0_becomeLike cX0_becomeLike 2 none, Cond.fieldLink RX0 13 "GrooveTurns$Disc" "settings" "[I", Cond.fieldLink RX0 18 "GrooveTurns$Disc" "numbers" "[I", Cond.fieldLink RX0 21 "GrooveTurns$Disc" "blurs" "[I", Cond.fieldLink RX0 24 "GrooveTurns$Disc" "writings" "[I", Cond.fieldLink RX0 27 "GrooveTurns$Disc" "sectors" "[I", Cond.fieldLink RX0 30 "GrooveTurns$Disc" "sparesTaken" "I"]
def wsX4_ifRun_r4 : List Cond := [Cond.fieldLink RX0 34 "GrooveTurns$Disc" "reads" "I", Cond.fieldLink RX0 37 "GrooveTurns$Disc" "ticks" "I", Cond.fieldLink RX0 40 "GrooveTurns$Disc" "head" "I", Cond.static yX4_copyRow, Cond.code yX4_copyRow cX4_copyRow 2 none, Cond.methodLink RX4 200 Lib.Math.min.name, Cond.static Lib.Math.min.name, Cond.initialized "java/lang/Math", Cond.code Lib.Math.min.name Lib.Math.min.code 2 (some .int), Cond.methodLink RX4 205 arraycopyName, Cond.native arraycopyName, Cond.static arraycopyName, Cond.initialized "java/lang/System", Cond.methodLink RX4 99 yX3_doOn, Cond.instanceMethod yX3_doOn, Cond.selects RX3 yX3_doOn yX3_doOn, Cond.code yX3_doOn cX3_doOn 6 (some .int), Cond.fieldLink RX3 18 "GrooveTurns$Requests" "tracks" "[I", Cond.methodLink RX3 72 yX3_noteTracks, Cond.instanceMethod yX3_noteTracks, Cond.selects RX3 yX3_noteTracks yX3_noteTracks, Cond.code yX3_noteTracks cX3_noteTracks 5 none, Cond.methodLink RX3 80 yX0_sectorFor, Cond.instanceMethod yX0_sectorFor]
def wsX4_ifRun_r5 : List Cond := [Cond.selects RX0 yX0_sectorFor yX0_sectorFor, Cond.code yX0_sectorFor cX0_sectorFor 2 (some .int), Cond.static yX4_trackOf, Cond.code yX4_trackOf cX4_trackOf 1 (some .int), Cond.methodLink RX3 76 yX3_doOne, Cond.instanceMethod yX3_doOne, Cond.selects RX3 yX3_doOne yX3_doOne, Cond.code yX3_doOne cX3_doOne 5 (some .int), Cond.methodLink RX3 88 yX0_writeTo, Cond.instanceMethod yX0_writeTo, Cond.selects RX0 yX0_writeTo yX0_writeTo, Cond.code yX0_writeTo cX0_writeTo 5 (some .int), Cond.methodLink RX0 61 yX0_sectorToWrite, Cond.instanceMethod yX0_sectorToWrite, Cond.selects RX0 yX0_sectorToWrite yX0_sectorToWrite, Cond.code yX0_sectorToWrite cX0_sectorToWrite 4 (some .int), Cond.methodLink RX0 82 yX0_sectorFor, Cond.methodLink RX0 98 yX0_writingsOf, Cond.instanceMethod yX0_writingsOf, Cond.selects RX0 yX0_writingsOf yX0_writingsOf, Cond.code yX0_writingsOf cX0_writingsOf 2 (some .int), Cond.methodLink RX0 104 yX0_settingOf, Cond.instanceMethod yX0_settingOf, Cond.selects RX0 yX0_settingOf yX0_settingOf]
def wsX4_ifRun_r6 : List Cond := [Cond.code yX0_settingOf cX0_settingOf 2 (some .int), Cond.methodLink RX0 128 yX0_sparesLeft, Cond.instanceMethod yX0_sparesLeft, Cond.selects RX0 yX0_sparesLeft yX0_sparesLeft, Cond.code yX0_sparesLeft cX0_sparesLeft 1 (some .int), Cond.methodLink RX0 65 yX0_ticksTo, Cond.instanceMethod yX0_ticksTo, Cond.selects RX0 yX0_ticksTo yX0_ticksTo, Cond.code yX0_ticksTo cX0_ticksTo 4 (some .int), Cond.methodLink RX0 91 yX0_ticksToTrack, Cond.instanceMethod yX0_ticksToTrack, Cond.selects RX0 yX0_ticksToTrack yX0_ticksToTrack, Cond.code yX0_ticksToTrack cX0_ticksToTrack 2 (some .int), Cond.methodLink RX0 134 Lib.Math.abs.name, Cond.static Lib.Math.abs.name, Cond.code Lib.Math.abs.name Lib.Math.abs.code 1 (some .int), Cond.methodLink RX0 131 yJ9_floorMod_7cf53, Cond.static yJ9_floorMod_7cf53, Cond.initialized RJ9, Cond.code yJ9_floorMod_7cf53 cJ9_floorMod_7cf53 3 (some .int), Cond.methodLink RX0 68 yX0_hasTime, Cond.instanceMethod yX0_hasTime, Cond.selects RX0 yX0_hasTime yX0_hasTime, Cond.code yX0_hasTime cX0_hasTime 2 (some .boolean)]
def wsX4_ifRun_r7 : List Cond := [Cond.constant RX0 137 (9999999), Cond.methodLink RX0 72 yX0_fill, Cond.instanceMethod yX0_fill, Cond.selects RX0 yX0_fill yX0_fill, Cond.code yX0_fill cX0_fill 4 none, Cond.static yX4_isSpare, Cond.code yX4_isSpare cX4_isSpare 1 (some .boolean), Cond.methodLink RX0 107 yX0_blurBy, Cond.instanceMethod yX0_blurBy, Cond.selects RX0 yX0_blurBy yX0_blurBy, Cond.code yX0_blurBy cX0_blurBy 3 none, Cond.methodLink RX0 119 Lib.Math.min.name, Cond.methodLink RX0 110 yX0_isOnTracksInUse, Cond.instanceMethod yX0_isOnTracksInUse, Cond.selects RX0 yX0_isOnTracksInUse yX0_isOnTracksInUse, Cond.code yX0_isOnTracksInUse cX0_isOnTracksInUse 2 (some .boolean), Cond.static yX4_isAddress, Cond.code yX4_isAddress cX4_isAddress 1 (some .boolean), Cond.methodLink RX0 113 yX0_holdsNumber, Cond.instanceMethod yX0_holdsNumber, Cond.selects RX0 yX0_holdsNumber yX0_holdsNumber, Cond.code yX0_holdsNumber cX0_holdsNumber 2 (some .boolean), Cond.methodLink RX0 116 yX0_blurOf, Cond.instanceMethod yX0_blurOf]
def wsX4_ifRun_r8 : List Cond := [Cond.selects RX0 yX0_blurOf yX0_blurOf, Cond.code yX0_blurOf cX0_blurOf 2 (some .int), Cond.methodLink RX0 78 yX0_pass, Cond.instanceMethod yX0_pass, Cond.selects RX0 yX0_pass yX0_pass, Cond.code yX0_pass cX0_pass 3 none, Cond.methodLink RX3 92 yX0_readFrom, Cond.instanceMethod yX0_readFrom, Cond.selects RX0 yX0_readFrom yX0_readFrom, Cond.code yX0_readFrom cX0_readFrom 4 (some .int), Cond.methodLink RX0 85 yX0_isReadable, Cond.instanceMethod yX0_isReadable, Cond.selects RX0 yX0_isReadable yX0_isReadable, Cond.code yX0_isReadable cX0_isReadable 2 (some .boolean), Cond.methodLink RX0 88 yX0_numberIn, Cond.instanceMethod yX0_numberIn, Cond.selects RX0 yX0_numberIn yX0_numberIn, Cond.code yX0_numberIn cX0_numberIn 2 (some .int)]
def wsX4_ifRun : List Cond := .code yX4_ifRun cX4_ifRun 3 (some .int) :: ((wsX4_ifRun_r1 ++ (wsX4_ifRun_r2 ++ (wsX4_ifRun_r3 ++ (wsX4_ifRun_r4 ++ (wsX4_ifRun_r5 ++ (wsX4_ifRun_r6 ++ (wsX4_ifRun_r7 ++ wsX4_ifRun_r8))))))) ++ wsX40 ++ wsX00 ++ wsX30 ++ wsX20)
def wsX4_untilLost_r1 : List Cond := [Cond.fieldLink RX4 12 "GrooveTurns" "disc" "LGrooveTurns$Disc;", Cond.methodLink RX4 70 yX4_isAddress, Cond.static yX4_isAddress, Cond.initialized RX4, Cond.code yX4_isAddress cX4_isAddress 1 (some .boolean), Cond.methodLink RX4 80 yX0_sectorFor, Cond.instanceMethod yX0_sectorFor, Cond.selects RX0 yX0_sectorFor yX0_sectorFor, Cond.initialized RX0, Cond.code yX0_sectorFor cX0_sectorFor 2 (some .int), Cond.fieldLink RX0 27 "GrooveTurns$Disc" "sectors" "[I", Cond.static yX4_at, Cond.code yX4_at cX4_at 2 (some .int), Cond.methodLink RX4 118 yX0_isReadable, Cond.instanceMethod yX0_isReadable, Cond.selects RX0 yX0_isReadable yX0_isReadable, Cond.code yX0_isReadable cX0_isReadable 2 (some .boolean), Cond.methodLink RX0 113 yX0_holdsNumber, Cond.instanceMethod yX0_holdsNumber, Cond.selects RX0 yX0_holdsNumber yX0_holdsNumber, Cond.code yX0_holdsNumber cX0_holdsNumber 2 (some .boolean), Cond.fieldLink RX0 18 "GrooveTurns$Disc" "numbers" "[I", Cond.methodLink RX0 116 yX0_blurOf, Cond.instanceMethod yX0_blurOf]
def wsX4_untilLost_r2 : List Cond := [Cond.selects RX0 yX0_blurOf yX0_blurOf, Cond.code yX0_blurOf cX0_blurOf 2 (some .int), Cond.fieldLink RX0 21 "GrooveTurns$Disc" "blurs" "[I", Cond.methodLink RX0 104 yX0_settingOf, Cond.instanceMethod yX0_settingOf, Cond.selects RX0 yX0_settingOf yX0_settingOf, Cond.code yX0_settingOf cX0_settingOf 2 (some .int), Cond.fieldLink RX0 13 "GrooveTurns$Disc" "settings" "[I", Cond.methodLink RX4 58 yX4_freshTrial, Cond.instanceMethod yX4_freshTrial, Cond.selects RX4 yX4_freshTrial yX4_freshTrial, Cond.code yX4_freshTrial cX4_freshTrial 1 (some (.object "GrooveTurns$Disc")), Cond.fieldLink RX4 16 "GrooveTurns" "trial" "LGrooveTurns$Disc;", Cond.methodLink RX4 187 yX0_becomeLike, Cond.instanceMethod yX0_becomeLike, Cond.selects RX0 yX0_becomeLike yX0_becomeLike, Cond.code yX0_becomeLike cX0_becomeLike 2 none, Cond.fieldLink RX0 24 "GrooveTurns$Disc" "writings" "[I", Cond.fieldLink RX0 30 "GrooveTurns$Disc" "sparesTaken" "I", Cond.fieldLink RX0 34 "GrooveTurns$Disc" "reads" "I", Cond.fieldLink RX0 37 "GrooveTurns$Disc" "ticks" "I", Cond.fieldLink RX0 40 "GrooveTurns$Disc" "head" "I", Cond.static yX4_copyRow, Cond.code yX4_copyRow cX4_copyRow 2 none]
def wsX4_untilLost_r3 : List Cond := [Cond.methodLink RX4 200 Lib.Math.min.name, Cond.static Lib.Math.min.name, Cond.initialized "java/lang/Math", Cond.code Lib.Math.min.name Lib.Math.min.code 2 (some .int), Cond.methodLink RX4 205 arraycopyName, Cond.native arraycopyName, Cond.static arraycopyName, Cond.initialized "java/lang/System", Cond.methodLink RX4 165 yX0_sectorToWrite, Cond.instanceMethod yX0_sectorToWrite, Cond.selects RX0 yX0_sectorToWrite yX0_sectorToWrite, Cond.code yX0_sectorToWrite cX0_sectorToWrite 4 (some .int), Cond.methodLink RX0 82 yX0_sectorFor, Cond.methodLink RX0 98 yX0_writingsOf, Cond.instanceMethod yX0_writingsOf, Cond.selects RX0 yX0_writingsOf yX0_writingsOf, Cond.code yX0_writingsOf cX0_writingsOf 2 (some .int), Cond.methodLink RX0 128 yX0_sparesLeft, Cond.instanceMethod yX0_sparesLeft, Cond.selects RX0 yX0_sparesLeft yX0_sparesLeft, Cond.code yX0_sparesLeft cX0_sparesLeft 1 (some .int), Cond.methodLink RX4 171 yX0_fill, Cond.instanceMethod yX0_fill, Cond.selects RX0 yX0_fill yX0_fill]
def wsX4_untilLost_r4 : List Cond := [Cond.code yX0_fill cX0_fill 4 none, Cond.static yX4_lay, Cond.code yX4_lay cX4_lay 3 none, Cond.static yX4_isSpare, Cond.code yX4_isSpare cX4_isSpare 1 (some .boolean), Cond.methodLink RX0 107 yX0_blurBy, Cond.instanceMethod yX0_blurBy, Cond.selects RX0 yX0_blurBy yX0_blurBy, Cond.code yX0_blurBy cX0_blurBy 3 none, Cond.methodLink RX0 119 Lib.Math.min.name, Cond.methodLink RX0 110 yX0_isOnTracksInUse, Cond.instanceMethod yX0_isOnTracksInUse, Cond.selects RX0 yX0_isOnTracksInUse yX0_isOnTracksInUse, Cond.code yX0_isOnTracksInUse cX0_isOnTracksInUse 2 (some .boolean)]
def wsX4_untilLost : List Cond := .code yX4_untilLost cX4_untilLost 6 (some .int) :: ((wsX4_untilLost_r1 ++ (wsX4_untilLost_r2 ++ (wsX4_untilLost_r3 ++ wsX4_untilLost_r4))) ++ wsX40 ++ wsX00)
def wsX4_worst_r1 : List Cond := [Cond.fieldLink RX4 12 "GrooveTurns" "disc" "LGrooveTurns$Disc;", Cond.methodLink RX4 80 yX0_sectorFor, Cond.instanceMethod yX0_sectorFor, Cond.selects RX0 yX0_sectorFor yX0_sectorFor, Cond.initialized RX0, Cond.code yX0_sectorFor cX0_sectorFor 2 (some .int), Cond.fieldLink RX0 27 "GrooveTurns$Disc" "sectors" "[I", Cond.static yX4_at, Cond.initialized RX4, Cond.code yX4_at cX4_at 2 (some .int), Cond.methodLink RX4 118 yX0_isReadable, Cond.instanceMethod yX0_isReadable, Cond.selects RX0 yX0_isReadable yX0_isReadable, Cond.code yX0_isReadable cX0_isReadable 2 (some .boolean), Cond.methodLink RX0 113 yX0_holdsNumber, Cond.instanceMethod yX0_holdsNumber, Cond.selects RX0 yX0_holdsNumber yX0_holdsNumber, Cond.code yX0_holdsNumber cX0_holdsNumber 2 (some .boolean), Cond.fieldLink RX0 18 "GrooveTurns$Disc" "numbers" "[I", Cond.methodLink RX0 116 yX0_blurOf, Cond.instanceMethod yX0_blurOf, Cond.selects RX0 yX0_blurOf yX0_blurOf, Cond.code yX0_blurOf cX0_blurOf 2 (some .int), Cond.fieldLink RX0 21 "GrooveTurns$Disc" "blurs" "[I"]
def wsX4_worst_r2 : List Cond := [Cond.methodLink RX0 104 yX0_settingOf, Cond.instanceMethod yX0_settingOf, Cond.selects RX0 yX0_settingOf yX0_settingOf, Cond.code yX0_settingOf cX0_settingOf 2 (some .int), Cond.fieldLink RX0 13 "GrooveTurns$Disc" "settings" "[I", Cond.methodLink RX4 83 yX0_blurOf]
def wsX4_worst : List Cond := .code yX4_worst cX4_worst 5 (some .int) :: ((wsX4_worst_r1 ++ wsX4_worst_r2) ++ wsX40 ++ wsX00)
def wsX4_signsIn : List Cond := .code yX4_signsIn cX4_signsIn 7 (some .int) :: ([.constantLong RX4 194 (255), .constantLong RX4 196 (33), .constantLong RX4 198 (126)])
def wsX4_put : List Cond := .code yX4_put cX4_put 4 (some .int) :: ([.fieldLink RX4 22 "GrooveTurns" "pad" "LGrooveTurns$Pad;", .fieldLink RX4 159 "GrooveTurns$Pad" "length" "I", .methodLink RX4 175 yX4_signsIn, .static yX4_signsIn, .initialized RX4, .code yX4_signsIn cX4_signsIn 7 (some .int), .constantLong RX4 194 (255), .constantLong RX4 196 (33), .constantLong RX4 198 (126), .methodLink RX4 179 yX2_append, .instanceMethod yX2_append, .selects RX2 yX2_append yX2_append, .initialized RX2, .code yX2_append cX2_append 5 none, .fieldLink RX2 9 "GrooveTurns$Pad" "signs" "[I", .fieldLink RX2 15 "GrooveTurns$Pad" "length" "I", .constantLong RX2 19 (255), .static yX4_lay, .code yX4_lay cX4_lay 3 none] ++ wsX40 ++ wsX20)
def wsX4_wipe : List Cond := .code yX4_wipe cX4_wipe 2 (some .int) :: ([.fieldLink RX4 22 "GrooveTurns" "pad" "LGrooveTurns$Pad;", .fieldLink RX4 159 "GrooveTurns$Pad" "length" "I", .methodLink RX4 103 yX2_clear, .instanceMethod yX2_clear, .selects RX2 yX2_clear yX2_clear, .initialized RX2, .code yX2_clear cX2_clear 1 none, .fieldLink RX2 15 "GrooveTurns$Pad" "length" "I"] ++ wsX40 ++ wsX20)
def wsX4_fault_r1 : List Cond := [Cond.fieldLink RX4 29 "GrooveTurns" "requests" "LGrooveTurns$Requests;", Cond.fieldLink RX4 22 "GrooveTurns" "pad" "LGrooveTurns$Pad;", Cond.methodLink RX4 95 yX3_parse, Cond.instanceMethod yX3_parse, Cond.selects RX3 yX3_parse yX3_parse, Cond.initialized RX3, Cond.code yX3_parse cX3_parse 3 (some .int), Cond.fieldLink RX3 21 "GrooveTurns$Requests" "size" "I", Cond.fieldLink RX3 25 "GrooveTurns$Requests" "place" "I", Cond.fieldLink RX3 28 "GrooveTurns$Pad" "length" "I", Cond.methodLink RX3 33 yX2_signAt, Cond.instanceMethod yX2_signAt, Cond.selects RX2 yX2_signAt yX2_signAt, Cond.initialized RX2, Cond.code yX2_signAt cX2_signAt 2 (some .int), Cond.fieldLink RX2 9 "GrooveTurns$Pad" "signs" "[I", Cond.static yX4_at, Cond.initialized RX4, Cond.code yX4_at cX4_at 2 (some .int), Cond.methodLink RX3 37 yX3_takes, Cond.instanceMethod yX3_takes, Cond.selects RX3 yX3_takes yX3_takes, Cond.code yX3_takes cX3_takes 2 (some .boolean), Cond.fieldLink RX3 9 "GrooveTurns$Requests" "addresses" "[I"]
def wsX4_fault_r2 : List Cond := [Cond.fieldLink RX3 15 "GrooveTurns$Requests" "numbers" "[I", Cond.methodLink RX3 44 yX3_takesKind, Cond.instanceMethod yX3_takesKind, Cond.selects RX3 yX3_takesKind yX3_takesKind, Cond.code yX3_takesKind cX3_takesKind 2 (some .boolean), Cond.static yX4_lay, Cond.code yX4_lay cX4_lay 3 none, Cond.methodLink RX3 47 yX3_takesFirstDigit, Cond.instanceMethod yX3_takesFirstDigit, Cond.selects RX3 yX3_takesFirstDigit yX3_takesFirstDigit, Cond.code yX3_takesFirstDigit cX3_takesFirstDigit 4 (some .boolean), Cond.methodLink RX3 65 yX3_isDigit, Cond.static yX3_isDigit, Cond.code yX3_isDigit cX3_isDigit 1 (some .boolean), Cond.methodLink RX3 51 yX3_takesDigit, Cond.instanceMethod yX3_takesDigit, Cond.selects RX3 yX3_takesDigit yX3_takesDigit, Cond.code yX3_takesDigit cX3_takesDigit 6 (some .boolean), Cond.methodLink RX3 54 yX3_takesEndOfAddress, Cond.instanceMethod yX3_takesEndOfAddress, Cond.selects RX3 yX3_takesEndOfAddress yX3_takesEndOfAddress, Cond.code yX3_takesEndOfAddress cX3_takesEndOfAddress 2 (some .boolean), Cond.methodLink RX3 41 yX3_isWriting, Cond.instanceMethod yX3_isWriting]
def wsX4_fault_r3 : List Cond := [Cond.selects RX3 yX3_isWriting yX3_isWriting, Cond.code yX3_isWriting cX3_isWriting 2 (some .boolean), Cond.methodLink RX3 57 yX3_takesMark, Cond.instanceMethod yX3_takesMark, Cond.selects RX3 yX3_takesMark yX3_takesMark, Cond.code yX3_takesMark cX3_takesMark 4 (some .boolean)]
def wsX4_fault : List Cond := .code yX4_fault cX4_fault 1 (some .int) :: ((wsX4_fault_r1 ++ (wsX4_fault_r2 ++ wsX4_fault_r3)) ++ wsX40 ++ wsX30 ++ wsX20)
def wsX4_undo : List Cond := .code yX4_undo cX4_undo 2 (some .int) :: ([.fieldLink RX4 36 "GrooveTurns" "history" "LGrooveTurns$History;", .fieldLink RX4 12 "GrooveTurns" "disc" "LGrooveTurns$Disc;", .fieldLink RX4 162 "GrooveTurns$History" "size" "I", .methodLink RX4 183 yX1_takeBack, .instanceMethod yX1_takeBack, .selects RX1 yX1_takeBack yX1_takeBack, .initialized RX1, .code yX1_takeBack cX1_takeBack 2 (some (.object "GrooveTurns$Disc")), .fieldLink RX1 21 "GrooveTurns$History" "size" "I", .fieldLink RX1 17 "GrooveTurns$History" "oldest" "I", .methodLink RX1 24 yX1_exchange, .instanceMethod yX1_exchange, .selects RX1 yX1_exchange yX1_exchange, .code yX1_exchange cX1_exchange 4 (some (.object "GrooveTurns$Disc")), .fieldLink RX1 11 "GrooveTurns$History" "ring" "[LGrooveTurns$Disc;"] ++ wsX40 ++ wsX10)
def wsX4_save_r1 : List Cond := [Cond.fieldLink RX4 40 "GrooveTurns" "slots" "[LGrooveTurns$Disc;", Cond.classLink RX4 9 RX0, Cond.instantiable RX0 9, Cond.initialized RX0, Cond.fieldLink RX4 12 "GrooveTurns" "disc" "LGrooveTurns$Disc;", Cond.methodLink RX4 11 yX0_init, Cond.instanceMethod yX0_init, Cond.code yX0_init cX0_init 2 none, Cond.methodLink RX0 3 objectInit, Cond.instanceMethod objectInit, Cond.code objectInit ⟨#[0xb1]⟩ 1 none, Cond.arrayClass .int, Cond.fieldLink RX0 13 "GrooveTurns$Disc" "settings" "[I", Cond.fieldLink RX0 18 "GrooveTurns$Disc" "numbers" "[I", Cond.fieldLink RX0 21 "GrooveTurns$Disc" "blurs" "[I", Cond.fieldLink RX0 24 "GrooveTurns$Disc" "writings" "[I", Cond.fieldLink RX0 27 "GrooveTurns$Disc" "sectors" "[I", Cond.fieldLink RX0 30 "GrooveTurns$Disc" "sparesTaken" "I", Cond.fieldLink RX0 34 "GrooveTurns$Disc" "reads" "I", Cond.fieldLink RX0 37 "GrooveTurns$Disc" "ticks" "I", Cond.fieldLink RX0 40 "GrooveTurns$Disc" "head" "I", Cond.static yX4_copyRow, Cond.initialized RX4, Cond.code yX4_copyRow cX4_copyRow 2 none]
def wsX4_save_r2 : List Cond := [Cond.methodLink RX4 200 Lib.Math.min.name, Cond.static Lib.Math.min.name, Cond.initialized "java/lang/Math", Cond.code Lib.Math.min.name Lib.Math.min.code 2 (some .int), Cond.methodLink RX4 205 arraycopyName, Cond.native arraycopyName, Cond.static arraycopyName, Cond.initialized "java/lang/System", Cond.methodLink RX0 47 yJ7_fill_53178, Cond.static yJ7_fill_53178, Cond.initialized RJ7, Cond.code yJ7_fill_53178 cJ7_fill_53178 4 none, Cond.methodLink RX4 187 yX0_becomeLike, Cond.instanceMethod yX0_becomeLike, Cond.selects RX0 yX0_becomeLike yX0_becomeLike, Cond.code yX0_becomeLike cX0_becomeLike 2 none, Cond.methodLink RX4 121 yX0_filledOn, Cond.instanceMethod yX0_filledOn, Cond.selects RX0 yX0_filledOn yX0_filledOn, Cond.code yX0_filledOn cX0_filledOn 6 (some .int), Cond.methodLink RX0 82 yX0_sectorFor, Cond.instanceMethod yX0_sectorFor, Cond.selects RX0 yX0_sectorFor yX0_sectorFor, Cond.code yX0_sectorFor cX0_sectorFor 2 (some .int)]
def wsX4_save_r3 : List Cond := [Cond.static yX4_at, Cond.code yX4_at cX4_at 2 (some .int), Cond.methodLink RX0 138 yX0_isWithin, Cond.static yX0_isWithin, Cond.code yX0_isWithin cX0_isWithin 3 (some .boolean), Cond.static yX4_trackOf, Cond.code yX4_trackOf cX4_trackOf 1 (some .int), Cond.methodLink RX0 113 yX0_holdsNumber, Cond.instanceMethod yX0_holdsNumber, Cond.selects RX0 yX0_holdsNumber yX0_holdsNumber, Cond.code yX0_holdsNumber cX0_holdsNumber 2 (some .boolean)]
def wsX4_save : List Cond := .code yX4_save cX4_save 3 (some .int) :: ((wsX4_save_r1 ++ (wsX4_save_r2 ++ wsX4_save_r3)) ++ wsX40 ++ wsX00)
def wsX4_restore_r1 : List Cond := [Cond.fieldLink RX4 40 "GrooveTurns" "slots" "[LGrooveTurns$Disc;", Cond.fieldLink RX4 16 "GrooveTurns" "trial" "LGrooveTurns$Disc;", Cond.methodLink RX4 187 yX0_becomeLike, Cond.instanceMethod yX0_becomeLike, Cond.selects RX0 yX0_becomeLike yX0_becomeLike, Cond.initialized RX0, Cond.code yX0_becomeLike cX0_becomeLike 2 none, Cond.fieldLink RX0 13 "GrooveTurns$Disc" "settings" "[I", Cond.fieldLink RX0 18 "GrooveTurns$Disc" "numbers" "[I", Cond.fieldLink RX0 21 "GrooveTurns$Disc" "blurs" "[I", Cond.fieldLink RX0 24 "GrooveTurns$Disc" "writings" "[I", Cond.fieldLink RX0 27 "GrooveTurns$Disc" "sectors" "[I", Cond.fieldLink RX0 30 "GrooveTurns$Disc" "sparesTaken" "I", Cond.fieldLink RX0 34 "GrooveTurns$Disc" "reads" "I", Cond.fieldLink RX0 37 "GrooveTurns$Disc" "ticks" "I", Cond.fieldLink RX0 40 "GrooveTurns$Disc" "head" "I", Cond.static yX4_copyRow, Cond.initialized RX4, Cond.code yX4_copyRow cX4_copyRow 2 none, Cond.methodLink RX4 200 Lib.Math.min.name, Cond.static Lib.Math.min.name, Cond.initialized "java/lang/Math", Cond.code Lib.Math.min.name Lib.Math.min.code 2 (some .int), Cond.methodLink RX4 205 arraycopyName]
def wsX4_restore_r2 : List Cond := [Cond.native arraycopyName, Cond.static arraycopyName, Cond.initialized "java/lang/System", Cond.methodLink RX4 121 yX0_filledOn, Cond.instanceMethod yX0_filledOn, Cond.selects RX0 yX0_filledOn yX0_filledOn, Cond.code yX0_filledOn cX0_filledOn 6 (some .int), Cond.methodLink RX0 82 yX0_sectorFor, Cond.instanceMethod yX0_sectorFor, Cond.selects RX0 yX0_sectorFor yX0_sectorFor, Cond.code yX0_sectorFor cX0_sectorFor 2 (some .int), Cond.static yX4_at, Cond.code yX4_at cX4_at 2 (some .int), Cond.methodLink RX0 138 yX0_isWithin, Cond.static yX0_isWithin, Cond.code yX0_isWithin cX0_isWithin 3 (some .boolean), Cond.static yX4_trackOf, Cond.code yX4_trackOf cX4_trackOf 1 (some .int), Cond.methodLink RX0 113 yX0_holdsNumber, Cond.instanceMethod yX0_holdsNumber, Cond.selects RX0 yX0_holdsNumber yX0_holdsNumber, Cond.code yX0_holdsNumber cX0_holdsNumber 2 (some .boolean), Cond.methodLink RX4 66 yX4_adopt, Cond.instanceMethod yX4_adopt]
def wsX4_restore_r3 : List Cond := [Cond.selects RX4 yX4_adopt yX4_adopt, Cond.code yX4_adopt cX4_adopt 3 (some .int), Cond.fieldLink RX4 36 "GrooveTurns" "history" "LGrooveTurns$History;", Cond.fieldLink RX4 12 "GrooveTurns" "disc" "LGrooveTurns$Disc;", Cond.classLink RX4 9 RX0, Cond.instantiable RX0 9, Cond.methodLink RX4 191 yX1_keep, Cond.instanceMethod yX1_keep, Cond.selects RX1 yX1_keep yX1_keep, Cond.initialized RX1, Cond.code yX1_keep cX1_keep 3 (some (.object "GrooveTurns$Disc")), Cond.fieldLink RX1 17 "GrooveTurns$History" "oldest" "I", Cond.fieldLink RX1 21 "GrooveTurns$History" "size" "I", Cond.methodLink RX1 24 yX1_exchange, Cond.instanceMethod yX1_exchange, Cond.selects RX1 yX1_exchange yX1_exchange, Cond.code yX1_exchange cX1_exchange 4 (some (.object "GrooveTurns$Disc")), Cond.fieldLink RX1 11 "GrooveTurns$History" "ring" "[LGrooveTurns$Disc;", Cond.methodLink RX4 11 yX0_init, Cond.instanceMethod yX0_init, Cond.code yX0_init cX0_init 2 none, Cond.methodLink RX0 3 objectInit, Cond.instanceMethod objectInit, Cond.code objectInit ⟨#[0xb1]⟩ 1 none]
def wsX4_restore_r4 : List Cond := [Cond.arrayClass .int, Cond.methodLink RX0 47 yJ7_fill_53178, Cond.static yJ7_fill_53178, Cond.initialized RJ7, Cond.code yJ7_fill_53178 cJ7_fill_53178 4 none]
def wsX4_restore : List Cond := .code yX4_restore cX4_restore 3 (some .int) :: ((wsX4_restore_r1 ++ (wsX4_restore_r2 ++ (wsX4_restore_r3 ++ wsX4_restore_r4))) ++ wsX40 ++ wsX00 ++ wsX10)
def wsX5_init : List Cond := .code yX5_init cX5_init 2 none :: ([.methodLink RX5 1 objectInit, .instanceMethod objectInit, .code objectInit ⟨#[0xb1]⟩ 1 none, .arrayClass .int, .fieldLink RX5 7 "GrooveTurnsModel" "all" "[I", .fieldLink RX5 13 "GrooveTurnsModel" "kept" "[I", .fieldLink RX5 16 "GrooveTurnsModel" "history" "[I", .fieldLink RX5 19 "GrooveTurnsModel" "slots" "[I", .fieldLink RX5 22 "GrooveTurnsModel" "isSaved" "[I", .fieldLink RX5 25 "GrooveTurnsModel" "text" "[I", .fieldLink RX5 28 "GrooveTurnsModel" "asked" "[I", .fieldLink RX5 31 "GrooveTurnsModel" "numbers" "[I", .fieldLink RX5 34 "GrooveTurnsModel" "trackOf" "[I"] ++ wsX50)
def wsX5_in : List Cond := .code yX5_in cX5_in 6 (some .boolean) :: ([])
def wsX5_records : List Cond := .code yX5_records cX5_records 2 none :: ([.fieldLink RX5 37 "GrooveTurnsModel" "historyLong" "I", .fieldLink RX5 16 "GrooveTurnsModel" "history" "[I", .fieldLink RX5 13 "GrooveTurnsModel" "kept" "[I"] ++ wsX50)
def wsX5_keeps : List Cond := .code yX5_keeps cX5_keeps 2 none :: ([.fieldLink RX5 13 "GrooveTurnsModel" "kept" "[I", .fieldLink RX5 7 "GrooveTurnsModel" "all" "[I"] ++ wsX50)
def wsX5_comesBack : List Cond := .code yX5_comesBack cX5_comesBack 2 none :: ([.fieldLink RX5 7 "GrooveTurnsModel" "all" "[I", .fieldLink RX5 13 "GrooveTurnsModel" "kept" "[I"] ++ wsX50)
def wsX5_ends : List Cond := .code yX5_ends cX5_ends 2 (some .int) :: ([.methodLink RX5 41 yX5_comesBack, .instanceMethod yX5_comesBack, .selects RX5 yX5_comesBack yX5_comesBack, .initialized RX5, .code yX5_comesBack cX5_comesBack 2 none, .fieldLink RX5 7 "GrooveTurnsModel" "all" "[I", .fieldLink RX5 13 "GrooveTurnsModel" "kept" "[I", .methodLink RX5 44 yX5_records, .instanceMethod yX5_records, .selects RX5 yX5_records yX5_records, .code yX5_records cX5_records 2 none, .fieldLink RX5 37 "GrooveTurnsModel" "historyLong" "I", .fieldLink RX5 16 "GrooveTurnsModel" "history" "[I"] ++ wsX50)
def wsX5_isAddress : List Cond := .code yX5_isAddress cX5_isAddress 1 (some .boolean) :: ([.constantLong RX5 47 (191), .methodLink RX5 49 yX5_in, .static yX5_in, .initialized RX5, .code yX5_in cX5_in 6 (some .boolean)])
def wsX5_sectorOf : List Cond := .code yX5_sectorOf cX5_sectorOf 2 (some .int) :: ([.fieldLink RX5 7 "GrooveTurnsModel" "all" "[I"] ++ wsX50)
def wsX5_sectorToWrite : List Cond := .code yX5_sectorToWrite cX5_sectorToWrite 4 (some .int) :: ([.fieldLink RX5 7 "GrooveTurnsModel" "all" "[I", .methodLink RX5 53 yX5_sectorOf, .instanceMethod yX5_sectorOf, .selects RX5 yX5_sectorOf yX5_sectorOf, .initialized RX5, .code yX5_sectorOf cX5_sectorOf 2 (some .int)] ++ wsX50)
def wsX5_holds : List Cond := .code yX5_holds cX5_holds 2 (some .boolean) :: ([.fieldLink RX5 7 "GrooveTurnsModel" "all" "[I", .methodLink RX5 53 yX5_sectorOf, .instanceMethod yX5_sectorOf, .selects RX5 yX5_sectorOf yX5_sectorOf, .initialized RX5, .code yX5_sectorOf cX5_sectorOf 2 (some .int)] ++ wsX50)
def wsX5_canBeRead : List Cond := .code yX5_canBeRead cX5_canBeRead 2 (some .boolean) :: ([.fieldLink RX5 7 "GrooveTurnsModel" "all" "[I", .methodLink RX5 57 yX5_holds, .instanceMethod yX5_holds, .selects RX5 yX5_holds yX5_holds, .initialized RX5, .code yX5_holds cX5_holds 2 (some .boolean), .methodLink RX5 53 yX5_sectorOf, .instanceMethod yX5_sectorOf, .selects RX5 yX5_sectorOf yX5_sectorOf, .code yX5_sectorOf cX5_sectorOf 2 (some .int)] ++ wsX50)
def wsX5_takes : List Cond := .code yX5_takes cX5_takes 5 (some .int) :: ([.fieldLink RX5 7 "GrooveTurnsModel" "all" "[I"] ++ wsX50)
def wsX5_goes : List Cond := .code yX5_goes cX5_goes 2 none :: ([.fieldLink RX5 7 "GrooveTurnsModel" "all" "[I", .methodLink RX5 61 yX5_takes, .instanceMethod yX5_takes, .selects RX5 yX5_takes yX5_takes, .initialized RX5, .code yX5_takes cX5_takes 5 (some .int)] ++ wsX50)
def wsX5_heats : List Cond := .code yX5_heats cX5_heats 4 none :: ([.fieldLink RX5 7 "GrooveTurnsModel" "all" "[I", .methodLink RX5 64 yX5_isAddress, .static yX5_isAddress, .initialized RX5, .code yX5_isAddress cX5_isAddress 1 (some .boolean), .constantLong RX5 47 (191), .methodLink RX5 49 yX5_in, .static yX5_in, .code yX5_in cX5_in 6 (some .boolean)] ++ wsX50)
def wsX5_puts : List Cond := .code yX5_puts cX5_puts 4 none :: ([.fieldLink RX5 7 "GrooveTurnsModel" "all" "[I", .methodLink RX5 67 yX5_sectorToWrite, .instanceMethod yX5_sectorToWrite, .selects RX5 yX5_sectorToWrite yX5_sectorToWrite, .initialized RX5, .code yX5_sectorToWrite cX5_sectorToWrite 4 (some .int), .methodLink RX5 53 yX5_sectorOf, .instanceMethod yX5_sectorOf, .selects RX5 yX5_sectorOf yX5_sectorOf, .code yX5_sectorOf cX5_sectorOf 2 (some .int), .methodLink RX5 70 yX5_heats, .instanceMethod yX5_heats, .selects RX5 yX5_heats yX5_heats, .code yX5_heats cX5_heats 4 none, .methodLink RX5 64 yX5_isAddress, .static yX5_isAddress, .code yX5_isAddress cX5_isAddress 1 (some .boolean), .constantLong RX5 47 (191), .methodLink RX5 49 yX5_in, .static yX5_in, .code yX5_in cX5_in 6 (some .boolean)] ++ wsX50)
def wsX5_doWrite_r1 : List Cond := [Cond.fieldLink RX5 7 "GrooveTurnsModel" "all" "[I", Cond.constant RX5 74 (9999999), Cond.methodLink RX5 67 yX5_sectorToWrite, Cond.instanceMethod yX5_sectorToWrite, Cond.selects RX5 yX5_sectorToWrite yX5_sectorToWrite, Cond.initialized RX5, Cond.code yX5_sectorToWrite cX5_sectorToWrite 4 (some .int), Cond.methodLink RX5 53 yX5_sectorOf, Cond.instanceMethod yX5_sectorOf, Cond.selects RX5 yX5_sectorOf yX5_sectorOf, Cond.code yX5_sectorOf cX5_sectorOf 2 (some .int), Cond.methodLink RX5 61 yX5_takes, Cond.instanceMethod yX5_takes, Cond.selects RX5 yX5_takes yX5_takes, Cond.code yX5_takes cX5_takes 5 (some .int), Cond.methodLink RX5 75 yX5_goes, Cond.instanceMethod yX5_goes, Cond.selects RX5 yX5_goes yX5_goes, Cond.code yX5_goes cX5_goes 2 none, Cond.methodLink RX5 79 yX5_puts, Cond.instanceMethod yX5_puts, Cond.selects RX5 yX5_puts yX5_puts, Cond.code yX5_puts cX5_puts 4 none, Cond.methodLink RX5 70 yX5_heats]
def wsX5_doWrite_r2 : List Cond := [Cond.instanceMethod yX5_heats, Cond.selects RX5 yX5_heats yX5_heats, Cond.code yX5_heats cX5_heats 4 none, Cond.methodLink RX5 64 yX5_isAddress, Cond.static yX5_isAddress, Cond.code yX5_isAddress cX5_isAddress 1 (some .boolean), Cond.constantLong RX5 47 (191), Cond.methodLink RX5 49 yX5_in, Cond.static yX5_in, Cond.code yX5_in cX5_in 6 (some .boolean)]
def wsX5_doWrite : List Cond := .code yX5_doWrite cX5_doWrite 5 (some .int) :: ((wsX5_doWrite_r1 ++ wsX5_doWrite_r2) ++ wsX50)
def wsX5_doRead : List Cond := .code yX5_doRead cX5_doRead 3 (some .int) :: ([.fieldLink RX5 7 "GrooveTurnsModel" "all" "[I", .constant RX5 74 (9999999), .methodLink RX5 82 yX5_canBeRead, .instanceMethod yX5_canBeRead, .selects RX5 yX5_canBeRead yX5_canBeRead, .initialized RX5, .code yX5_canBeRead cX5_canBeRead 2 (some .boolean), .methodLink RX5 57 yX5_holds, .instanceMethod yX5_holds, .selects RX5 yX5_holds yX5_holds, .code yX5_holds cX5_holds 2 (some .boolean), .methodLink RX5 53 yX5_sectorOf, .instanceMethod yX5_sectorOf, .selects RX5 yX5_sectorOf yX5_sectorOf, .code yX5_sectorOf cX5_sectorOf 2 (some .int), .methodLink RX5 61 yX5_takes, .instanceMethod yX5_takes, .selects RX5 yX5_takes yX5_takes, .code yX5_takes cX5_takes 5 (some .int), .methodLink RX5 75 yX5_goes, .instanceMethod yX5_goes, .selects RX5 yX5_goes yX5_goes, .code yX5_goes cX5_goes 2 none] ++ wsX50)
def wsX5_doRefresh_r1 : List Cond := [Cond.fieldLink RX5 7 "GrooveTurnsModel" "all" "[I", Cond.methodLink RX5 53 yX5_sectorOf, Cond.instanceMethod yX5_sectorOf, Cond.selects RX5 yX5_sectorOf yX5_sectorOf, Cond.initialized RX5, Cond.code yX5_sectorOf cX5_sectorOf 2 (some .int), Cond.methodLink RX5 85 yX5_doRead, Cond.instanceMethod yX5_doRead, Cond.selects RX5 yX5_doRead yX5_doRead, Cond.code yX5_doRead cX5_doRead 3 (some .int), Cond.constant RX5 74 (9999999), Cond.methodLink RX5 82 yX5_canBeRead, Cond.instanceMethod yX5_canBeRead, Cond.selects RX5 yX5_canBeRead yX5_canBeRead, Cond.code yX5_canBeRead cX5_canBeRead 2 (some .boolean), Cond.methodLink RX5 57 yX5_holds, Cond.instanceMethod yX5_holds, Cond.selects RX5 yX5_holds yX5_holds, Cond.code yX5_holds cX5_holds 2 (some .boolean), Cond.methodLink RX5 61 yX5_takes, Cond.instanceMethod yX5_takes, Cond.selects RX5 yX5_takes yX5_takes, Cond.code yX5_takes cX5_takes 5 (some .int), Cond.methodLink RX5 75 yX5_goes]
def wsX5_doRefresh_r2 : List Cond := [Cond.instanceMethod yX5_goes, Cond.selects RX5 yX5_goes yX5_goes, Cond.code yX5_goes cX5_goes 2 none, Cond.methodLink RX5 88 yX5_doWrite, Cond.instanceMethod yX5_doWrite, Cond.selects RX5 yX5_doWrite yX5_doWrite, Cond.code yX5_doWrite cX5_doWrite 5 (some .int), Cond.methodLink RX5 67 yX5_sectorToWrite, Cond.instanceMethod yX5_sectorToWrite, Cond.selects RX5 yX5_sectorToWrite yX5_sectorToWrite, Cond.code yX5_sectorToWrite cX5_sectorToWrite 4 (some .int), Cond.methodLink RX5 79 yX5_puts, Cond.instanceMethod yX5_puts, Cond.selects RX5 yX5_puts yX5_puts, Cond.code yX5_puts cX5_puts 4 none, Cond.methodLink RX5 70 yX5_heats, Cond.instanceMethod yX5_heats, Cond.selects RX5 yX5_heats yX5_heats, Cond.code yX5_heats cX5_heats 4 none, Cond.methodLink RX5 64 yX5_isAddress, Cond.static yX5_isAddress, Cond.code yX5_isAddress cX5_isAddress 1 (some .boolean), Cond.constantLong RX5 47 (191), Cond.methodLink RX5 49 yX5_in]
def wsX5_doRefresh_r3 : List Cond := [Cond.static yX5_in, Cond.code yX5_in cX5_in 6 (some .boolean)]
def wsX5_doRefresh : List Cond := .code yX5_doRefresh cX5_doRefresh 5 (some .int) :: ((wsX5_doRefresh_r1 ++ (wsX5_doRefresh_r2 ++ wsX5_doRefresh_r3)) ++ wsX50)
def wsX5_isSetting : List Cond := .code yX5_isSetting cX5_isSetting 2 (some .boolean) :: ([.constantLong RX5 92 (20), .constantLong RX5 94 (5), .constantLong RX5 96 (99), .methodLink RX5 49 yX5_in, .static yX5_in, .initialized RX5, .code yX5_in cX5_in 6 (some .boolean)])
def wsX5_set_r1 : List Cond := [Cond.fieldLink RX5 7 "GrooveTurnsModel" "all" "[I", Cond.methodLink RX5 98 yX5_isSetting, Cond.static yX5_isSetting, Cond.initialized RX5, Cond.code yX5_isSetting cX5_isSetting 2 (some .boolean), Cond.constantLong RX5 92 (20), Cond.constantLong RX5 94 (5), Cond.constantLong RX5 96 (99), Cond.methodLink RX5 49 yX5_in, Cond.static yX5_in, Cond.code yX5_in cX5_in 6 (some .boolean), Cond.methodLink RX5 102 yX5_keeps, Cond.instanceMethod yX5_keeps, Cond.selects RX5 yX5_keeps yX5_keeps, Cond.code yX5_keeps cX5_keeps 2 none, Cond.fieldLink RX5 13 "GrooveTurnsModel" "kept" "[I", Cond.methodLink RX5 105 yX5_ends, Cond.instanceMethod yX5_ends, Cond.selects RX5 yX5_ends yX5_ends, Cond.code yX5_ends cX5_ends 2 (some .int), Cond.methodLink RX5 41 yX5_comesBack, Cond.instanceMethod yX5_comesBack, Cond.selects RX5 yX5_comesBack yX5_comesBack, Cond.code yX5_comesBack cX5_comesBack 2 none]
def wsX5_set_r2 : List Cond := [Cond.methodLink RX5 44 yX5_records, Cond.instanceMethod yX5_records, Cond.selects RX5 yX5_records yX5_records, Cond.code yX5_records cX5_records 2 none, Cond.fieldLink RX5 37 "GrooveTurnsModel" "historyLong" "I", Cond.fieldLink RX5 16 "GrooveTurnsModel" "history" "[I"]
def wsX5_set : List Cond := .code yX5_set cX5_set 4 (some .int) :: ((wsX5_set_r1 ++ wsX5_set_r2) ++ wsX50)
def wsX5_write_r1 : List Cond := [Cond.constantLong RX5 108 (255), Cond.methodLink RX5 64 yX5_isAddress, Cond.static yX5_isAddress, Cond.initialized RX5, Cond.code yX5_isAddress cX5_isAddress 1 (some .boolean), Cond.constantLong RX5 47 (191), Cond.methodLink RX5 49 yX5_in, Cond.static yX5_in, Cond.code yX5_in cX5_in 6 (some .boolean), Cond.methodLink RX5 102 yX5_keeps, Cond.instanceMethod yX5_keeps, Cond.selects RX5 yX5_keeps yX5_keeps, Cond.code yX5_keeps cX5_keeps 2 none, Cond.fieldLink RX5 13 "GrooveTurnsModel" "kept" "[I", Cond.fieldLink RX5 7 "GrooveTurnsModel" "all" "[I", Cond.methodLink RX5 88 yX5_doWrite, Cond.instanceMethod yX5_doWrite, Cond.selects RX5 yX5_doWrite yX5_doWrite, Cond.code yX5_doWrite cX5_doWrite 5 (some .int), Cond.constant RX5 74 (9999999), Cond.methodLink RX5 67 yX5_sectorToWrite, Cond.instanceMethod yX5_sectorToWrite, Cond.selects RX5 yX5_sectorToWrite yX5_sectorToWrite, Cond.code yX5_sectorToWrite cX5_sectorToWrite 4 (some .int)]
def wsX5_write_r2 : List Cond := [Cond.methodLink RX5 53 yX5_sectorOf, Cond.instanceMethod yX5_sectorOf, Cond.selects RX5 yX5_sectorOf yX5_sectorOf, Cond.code yX5_sectorOf cX5_sectorOf 2 (some .int), Cond.methodLink RX5 61 yX5_takes, Cond.instanceMethod yX5_takes, Cond.selects RX5 yX5_takes yX5_takes, Cond.code yX5_takes cX5_takes 5 (some .int), Cond.methodLink RX5 75 yX5_goes, Cond.instanceMethod yX5_goes, Cond.selects RX5 yX5_goes yX5_goes, Cond.code yX5_goes cX5_goes 2 none, Cond.methodLink RX5 79 yX5_puts, Cond.instanceMethod yX5_puts, Cond.selects RX5 yX5_puts yX5_puts, Cond.code yX5_puts cX5_puts 4 none, Cond.methodLink RX5 70 yX5_heats, Cond.instanceMethod yX5_heats, Cond.selects RX5 yX5_heats yX5_heats, Cond.code yX5_heats cX5_heats 4 none, Cond.methodLink RX5 105 yX5_ends, Cond.instanceMethod yX5_ends, Cond.selects RX5 yX5_ends yX5_ends, Cond.code yX5_ends cX5_ends 2 (some .int)]
def wsX5_write_r3 : List Cond := [Cond.methodLink RX5 41 yX5_comesBack, Cond.instanceMethod yX5_comesBack, Cond.selects RX5 yX5_comesBack yX5_comesBack, Cond.code yX5_comesBack cX5_comesBack 2 none, Cond.methodLink RX5 44 yX5_records, Cond.instanceMethod yX5_records, Cond.selects RX5 yX5_records yX5_records, Cond.code yX5_records cX5_records 2 none, Cond.fieldLink RX5 37 "GrooveTurnsModel" "historyLong" "I", Cond.fieldLink RX5 16 "GrooveTurnsModel" "history" "[I"]
def wsX5_write : List Cond := .code yX5_write cX5_write 3 (some .int) :: ((wsX5_write_r1 ++ (wsX5_write_r2 ++ wsX5_write_r3)) ++ wsX50)
def wsX5_read_r1 : List Cond := [Cond.methodLink RX5 64 yX5_isAddress, Cond.static yX5_isAddress, Cond.initialized RX5, Cond.code yX5_isAddress cX5_isAddress 1 (some .boolean), Cond.constantLong RX5 47 (191), Cond.methodLink RX5 49 yX5_in, Cond.static yX5_in, Cond.code yX5_in cX5_in 6 (some .boolean), Cond.methodLink RX5 102 yX5_keeps, Cond.instanceMethod yX5_keeps, Cond.selects RX5 yX5_keeps yX5_keeps, Cond.code yX5_keeps cX5_keeps 2 none, Cond.fieldLink RX5 13 "GrooveTurnsModel" "kept" "[I", Cond.fieldLink RX5 7 "GrooveTurnsModel" "all" "[I", Cond.methodLink RX5 85 yX5_doRead, Cond.instanceMethod yX5_doRead, Cond.selects RX5 yX5_doRead yX5_doRead, Cond.code yX5_doRead cX5_doRead 3 (some .int), Cond.constant RX5 74 (9999999), Cond.methodLink RX5 82 yX5_canBeRead, Cond.instanceMethod yX5_canBeRead, Cond.selects RX5 yX5_canBeRead yX5_canBeRead, Cond.code yX5_canBeRead cX5_canBeRead 2 (some .boolean), Cond.methodLink RX5 57 yX5_holds]
def wsX5_read_r2 : List Cond := [Cond.instanceMethod yX5_holds, Cond.selects RX5 yX5_holds yX5_holds, Cond.code yX5_holds cX5_holds 2 (some .boolean), Cond.methodLink RX5 53 yX5_sectorOf, Cond.instanceMethod yX5_sectorOf, Cond.selects RX5 yX5_sectorOf yX5_sectorOf, Cond.code yX5_sectorOf cX5_sectorOf 2 (some .int), Cond.methodLink RX5 61 yX5_takes, Cond.instanceMethod yX5_takes, Cond.selects RX5 yX5_takes yX5_takes, Cond.code yX5_takes cX5_takes 5 (some .int), Cond.methodLink RX5 75 yX5_goes, Cond.instanceMethod yX5_goes, Cond.selects RX5 yX5_goes yX5_goes, Cond.code yX5_goes cX5_goes 2 none, Cond.methodLink RX5 105 yX5_ends, Cond.instanceMethod yX5_ends, Cond.selects RX5 yX5_ends yX5_ends, Cond.code yX5_ends cX5_ends 2 (some .int), Cond.methodLink RX5 41 yX5_comesBack, Cond.instanceMethod yX5_comesBack, Cond.selects RX5 yX5_comesBack yX5_comesBack, Cond.code yX5_comesBack cX5_comesBack 2 none, Cond.methodLink RX5 44 yX5_records]
def wsX5_read_r3 : List Cond := [Cond.instanceMethod yX5_records, Cond.selects RX5 yX5_records yX5_records, Cond.code yX5_records cX5_records 2 none, Cond.fieldLink RX5 37 "GrooveTurnsModel" "historyLong" "I", Cond.fieldLink RX5 16 "GrooveTurnsModel" "history" "[I"]
def wsX5_read : List Cond := .code yX5_read cX5_read 2 (some .int) :: ((wsX5_read_r1 ++ (wsX5_read_r2 ++ wsX5_read_r3)) ++ wsX50)
def wsX5_refresh_r1 : List Cond := [Cond.methodLink RX5 64 yX5_isAddress, Cond.static yX5_isAddress, Cond.initialized RX5, Cond.code yX5_isAddress cX5_isAddress 1 (some .boolean), Cond.constantLong RX5 47 (191), Cond.methodLink RX5 49 yX5_in, Cond.static yX5_in, Cond.code yX5_in cX5_in 6 (some .boolean), Cond.methodLink RX5 102 yX5_keeps, Cond.instanceMethod yX5_keeps, Cond.selects RX5 yX5_keeps yX5_keeps, Cond.code yX5_keeps cX5_keeps 2 none, Cond.fieldLink RX5 13 "GrooveTurnsModel" "kept" "[I", Cond.fieldLink RX5 7 "GrooveTurnsModel" "all" "[I", Cond.methodLink RX5 110 yX5_doRefresh, Cond.instanceMethod yX5_doRefresh, Cond.selects RX5 yX5_doRefresh yX5_doRefresh, Cond.code yX5_doRefresh cX5_doRefresh 5 (some .int), Cond.methodLink RX5 53 yX5_sectorOf, Cond.instanceMethod yX5_sectorOf, Cond.selects RX5 yX5_sectorOf yX5_sectorOf, Cond.code yX5_sectorOf cX5_sectorOf 2 (some .int), Cond.methodLink RX5 85 yX5_doRead, Cond.instanceMethod yX5_doRead]
def wsX5_refresh_r2 : List Cond := [Cond.selects RX5 yX5_doRead yX5_doRead, Cond.code yX5_doRead cX5_doRead 3 (some .int), Cond.constant RX5 74 (9999999), Cond.methodLink RX5 82 yX5_canBeRead, Cond.instanceMethod yX5_canBeRead, Cond.selects RX5 yX5_canBeRead yX5_canBeRead, Cond.code yX5_canBeRead cX5_canBeRead 2 (some .boolean), Cond.methodLink RX5 57 yX5_holds, Cond.instanceMethod yX5_holds, Cond.selects RX5 yX5_holds yX5_holds, Cond.code yX5_holds cX5_holds 2 (some .boolean), Cond.methodLink RX5 61 yX5_takes, Cond.instanceMethod yX5_takes, Cond.selects RX5 yX5_takes yX5_takes, Cond.code yX5_takes cX5_takes 5 (some .int), Cond.methodLink RX5 75 yX5_goes, Cond.instanceMethod yX5_goes, Cond.selects RX5 yX5_goes yX5_goes, Cond.code yX5_goes cX5_goes 2 none, Cond.methodLink RX5 88 yX5_doWrite, Cond.instanceMethod yX5_doWrite, Cond.selects RX5 yX5_doWrite yX5_doWrite, Cond.code yX5_doWrite cX5_doWrite 5 (some .int), Cond.methodLink RX5 67 yX5_sectorToWrite]
def wsX5_refresh_r3 : List Cond := [Cond.instanceMethod yX5_sectorToWrite, Cond.selects RX5 yX5_sectorToWrite yX5_sectorToWrite, Cond.code yX5_sectorToWrite cX5_sectorToWrite 4 (some .int), Cond.methodLink RX5 79 yX5_puts, Cond.instanceMethod yX5_puts, Cond.selects RX5 yX5_puts yX5_puts, Cond.code yX5_puts cX5_puts 4 none, Cond.methodLink RX5 70 yX5_heats, Cond.instanceMethod yX5_heats, Cond.selects RX5 yX5_heats yX5_heats, Cond.code yX5_heats cX5_heats 4 none, Cond.methodLink RX5 105 yX5_ends, Cond.instanceMethod yX5_ends, Cond.selects RX5 yX5_ends yX5_ends, Cond.code yX5_ends cX5_ends 2 (some .int), Cond.methodLink RX5 41 yX5_comesBack, Cond.instanceMethod yX5_comesBack, Cond.selects RX5 yX5_comesBack yX5_comesBack, Cond.code yX5_comesBack cX5_comesBack 2 none, Cond.methodLink RX5 44 yX5_records, Cond.instanceMethod yX5_records, Cond.selects RX5 yX5_records yX5_records, Cond.code yX5_records cX5_records 2 none, Cond.fieldLink RX5 37 "GrooveTurnsModel" "historyLong" "I"]
def wsX5_refresh_r4 : List Cond := [Cond.fieldLink RX5 16 "GrooveTurnsModel" "history" "[I"]
def wsX5_refresh : List Cond := .code yX5_refresh cX5_refresh 2 (some .int) :: ((wsX5_refresh_r1 ++ (wsX5_refresh_r2 ++ (wsX5_refresh_r3 ++ wsX5_refresh_r4))) ++ wsX50)
def wsX5_seek_r1 : List Cond := [Cond.constantLong RX5 113 (16), Cond.fieldLink RX5 7 "GrooveTurnsModel" "all" "[I", Cond.constant RX5 74 (9999999), Cond.methodLink RX5 49 yX5_in, Cond.static yX5_in, Cond.initialized RX5, Cond.code yX5_in cX5_in 6 (some .boolean), Cond.methodLink RX5 102 yX5_keeps, Cond.instanceMethod yX5_keeps, Cond.selects RX5 yX5_keeps yX5_keeps, Cond.code yX5_keeps cX5_keeps 2 none, Cond.fieldLink RX5 13 "GrooveTurnsModel" "kept" "[I", Cond.methodLink RX5 105 yX5_ends, Cond.instanceMethod yX5_ends, Cond.selects RX5 yX5_ends yX5_ends, Cond.code yX5_ends cX5_ends 2 (some .int), Cond.methodLink RX5 41 yX5_comesBack, Cond.instanceMethod yX5_comesBack, Cond.selects RX5 yX5_comesBack yX5_comesBack, Cond.code yX5_comesBack cX5_comesBack 2 none, Cond.methodLink RX5 44 yX5_records, Cond.instanceMethod yX5_records, Cond.selects RX5 yX5_records yX5_records, Cond.code yX5_records cX5_records 2 none]
def wsX5_seek_r2 : List Cond := [Cond.fieldLink RX5 37 "GrooveTurnsModel" "historyLong" "I", Cond.fieldLink RX5 16 "GrooveTurnsModel" "history" "[I"]
def wsX5_seek : List Cond := .code yX5_seek cX5_seek 4 (some .int) :: ((wsX5_seek_r1 ++ wsX5_seek_r2) ++ wsX50)
def wsX5_idle_r1 : List Cond := [Cond.constantLong RX5 115 (9999), Cond.fieldLink RX5 7 "GrooveTurnsModel" "all" "[I", Cond.constant RX5 74 (9999999), Cond.methodLink RX5 49 yX5_in, Cond.static yX5_in, Cond.initialized RX5, Cond.code yX5_in cX5_in 6 (some .boolean), Cond.methodLink RX5 102 yX5_keeps, Cond.instanceMethod yX5_keeps, Cond.selects RX5 yX5_keeps yX5_keeps, Cond.code yX5_keeps cX5_keeps 2 none, Cond.fieldLink RX5 13 "GrooveTurnsModel" "kept" "[I", Cond.methodLink RX5 105 yX5_ends, Cond.instanceMethod yX5_ends, Cond.selects RX5 yX5_ends yX5_ends, Cond.code yX5_ends cX5_ends 2 (some .int), Cond.methodLink RX5 41 yX5_comesBack, Cond.instanceMethod yX5_comesBack, Cond.selects RX5 yX5_comesBack yX5_comesBack, Cond.code yX5_comesBack cX5_comesBack 2 none, Cond.methodLink RX5 44 yX5_records, Cond.instanceMethod yX5_records, Cond.selects RX5 yX5_records yX5_records, Cond.code yX5_records cX5_records 2 none]
def wsX5_idle_r2 : List Cond := [Cond.fieldLink RX5 37 "GrooveTurnsModel" "historyLong" "I", Cond.fieldLink RX5 16 "GrooveTurnsModel" "history" "[I"]
def wsX5_idle : List Cond := .code yX5_idle cX5_idle 2 (some .int) :: ((wsX5_idle_r1 ++ wsX5_idle_r2) ++ wsX50)
def wsX5_sector : List Cond := .code yX5_sector cX5_sector 4 (some .int) :: ([.fieldLink RX5 7 "GrooveTurnsModel" "all" "[I", .methodLink RX5 64 yX5_isAddress, .static yX5_isAddress, .initialized RX5, .code yX5_isAddress cX5_isAddress 1 (some .boolean), .constantLong RX5 47 (191), .methodLink RX5 49 yX5_in, .static yX5_in, .code yX5_in cX5_in 6 (some .boolean), .methodLink RX5 53 yX5_sectorOf, .instanceMethod yX5_sectorOf, .selects RX5 yX5_sectorOf yX5_sectorOf, .code yX5_sectorOf cX5_sectorOf 2 (some .int), .methodLink RX5 82 yX5_canBeRead, .instanceMethod yX5_canBeRead, .selects RX5 yX5_canBeRead yX5_canBeRead, .code yX5_canBeRead cX5_canBeRead 2 (some .boolean), .methodLink RX5 57 yX5_holds, .instanceMethod yX5_holds, .selects RX5 yX5_holds yX5_holds, .code yX5_holds cX5_holds 2 (some .boolean)] ++ wsX50)
def wsX5_addresses : List Cond := .code yX5_addresses cX5_addresses 6 (some .int) :: ([.methodLink RX5 57 yX5_holds, .instanceMethod yX5_holds, .selects RX5 yX5_holds yX5_holds, .initialized RX5, .code yX5_holds cX5_holds 2 (some .boolean), .fieldLink RX5 7 "GrooveTurnsModel" "all" "[I", .methodLink RX5 53 yX5_sectorOf, .instanceMethod yX5_sectorOf, .selects RX5 yX5_sectorOf yX5_sectorOf, .code yX5_sectorOf cX5_sectorOf 2 (some .int), .methodLink RX5 82 yX5_canBeRead, .instanceMethod yX5_canBeRead, .selects RX5 yX5_canBeRead yX5_canBeRead, .code yX5_canBeRead cX5_canBeRead 2 (some .boolean)] ++ wsX50)
def wsX5_sumOn : List Cond := .code yX5_sumOn cX5_sumOn 5 (some .int) :: ([.fieldLink RX5 7 "GrooveTurnsModel" "all" "[I"] ++ wsX50)
def wsX5_track_r1 : List Cond := [Cond.constantLong RX5 113 (16), Cond.methodLink RX5 49 yX5_in, Cond.static yX5_in, Cond.initialized RX5, Cond.code yX5_in cX5_in 6 (some .boolean), Cond.methodLink RX5 117 yX5_addresses, Cond.instanceMethod yX5_addresses, Cond.selects RX5 yX5_addresses yX5_addresses, Cond.code yX5_addresses cX5_addresses 6 (some .int), Cond.methodLink RX5 57 yX5_holds, Cond.instanceMethod yX5_holds, Cond.selects RX5 yX5_holds yX5_holds, Cond.code yX5_holds cX5_holds 2 (some .boolean), Cond.fieldLink RX5 7 "GrooveTurnsModel" "all" "[I", Cond.methodLink RX5 53 yX5_sectorOf, Cond.instanceMethod yX5_sectorOf, Cond.selects RX5 yX5_sectorOf yX5_sectorOf, Cond.code yX5_sectorOf cX5_sectorOf 2 (some .int), Cond.methodLink RX5 82 yX5_canBeRead, Cond.instanceMethod yX5_canBeRead, Cond.selects RX5 yX5_canBeRead yX5_canBeRead, Cond.code yX5_canBeRead cX5_canBeRead 2 (some .boolean), Cond.methodLink RX5 121 yX5_sumOn, Cond.instanceMethod yX5_sumOn]
def wsX5_track_r2 : List Cond := [Cond.selects RX5 yX5_sumOn yX5_sumOn, Cond.code yX5_sumOn cX5_sumOn 5 (some .int)]
def wsX5_track : List Cond := .code yX5_track cX5_track 3 (some .int) :: ((wsX5_track_r1 ++ wsX5_track_r2) ++ wsX50)
def wsX5_greatestBlur : List Cond := .code yX5_greatestBlur cX5_greatestBlur 4 (some .int) :: ([.fieldLink RX5 7 "GrooveTurnsModel" "all" "[I", .methodLink RX5 53 yX5_sectorOf, .instanceMethod yX5_sectorOf, .selects RX5 yX5_sectorOf yX5_sectorOf, .initialized RX5, .code yX5_sectorOf cX5_sectorOf 2 (some .int)] ++ wsX50)
def wsX5_count_r1 : List Cond := [Cond.fieldLink RX5 7 "GrooveTurnsModel" "all" "[I", Cond.fieldLink RX5 128 "GrooveTurnsModel" "textLong" "I", Cond.fieldLink RX5 37 "GrooveTurnsModel" "historyLong" "I", Cond.constantLong RX5 131 (6), Cond.methodLink RX5 117 yX5_addresses, Cond.instanceMethod yX5_addresses, Cond.selects RX5 yX5_addresses yX5_addresses, Cond.initialized RX5, Cond.code yX5_addresses cX5_addresses 6 (some .int), Cond.methodLink RX5 57 yX5_holds, Cond.instanceMethod yX5_holds, Cond.selects RX5 yX5_holds yX5_holds, Cond.code yX5_holds cX5_holds 2 (some .boolean), Cond.methodLink RX5 53 yX5_sectorOf, Cond.instanceMethod yX5_sectorOf, Cond.selects RX5 yX5_sectorOf yX5_sectorOf, Cond.code yX5_sectorOf cX5_sectorOf 2 (some .int), Cond.methodLink RX5 82 yX5_canBeRead, Cond.instanceMethod yX5_canBeRead, Cond.selects RX5 yX5_canBeRead yX5_canBeRead, Cond.code yX5_canBeRead cX5_canBeRead 2 (some .boolean), Cond.methodLink RX5 124 yX5_greatestBlur, Cond.instanceMethod yX5_greatestBlur, Cond.selects RX5 yX5_greatestBlur yX5_greatestBlur]
def wsX5_count_r2 : List Cond := [Cond.code yX5_greatestBlur cX5_greatestBlur 4 (some .int), Cond.methodLink RX5 49 yX5_in, Cond.static yX5_in, Cond.code yX5_in cX5_in 6 (some .boolean)]
def wsX5_count : List Cond := .code yX5_count cX5_count 2 (some .int) :: ((wsX5_count_r1 ++ wsX5_count_r2) ++ wsX50)
def wsX5_ticksFor : List Cond := .code yX5_ticksFor cX5_ticksFor 3 (some .int) :: ([.methodLink RX5 64 yX5_isAddress, .static yX5_isAddress, .initialized RX5, .code yX5_isAddress cX5_isAddress 1 (some .boolean), .constantLong RX5 47 (191), .methodLink RX5 49 yX5_in, .static yX5_in, .code yX5_in cX5_in 6 (some .boolean), .methodLink RX5 67 yX5_sectorToWrite, .instanceMethod yX5_sectorToWrite, .selects RX5 yX5_sectorToWrite yX5_sectorToWrite, .code yX5_sectorToWrite cX5_sectorToWrite 4 (some .int), .fieldLink RX5 7 "GrooveTurnsModel" "all" "[I", .methodLink RX5 53 yX5_sectorOf, .instanceMethod yX5_sectorOf, .selects RX5 yX5_sectorOf yX5_sectorOf, .code yX5_sectorOf cX5_sectorOf 2 (some .int), .methodLink RX5 61 yX5_takes, .instanceMethod yX5_takes, .selects RX5 yX5_takes yX5_takes, .code yX5_takes cX5_takes 5 (some .int)] ++ wsX50)
def wsX5_isHere : List Cond := .code yX5_isHere cX5_isHere 3 (some .boolean) :: ([.fieldLink RX5 148 "GrooveTurnsModel" "spot" "I", .fieldLink RX5 128 "GrooveTurnsModel" "textLong" "I", .fieldLink RX5 25 "GrooveTurnsModel" "text" "[I", .methodLink RX5 49 yX5_in, .static yX5_in, .initialized RX5, .code yX5_in cX5_in 6 (some .boolean)] ++ wsX50)
def wsX5_takesOne : List Cond := .code yX5_takesOne cX5_takesOne 3 (some .boolean) :: ([.fieldLink RX5 148 "GrooveTurnsModel" "spot" "I", .methodLink RX5 151 yX5_isHere, .instanceMethod yX5_isHere, .selects RX5 yX5_isHere yX5_isHere, .initialized RX5, .code yX5_isHere cX5_isHere 3 (some .boolean), .fieldLink RX5 128 "GrooveTurnsModel" "textLong" "I", .fieldLink RX5 25 "GrooveTurnsModel" "text" "[I", .methodLink RX5 49 yX5_in, .static yX5_in, .code yX5_in cX5_in 6 (some .boolean)] ++ wsX50)
def wsX5_readsNumber : List Cond := .code yX5_readsNumber cX5_readsNumber 3 (some .boolean) :: ([.fieldLink RX5 25 "GrooveTurnsModel" "text" "[I", .fieldLink RX5 148 "GrooveTurnsModel" "spot" "I", .fieldLink RX5 154 "GrooveTurnsModel" "number" "I", .methodLink RX5 151 yX5_isHere, .instanceMethod yX5_isHere, .selects RX5 yX5_isHere yX5_isHere, .initialized RX5, .code yX5_isHere cX5_isHere 3 (some .boolean), .fieldLink RX5 128 "GrooveTurnsModel" "textLong" "I", .methodLink RX5 49 yX5_in, .static yX5_in, .code yX5_in cX5_in 6 (some .boolean)] ++ wsX50)
def wsX5_readsRequest : List Cond := .code yX5_readsRequest cX5_readsRequest 2 (some .boolean) :: ([.fieldLink RX5 28 "GrooveTurnsModel" "asked" "[I", .fieldLink RX5 163 "GrooveTurnsModel" "requests" "I", .fieldLink RX5 154 "GrooveTurnsModel" "number" "I", .fieldLink RX5 31 "GrooveTurnsModel" "numbers" "[I", .methodLink RX5 151 yX5_isHere, .instanceMethod yX5_isHere, .selects RX5 yX5_isHere yX5_isHere, .initialized RX5, .code yX5_isHere cX5_isHere 3 (some .boolean), .fieldLink RX5 148 "GrooveTurnsModel" "spot" "I", .fieldLink RX5 128 "GrooveTurnsModel" "textLong" "I", .fieldLink RX5 25 "GrooveTurnsModel" "text" "[I", .methodLink RX5 49 yX5_in, .static yX5_in, .code yX5_in cX5_in 6 (some .boolean), .methodLink RX5 157 yX5_takesOne, .instanceMethod yX5_takesOne, .selects RX5 yX5_takesOne yX5_takesOne, .code yX5_takesOne cX5_takesOne 3 (some .boolean), .methodLink RX5 160 yX5_readsNumber, .instanceMethod yX5_readsNumber, .selects RX5 yX5_readsNumber yX5_readsNumber, .code yX5_readsNumber cX5_readsNumber 3 (some .boolean)] ++ wsX50)
def wsX5_fault_r1 : List Cond := [Cond.fieldLink RX5 148 "GrooveTurnsModel" "spot" "I", Cond.fieldLink RX5 163 "GrooveTurnsModel" "requests" "I", Cond.fieldLink RX5 128 "GrooveTurnsModel" "textLong" "I", Cond.methodLink RX5 166 yX5_readsRequest, Cond.instanceMethod yX5_readsRequest, Cond.selects RX5 yX5_readsRequest yX5_readsRequest, Cond.initialized RX5, Cond.code yX5_readsRequest cX5_readsRequest 2 (some .boolean), Cond.fieldLink RX5 28 "GrooveTurnsModel" "asked" "[I", Cond.fieldLink RX5 154 "GrooveTurnsModel" "number" "I", Cond.fieldLink RX5 31 "GrooveTurnsModel" "numbers" "[I", Cond.methodLink RX5 151 yX5_isHere, Cond.instanceMethod yX5_isHere, Cond.selects RX5 yX5_isHere yX5_isHere, Cond.code yX5_isHere cX5_isHere 3 (some .boolean), Cond.fieldLink RX5 25 "GrooveTurnsModel" "text" "[I", Cond.methodLink RX5 49 yX5_in, Cond.static yX5_in, Cond.code yX5_in cX5_in 6 (some .boolean), Cond.methodLink RX5 157 yX5_takesOne, Cond.instanceMethod yX5_takesOne, Cond.selects RX5 yX5_takesOne yX5_takesOne, Cond.code yX5_takesOne cX5_takesOne 3 (some .boolean), Cond.methodLink RX5 160 yX5_readsNumber]
def wsX5_fault_r2 : List Cond := [Cond.instanceMethod yX5_readsNumber, Cond.selects RX5 yX5_readsNumber yX5_readsNumber, Cond.code yX5_readsNumber cX5_readsNumber 3 (some .boolean)]
def wsX5_fault : List Cond := .code yX5_fault cX5_fault 2 (some .int) :: ((wsX5_fault_r1 ++ wsX5_fault_r2) ++ wsX50)
def wsX5_isDone_r1 : List Cond := [Cond.fieldLink RX5 31 "GrooveTurnsModel" "numbers" "[I", Cond.fieldLink RX5 28 "GrooveTurnsModel" "asked" "[I", Cond.methodLink RX5 85 yX5_doRead, Cond.instanceMethod yX5_doRead, Cond.selects RX5 yX5_doRead yX5_doRead, Cond.initialized RX5, Cond.code yX5_doRead cX5_doRead 3 (some .int), Cond.fieldLink RX5 7 "GrooveTurnsModel" "all" "[I", Cond.constant RX5 74 (9999999), Cond.methodLink RX5 82 yX5_canBeRead, Cond.instanceMethod yX5_canBeRead, Cond.selects RX5 yX5_canBeRead yX5_canBeRead, Cond.code yX5_canBeRead cX5_canBeRead 2 (some .boolean), Cond.methodLink RX5 57 yX5_holds, Cond.instanceMethod yX5_holds, Cond.selects RX5 yX5_holds yX5_holds, Cond.code yX5_holds cX5_holds 2 (some .boolean), Cond.methodLink RX5 53 yX5_sectorOf, Cond.instanceMethod yX5_sectorOf, Cond.selects RX5 yX5_sectorOf yX5_sectorOf, Cond.code yX5_sectorOf cX5_sectorOf 2 (some .int), Cond.methodLink RX5 61 yX5_takes, Cond.instanceMethod yX5_takes, Cond.selects RX5 yX5_takes yX5_takes]
def wsX5_isDone_r2 : List Cond := [Cond.code yX5_takes cX5_takes 5 (some .int), Cond.methodLink RX5 75 yX5_goes, Cond.instanceMethod yX5_goes, Cond.selects RX5 yX5_goes yX5_goes, Cond.code yX5_goes cX5_goes 2 none, Cond.methodLink RX5 88 yX5_doWrite, Cond.instanceMethod yX5_doWrite, Cond.selects RX5 yX5_doWrite yX5_doWrite, Cond.code yX5_doWrite cX5_doWrite 5 (some .int), Cond.methodLink RX5 67 yX5_sectorToWrite, Cond.instanceMethod yX5_sectorToWrite, Cond.selects RX5 yX5_sectorToWrite yX5_sectorToWrite, Cond.code yX5_sectorToWrite cX5_sectorToWrite 4 (some .int), Cond.methodLink RX5 79 yX5_puts, Cond.instanceMethod yX5_puts, Cond.selects RX5 yX5_puts yX5_puts, Cond.code yX5_puts cX5_puts 4 none, Cond.methodLink RX5 70 yX5_heats, Cond.instanceMethod yX5_heats, Cond.selects RX5 yX5_heats yX5_heats, Cond.code yX5_heats cX5_heats 4 none, Cond.methodLink RX5 64 yX5_isAddress, Cond.static yX5_isAddress, Cond.code yX5_isAddress cX5_isAddress 1 (some .boolean)]
def wsX5_isDone_r3 : List Cond := [Cond.constantLong RX5 47 (191), Cond.methodLink RX5 49 yX5_in, Cond.static yX5_in, Cond.code yX5_in cX5_in 6 (some .boolean)]
def wsX5_isDone : List Cond := .code yX5_isDone cX5_isDone 3 (some .boolean) :: ((wsX5_isDone_r1 ++ (wsX5_isDone_r2 ++ wsX5_isDone_r3)) ++ wsX50)
def wsX5_runs_r1 : List Cond := [Cond.fieldLink RX5 163 "GrooveTurnsModel" "requests" "I", Cond.fieldLink RX5 34 "GrooveTurnsModel" "trackOf" "[I", Cond.fieldLink RX5 28 "GrooveTurnsModel" "asked" "[I", Cond.methodLink RX5 53 yX5_sectorOf, Cond.instanceMethod yX5_sectorOf, Cond.selects RX5 yX5_sectorOf yX5_sectorOf, Cond.initialized RX5, Cond.code yX5_sectorOf cX5_sectorOf 2 (some .int), Cond.fieldLink RX5 7 "GrooveTurnsModel" "all" "[I", Cond.methodLink RX5 170 yX5_isDone, Cond.instanceMethod yX5_isDone, Cond.selects RX5 yX5_isDone yX5_isDone, Cond.code yX5_isDone cX5_isDone 3 (some .boolean), Cond.fieldLink RX5 31 "GrooveTurnsModel" "numbers" "[I", Cond.methodLink RX5 85 yX5_doRead, Cond.instanceMethod yX5_doRead, Cond.selects RX5 yX5_doRead yX5_doRead, Cond.code yX5_doRead cX5_doRead 3 (some .int), Cond.constant RX5 74 (9999999), Cond.methodLink RX5 82 yX5_canBeRead, Cond.instanceMethod yX5_canBeRead, Cond.selects RX5 yX5_canBeRead yX5_canBeRead, Cond.code yX5_canBeRead cX5_canBeRead 2 (some .boolean), Cond.methodLink RX5 57 yX5_holds]
def wsX5_runs_r2 : List Cond := [Cond.instanceMethod yX5_holds, Cond.selects RX5 yX5_holds yX5_holds, Cond.code yX5_holds cX5_holds 2 (some .boolean), Cond.methodLink RX5 61 yX5_takes, Cond.instanceMethod yX5_takes, Cond.selects RX5 yX5_takes yX5_takes, Cond.code yX5_takes cX5_takes 5 (some .int), Cond.methodLink RX5 75 yX5_goes, Cond.instanceMethod yX5_goes, Cond.selects RX5 yX5_goes yX5_goes, Cond.code yX5_goes cX5_goes 2 none, Cond.methodLink RX5 88 yX5_doWrite, Cond.instanceMethod yX5_doWrite, Cond.selects RX5 yX5_doWrite yX5_doWrite, Cond.code yX5_doWrite cX5_doWrite 5 (some .int), Cond.methodLink RX5 67 yX5_sectorToWrite, Cond.instanceMethod yX5_sectorToWrite, Cond.selects RX5 yX5_sectorToWrite yX5_sectorToWrite, Cond.code yX5_sectorToWrite cX5_sectorToWrite 4 (some .int), Cond.methodLink RX5 79 yX5_puts, Cond.instanceMethod yX5_puts, Cond.selects RX5 yX5_puts yX5_puts, Cond.code yX5_puts cX5_puts 4 none, Cond.methodLink RX5 70 yX5_heats]
def wsX5_runs_r3 : List Cond := [Cond.instanceMethod yX5_heats, Cond.selects RX5 yX5_heats yX5_heats, Cond.code yX5_heats cX5_heats 4 none, Cond.methodLink RX5 64 yX5_isAddress, Cond.static yX5_isAddress, Cond.code yX5_isAddress cX5_isAddress 1 (some .boolean), Cond.constantLong RX5 47 (191), Cond.methodLink RX5 49 yX5_in, Cond.static yX5_in, Cond.code yX5_in cX5_in 6 (some .boolean)]
def wsX5_runs : List Cond := .code yX5_runs cX5_runs 5 (some .int) :: ((wsX5_runs_r1 ++ (wsX5_runs_r2 ++ wsX5_runs_r3)) ++ wsX50)
def wsX5_ifRun_r1 : List Cond := [Cond.fieldLink RX5 7 "GrooveTurnsModel" "all" "[I", Cond.methodLink RX5 133 yX5_fault, Cond.instanceMethod yX5_fault, Cond.selects RX5 yX5_fault yX5_fault, Cond.initialized RX5, Cond.code yX5_fault cX5_fault 2 (some .int), Cond.fieldLink RX5 148 "GrooveTurnsModel" "spot" "I", Cond.fieldLink RX5 163 "GrooveTurnsModel" "requests" "I", Cond.fieldLink RX5 128 "GrooveTurnsModel" "textLong" "I", Cond.methodLink RX5 166 yX5_readsRequest, Cond.instanceMethod yX5_readsRequest, Cond.selects RX5 yX5_readsRequest yX5_readsRequest, Cond.code yX5_readsRequest cX5_readsRequest 2 (some .boolean), Cond.fieldLink RX5 28 "GrooveTurnsModel" "asked" "[I", Cond.fieldLink RX5 154 "GrooveTurnsModel" "number" "I", Cond.fieldLink RX5 31 "GrooveTurnsModel" "numbers" "[I", Cond.methodLink RX5 151 yX5_isHere, Cond.instanceMethod yX5_isHere, Cond.selects RX5 yX5_isHere yX5_isHere, Cond.code yX5_isHere cX5_isHere 3 (some .boolean), Cond.fieldLink RX5 25 "GrooveTurnsModel" "text" "[I", Cond.methodLink RX5 49 yX5_in, Cond.static yX5_in, Cond.code yX5_in cX5_in 6 (some .boolean)]
def wsX5_ifRun_r2 : List Cond := [Cond.methodLink RX5 157 yX5_takesOne, Cond.instanceMethod yX5_takesOne, Cond.selects RX5 yX5_takesOne yX5_takesOne, Cond.code yX5_takesOne cX5_takesOne 3 (some .boolean), Cond.methodLink RX5 160 yX5_readsNumber, Cond.instanceMethod yX5_readsNumber, Cond.selects RX5 yX5_readsNumber yX5_readsNumber, Cond.code yX5_readsNumber cX5_readsNumber 3 (some .boolean), Cond.methodLink RX5 102 yX5_keeps, Cond.instanceMethod yX5_keeps, Cond.selects RX5 yX5_keeps yX5_keeps, Cond.code yX5_keeps cX5_keeps 2 none, Cond.fieldLink RX5 13 "GrooveTurnsModel" "kept" "[I", Cond.methodLink RX5 136 yX5_runs, Cond.instanceMethod yX5_runs, Cond.selects RX5 yX5_runs yX5_runs, Cond.code yX5_runs cX5_runs 5 (some .int), Cond.fieldLink RX5 34 "GrooveTurnsModel" "trackOf" "[I", Cond.methodLink RX5 53 yX5_sectorOf, Cond.instanceMethod yX5_sectorOf, Cond.selects RX5 yX5_sectorOf yX5_sectorOf, Cond.code yX5_sectorOf cX5_sectorOf 2 (some .int), Cond.methodLink RX5 170 yX5_isDone, Cond.instanceMethod yX5_isDone]
def wsX5_ifRun_r3 : List Cond := [Cond.selects RX5 yX5_isDone yX5_isDone, Cond.code yX5_isDone cX5_isDone 3 (some .boolean), Cond.methodLink RX5 85 yX5_doRead, Cond.instanceMethod yX5_doRead, Cond.selects RX5 yX5_doRead yX5_doRead, Cond.code yX5_doRead cX5_doRead 3 (some .int), Cond.constant RX5 74 (9999999), Cond.methodLink RX5 82 yX5_canBeRead, Cond.instanceMethod yX5_canBeRead, Cond.selects RX5 yX5_canBeRead yX5_canBeRead, Cond.code yX5_canBeRead cX5_canBeRead 2 (some .boolean), Cond.methodLink RX5 57 yX5_holds, Cond.instanceMethod yX5_holds, Cond.selects RX5 yX5_holds yX5_holds, Cond.code yX5_holds cX5_holds 2 (some .boolean), Cond.methodLink RX5 61 yX5_takes, Cond.instanceMethod yX5_takes, Cond.selects RX5 yX5_takes yX5_takes, Cond.code yX5_takes cX5_takes 5 (some .int), Cond.methodLink RX5 75 yX5_goes, Cond.instanceMethod yX5_goes, Cond.selects RX5 yX5_goes yX5_goes, Cond.code yX5_goes cX5_goes 2 none, Cond.methodLink RX5 88 yX5_doWrite]
def wsX5_ifRun_r4 : List Cond := [Cond.instanceMethod yX5_doWrite, Cond.selects RX5 yX5_doWrite yX5_doWrite, Cond.code yX5_doWrite cX5_doWrite 5 (some .int), Cond.methodLink RX5 67 yX5_sectorToWrite, Cond.instanceMethod yX5_sectorToWrite, Cond.selects RX5 yX5_sectorToWrite yX5_sectorToWrite, Cond.code yX5_sectorToWrite cX5_sectorToWrite 4 (some .int), Cond.methodLink RX5 79 yX5_puts, Cond.instanceMethod yX5_puts, Cond.selects RX5 yX5_puts yX5_puts, Cond.code yX5_puts cX5_puts 4 none, Cond.methodLink RX5 70 yX5_heats, Cond.instanceMethod yX5_heats, Cond.selects RX5 yX5_heats yX5_heats, Cond.code yX5_heats cX5_heats 4 none, Cond.methodLink RX5 64 yX5_isAddress, Cond.static yX5_isAddress, Cond.code yX5_isAddress cX5_isAddress 1 (some .boolean), Cond.constantLong RX5 47 (191), Cond.methodLink RX5 41 yX5_comesBack, Cond.instanceMethod yX5_comesBack, Cond.selects RX5 yX5_comesBack yX5_comesBack, Cond.code yX5_comesBack cX5_comesBack 2 none]
def wsX5_ifRun : List Cond := .code yX5_ifRun cX5_ifRun 5 (some .int) :: ((wsX5_ifRun_r1 ++ (wsX5_ifRun_r2 ++ (wsX5_ifRun_r3 ++ wsX5_ifRun_r4))) ++ wsX50)
def wsX5_untilLost_r1 : List Cond := [Cond.methodLink RX5 64 yX5_isAddress, Cond.static yX5_isAddress, Cond.initialized RX5, Cond.code yX5_isAddress cX5_isAddress 1 (some .boolean), Cond.constantLong RX5 47 (191), Cond.methodLink RX5 49 yX5_in, Cond.static yX5_in, Cond.code yX5_in cX5_in 6 (some .boolean), Cond.methodLink RX5 82 yX5_canBeRead, Cond.instanceMethod yX5_canBeRead, Cond.selects RX5 yX5_canBeRead yX5_canBeRead, Cond.code yX5_canBeRead cX5_canBeRead 2 (some .boolean), Cond.fieldLink RX5 7 "GrooveTurnsModel" "all" "[I", Cond.methodLink RX5 57 yX5_holds, Cond.instanceMethod yX5_holds, Cond.selects RX5 yX5_holds yX5_holds, Cond.code yX5_holds cX5_holds 2 (some .boolean), Cond.methodLink RX5 53 yX5_sectorOf, Cond.instanceMethod yX5_sectorOf, Cond.selects RX5 yX5_sectorOf yX5_sectorOf, Cond.code yX5_sectorOf cX5_sectorOf 2 (some .int), Cond.methodLink RX5 102 yX5_keeps, Cond.instanceMethod yX5_keeps, Cond.selects RX5 yX5_keeps yX5_keeps]
def wsX5_untilLost_r2 : List Cond := [Cond.code yX5_keeps cX5_keeps 2 none, Cond.fieldLink RX5 13 "GrooveTurnsModel" "kept" "[I", Cond.methodLink RX5 79 yX5_puts, Cond.instanceMethod yX5_puts, Cond.selects RX5 yX5_puts yX5_puts, Cond.code yX5_puts cX5_puts 4 none, Cond.methodLink RX5 67 yX5_sectorToWrite, Cond.instanceMethod yX5_sectorToWrite, Cond.selects RX5 yX5_sectorToWrite yX5_sectorToWrite, Cond.code yX5_sectorToWrite cX5_sectorToWrite 4 (some .int), Cond.methodLink RX5 70 yX5_heats, Cond.instanceMethod yX5_heats, Cond.selects RX5 yX5_heats yX5_heats, Cond.code yX5_heats cX5_heats 4 none, Cond.methodLink RX5 41 yX5_comesBack, Cond.instanceMethod yX5_comesBack, Cond.selects RX5 yX5_comesBack yX5_comesBack, Cond.code yX5_comesBack cX5_comesBack 2 none]
def wsX5_untilLost : List Cond := .code yX5_untilLost cX5_untilLost 4 (some .int) :: ((wsX5_untilLost_r1 ++ wsX5_untilLost_r2) ++ wsX50)
def wsX5_worst : List Cond := .code yX5_worst cX5_worst 4 (some .int) :: ([.fieldLink RX5 7 "GrooveTurnsModel" "all" "[I", .methodLink RX5 82 yX5_canBeRead, .instanceMethod yX5_canBeRead, .selects RX5 yX5_canBeRead yX5_canBeRead, .initialized RX5, .code yX5_canBeRead cX5_canBeRead 2 (some .boolean), .methodLink RX5 57 yX5_holds, .instanceMethod yX5_holds, .selects RX5 yX5_holds yX5_holds, .code yX5_holds cX5_holds 2 (some .boolean), .methodLink RX5 53 yX5_sectorOf, .instanceMethod yX5_sectorOf, .selects RX5 yX5_sectorOf yX5_sectorOf, .code yX5_sectorOf cX5_sectorOf 2 (some .int)] ++ wsX50)
def wsX5_charactersOf : List Cond := .code yX5_charactersOf cX5_charactersOf 5 (some .int) :: ([.constantLong RX5 108 (255), .constantLong RX5 140 (33), .constantLong RX5 142 (126), .methodLink RX5 49 yX5_in, .static yX5_in, .initialized RX5, .code yX5_in cX5_in 6 (some .boolean)])
def wsX5_put : List Cond := .code yX5_put cX5_put 5 (some .int) :: ([.fieldLink RX5 128 "GrooveTurnsModel" "textLong" "I", .fieldLink RX5 25 "GrooveTurnsModel" "text" "[I", .constantLong RX5 108 (255), .methodLink RX5 144 yX5_charactersOf, .static yX5_charactersOf, .initialized RX5, .code yX5_charactersOf cX5_charactersOf 5 (some .int), .constantLong RX5 140 (33), .constantLong RX5 142 (126), .methodLink RX5 49 yX5_in, .static yX5_in, .code yX5_in cX5_in 6 (some .boolean)] ++ wsX50)
def wsX5_wipe : List Cond := .code yX5_wipe cX5_wipe 2 (some .int) :: ([.fieldLink RX5 128 "GrooveTurnsModel" "textLong" "I"] ++ wsX50)
def wsX5_run_r1 : List Cond := [Cond.fieldLink RX5 128 "GrooveTurnsModel" "textLong" "I", Cond.methodLink RX5 133 yX5_fault, Cond.instanceMethod yX5_fault, Cond.selects RX5 yX5_fault yX5_fault, Cond.initialized RX5, Cond.code yX5_fault cX5_fault 2 (some .int), Cond.fieldLink RX5 148 "GrooveTurnsModel" "spot" "I", Cond.fieldLink RX5 163 "GrooveTurnsModel" "requests" "I", Cond.methodLink RX5 166 yX5_readsRequest, Cond.instanceMethod yX5_readsRequest, Cond.selects RX5 yX5_readsRequest yX5_readsRequest, Cond.code yX5_readsRequest cX5_readsRequest 2 (some .boolean), Cond.fieldLink RX5 28 "GrooveTurnsModel" "asked" "[I", Cond.fieldLink RX5 154 "GrooveTurnsModel" "number" "I", Cond.fieldLink RX5 31 "GrooveTurnsModel" "numbers" "[I", Cond.methodLink RX5 151 yX5_isHere, Cond.instanceMethod yX5_isHere, Cond.selects RX5 yX5_isHere yX5_isHere, Cond.code yX5_isHere cX5_isHere 3 (some .boolean), Cond.fieldLink RX5 25 "GrooveTurnsModel" "text" "[I", Cond.methodLink RX5 49 yX5_in, Cond.static yX5_in, Cond.code yX5_in cX5_in 6 (some .boolean), Cond.methodLink RX5 157 yX5_takesOne]
def wsX5_run_r2 : List Cond := [Cond.instanceMethod yX5_takesOne, Cond.selects RX5 yX5_takesOne yX5_takesOne, Cond.code yX5_takesOne cX5_takesOne 3 (some .boolean), Cond.methodLink RX5 160 yX5_readsNumber, Cond.instanceMethod yX5_readsNumber, Cond.selects RX5 yX5_readsNumber yX5_readsNumber, Cond.code yX5_readsNumber cX5_readsNumber 3 (some .boolean), Cond.methodLink RX5 102 yX5_keeps, Cond.instanceMethod yX5_keeps, Cond.selects RX5 yX5_keeps yX5_keeps, Cond.code yX5_keeps cX5_keeps 2 none, Cond.fieldLink RX5 13 "GrooveTurnsModel" "kept" "[I", Cond.fieldLink RX5 7 "GrooveTurnsModel" "all" "[I", Cond.methodLink RX5 136 yX5_runs, Cond.instanceMethod yX5_runs, Cond.selects RX5 yX5_runs yX5_runs, Cond.code yX5_runs cX5_runs 5 (some .int), Cond.fieldLink RX5 34 "GrooveTurnsModel" "trackOf" "[I", Cond.methodLink RX5 53 yX5_sectorOf, Cond.instanceMethod yX5_sectorOf, Cond.selects RX5 yX5_sectorOf yX5_sectorOf, Cond.code yX5_sectorOf cX5_sectorOf 2 (some .int), Cond.methodLink RX5 170 yX5_isDone, Cond.instanceMethod yX5_isDone]
def wsX5_run_r3 : List Cond := [Cond.selects RX5 yX5_isDone yX5_isDone, Cond.code yX5_isDone cX5_isDone 3 (some .boolean), Cond.methodLink RX5 85 yX5_doRead, Cond.instanceMethod yX5_doRead, Cond.selects RX5 yX5_doRead yX5_doRead, Cond.code yX5_doRead cX5_doRead 3 (some .int), Cond.constant RX5 74 (9999999), Cond.methodLink RX5 82 yX5_canBeRead, Cond.instanceMethod yX5_canBeRead, Cond.selects RX5 yX5_canBeRead yX5_canBeRead, Cond.code yX5_canBeRead cX5_canBeRead 2 (some .boolean), Cond.methodLink RX5 57 yX5_holds, Cond.instanceMethod yX5_holds, Cond.selects RX5 yX5_holds yX5_holds, Cond.code yX5_holds cX5_holds 2 (some .boolean), Cond.methodLink RX5 61 yX5_takes, Cond.instanceMethod yX5_takes, Cond.selects RX5 yX5_takes yX5_takes, Cond.code yX5_takes cX5_takes 5 (some .int), Cond.methodLink RX5 75 yX5_goes, Cond.instanceMethod yX5_goes, Cond.selects RX5 yX5_goes yX5_goes, Cond.code yX5_goes cX5_goes 2 none, Cond.methodLink RX5 88 yX5_doWrite]
def wsX5_run_r4 : List Cond := [Cond.instanceMethod yX5_doWrite, Cond.selects RX5 yX5_doWrite yX5_doWrite, Cond.code yX5_doWrite cX5_doWrite 5 (some .int), Cond.methodLink RX5 67 yX5_sectorToWrite, Cond.instanceMethod yX5_sectorToWrite, Cond.selects RX5 yX5_sectorToWrite yX5_sectorToWrite, Cond.code yX5_sectorToWrite cX5_sectorToWrite 4 (some .int), Cond.methodLink RX5 79 yX5_puts, Cond.instanceMethod yX5_puts, Cond.selects RX5 yX5_puts yX5_puts, Cond.code yX5_puts cX5_puts 4 none, Cond.methodLink RX5 70 yX5_heats, Cond.instanceMethod yX5_heats, Cond.selects RX5 yX5_heats yX5_heats, Cond.code yX5_heats cX5_heats 4 none, Cond.methodLink RX5 64 yX5_isAddress, Cond.static yX5_isAddress, Cond.code yX5_isAddress cX5_isAddress 1 (some .boolean), Cond.constantLong RX5 47 (191), Cond.methodLink RX5 105 yX5_ends, Cond.instanceMethod yX5_ends, Cond.selects RX5 yX5_ends yX5_ends, Cond.code yX5_ends cX5_ends 2 (some .int), Cond.methodLink RX5 41 yX5_comesBack]
def wsX5_run_r5 : List Cond := [Cond.instanceMethod yX5_comesBack, Cond.selects RX5 yX5_comesBack yX5_comesBack, Cond.code yX5_comesBack cX5_comesBack 2 none, Cond.methodLink RX5 44 yX5_records, Cond.instanceMethod yX5_records, Cond.selects RX5 yX5_records yX5_records, Cond.code yX5_records cX5_records 2 none, Cond.fieldLink RX5 37 "GrooveTurnsModel" "historyLong" "I", Cond.fieldLink RX5 16 "GrooveTurnsModel" "history" "[I"]
def wsX5_run : List Cond := .code yX5_run cX5_run 3 (some .int) :: ((wsX5_run_r1 ++ (wsX5_run_r2 ++ (wsX5_run_r3 ++ (wsX5_run_r4 ++ wsX5_run_r5)))) ++ wsX50)
def wsX5_undo : List Cond := .code yX5_undo cX5_undo 2 (some .int) :: ([.fieldLink RX5 37 "GrooveTurnsModel" "historyLong" "I", .fieldLink RX5 7 "GrooveTurnsModel" "all" "[I", .fieldLink RX5 16 "GrooveTurnsModel" "history" "[I"] ++ wsX50)
def wsX5_isSlot : List Cond := .code yX5_isSlot cX5_isSlot 1 (some .boolean) :: ([])
def wsX5_save : List Cond := .code yX5_save cX5_save 3 (some .int) :: ([.fieldLink RX5 19 "GrooveTurnsModel" "slots" "[I", .fieldLink RX5 7 "GrooveTurnsModel" "all" "[I", .fieldLink RX5 22 "GrooveTurnsModel" "isSaved" "[I", .methodLink RX5 173 yX5_isSlot, .static yX5_isSlot, .initialized RX5, .code yX5_isSlot cX5_isSlot 1 (some .boolean), .methodLink RX5 117 yX5_addresses, .instanceMethod yX5_addresses, .selects RX5 yX5_addresses yX5_addresses, .code yX5_addresses cX5_addresses 6 (some .int), .methodLink RX5 57 yX5_holds, .instanceMethod yX5_holds, .selects RX5 yX5_holds yX5_holds, .code yX5_holds cX5_holds 2 (some .boolean), .methodLink RX5 53 yX5_sectorOf, .instanceMethod yX5_sectorOf, .selects RX5 yX5_sectorOf yX5_sectorOf, .code yX5_sectorOf cX5_sectorOf 2 (some .int), .methodLink RX5 82 yX5_canBeRead, .instanceMethod yX5_canBeRead, .selects RX5 yX5_canBeRead yX5_canBeRead, .code yX5_canBeRead cX5_canBeRead 2 (some .boolean)] ++ wsX50)
def wsX5_restore_r1 : List Cond := [Cond.fieldLink RX5 22 "GrooveTurnsModel" "isSaved" "[I", Cond.fieldLink RX5 7 "GrooveTurnsModel" "all" "[I", Cond.fieldLink RX5 19 "GrooveTurnsModel" "slots" "[I", Cond.methodLink RX5 173 yX5_isSlot, Cond.static yX5_isSlot, Cond.initialized RX5, Cond.code yX5_isSlot cX5_isSlot 1 (some .boolean), Cond.methodLink RX5 102 yX5_keeps, Cond.instanceMethod yX5_keeps, Cond.selects RX5 yX5_keeps yX5_keeps, Cond.code yX5_keeps cX5_keeps 2 none, Cond.fieldLink RX5 13 "GrooveTurnsModel" "kept" "[I", Cond.methodLink RX5 117 yX5_addresses, Cond.instanceMethod yX5_addresses, Cond.selects RX5 yX5_addresses yX5_addresses, Cond.code yX5_addresses cX5_addresses 6 (some .int), Cond.methodLink RX5 57 yX5_holds, Cond.instanceMethod yX5_holds, Cond.selects RX5 yX5_holds yX5_holds, Cond.code yX5_holds cX5_holds 2 (some .boolean), Cond.methodLink RX5 53 yX5_sectorOf, Cond.instanceMethod yX5_sectorOf, Cond.selects RX5 yX5_sectorOf yX5_sectorOf, Cond.code yX5_sectorOf cX5_sectorOf 2 (some .int)]
def wsX5_restore_r2 : List Cond := [Cond.methodLink RX5 82 yX5_canBeRead, Cond.instanceMethod yX5_canBeRead, Cond.selects RX5 yX5_canBeRead yX5_canBeRead, Cond.code yX5_canBeRead cX5_canBeRead 2 (some .boolean), Cond.methodLink RX5 105 yX5_ends, Cond.instanceMethod yX5_ends, Cond.selects RX5 yX5_ends yX5_ends, Cond.code yX5_ends cX5_ends 2 (some .int), Cond.methodLink RX5 41 yX5_comesBack, Cond.instanceMethod yX5_comesBack, Cond.selects RX5 yX5_comesBack yX5_comesBack, Cond.code yX5_comesBack cX5_comesBack 2 none, Cond.methodLink RX5 44 yX5_records, Cond.instanceMethod yX5_records, Cond.selects RX5 yX5_records yX5_records, Cond.code yX5_records cX5_records 2 none, Cond.fieldLink RX5 37 "GrooveTurnsModel" "historyLong" "I", Cond.fieldLink RX5 16 "GrooveTurnsModel" "history" "[I"]
def wsX5_restore : List Cond := .code yX5_restore cX5_restore 3 (some .int) :: ((wsX5_restore_r1 ++ wsX5_restore_r2) ++ wsX50)
def wsJ9_abs_0f7a4 : List Cond := .code yJ9_abs_0f7a4 cJ9_abs_0f7a4 1 (some .int) :: ([])
def wsJ9_max_7cf53 : List Cond := .code yJ9_max_7cf53 cJ9_max_7cf53 2 (some .int) :: ([])
def wsJ9_min_7cf53 : List Cond := .code yJ9_min_7cf53 cJ9_min_7cf53 2 (some .int) :: ([])
abbrev vwCl : List vw_C := [(RX0, TX0, 9), (RX1, TX1, 3), (RX2, TX2, 2), (RX3, TX3, 5), (RX4, TX4, 6), (RX5, TX5, 14)]
end
section
set_option maxRecDepth 20000 in
theorem ggX0_init_X4_copyRow : GoodIn wsX0_init wsX4_copyRow := goodIn_r _ [16, 17, 18, 19, 20, 21, 22, 23, 24] rfl (by decide +kernel)
theorem gX0_init_X4_copyRow_n43 : GoodIn wsX0_init (wsX4_copyRow) := ggX0_init_X4_copyRow
set_option maxRecDepth 20000 in
theorem ggX0_init_J7_fill_53178 : GoodIn wsX0_init wsJ7_fill_53178 := goodIn_r _ [28] rfl (by decide +kernel)
set_option maxRecDepth 20000 in
theorem gX0_init_J7_fill_53178 : GoodIn wsX0_init (va_wsS RX0 47 yJ7_fill_53178 wsJ7_fill_53178) := goodIn_app (goodIn_of _ (by decide +kernel)) ggX0_init_J7_fill_53178
theorem dX0_init_0 : decode cX0_init 0 = .ok (.aload_n 0, 1) := by decide +kernel
theorem dX0_init_1 : decode cX0_init 1 = .ok (.invokespecial 3, 3) := by decide +kernel
theorem dX0_init_4 : decode cX0_init 4 = .ok (.aload_n 0, 1) := by decide +kernel
theorem dX0_init_5 : decode cX0_init 5 = .ok (.getstatic 9, 3) := by decide +kernel
theorem dX0_init_8 : decode cX0_init 8 = .ok (.arraylength, 1) := by decide +kernel
theorem dX0_init_9 : decode cX0_init 9 = .ok (.newarray .int, 2) := by decide +kernel
theorem dX0_init_11 : decode cX0_init 11 = .ok (.putfield 13, 3) := by decide +kernel
theorem dX0_init_14 : decode cX0_init 14 = .ok (.aload_n 0, 1) := by decide +kernel
theorem dX0_init_15 : decode cX0_init 15 = .ok (.sipush 204, 3) := by decide +kernel
theorem dX0_init_18 : decode cX0_init 18 = .ok (.newarray .int, 2) := by decide +kernel
theorem dX0_init_20 : decode cX0_init 20 = .ok (.putfield 18, 3) := by decide +kernel
theorem dX0_init_23 : decode cX0_init 23 = .ok (.aload_n 0, 1) := by decide +kernel
theorem dX0_init_24 : decode cX0_init 24 = .ok (.sipush 204, 3) := by decide +kernel
theorem dX0_init_27 : decode cX0_init 27 = .ok (.newarray .int, 2) := by decide +kernel
theorem dX0_init_29 : decode cX0_init 29 = .ok (.putfield 21, 3) := by decide +kernel
theorem dX0_init_32 : decode cX0_init 32 = .ok (.aload_n 0, 1) := by decide +kernel
theorem dX0_init_33 : decode cX0_init 33 = .ok (.sipush 204, 3) := by decide +kernel
theorem dX0_init_36 : decode cX0_init 36 = .ok (.newarray .int, 2) := by decide +kernel
theorem dX0_init_38 : decode cX0_init 38 = .ok (.putfield 24, 3) := by decide +kernel
theorem dX0_init_41 : decode cX0_init 41 = .ok (.aload_n 0, 1) := by decide +kernel
theorem dX0_init_42 : decode cX0_init 42 = .ok (.sipush 192, 3) := by decide +kernel
theorem dX0_init_45 : decode cX0_init 45 = .ok (.newarray .int, 2) := by decide +kernel
theorem dX0_init_47 : decode cX0_init 47 = .ok (.putfield 27, 3) := by decide +kernel
theorem dX0_init_50 : decode cX0_init 50 = .ok (.aload_n 0, 1) := by decide +kernel
theorem dX0_init_51 : decode cX0_init 51 = .ok (.iconst 0, 1) := by decide +kernel
theorem dX0_init_52 : decode cX0_init 52 = .ok (.putfield 30, 3) := by decide +kernel
theorem dX0_init_55 : decode cX0_init 55 = .ok (.aload_n 0, 1) := by decide +kernel
theorem dX0_init_56 : decode cX0_init 56 = .ok (.iconst 0, 1) := by decide +kernel
theorem dX0_init_57 : decode cX0_init 57 = .ok (.putfield 34, 3) := by decide +kernel
theorem dX0_init_60 : decode cX0_init 60 = .ok (.aload_n 0, 1) := by decide +kernel
theorem dX0_init_61 : decode cX0_init 61 = .ok (.iconst 0, 1) := by decide +kernel
theorem dX0_init_62 : decode cX0_init 62 = .ok (.putfield 37, 3) := by decide +kernel
theorem dX0_init_65 : decode cX0_init 65 = .ok (.aload_n 0, 1) := by decide +kernel
theorem dX0_init_66 : decode cX0_init 66 = .ok (.iconst 0, 1) := by decide +kernel
theorem dX0_init_67 : decode cX0_init 67 = .ok (.putfield 40, 3) := by decide +kernel
theorem dX0_init_70 : decode cX0_init 70 = .ok (.getstatic 9, 3) := by decide +kernel
theorem dX0_init_73 : decode cX0_init 73 = .ok (.aload_n 0, 1) := by decide +kernel
theorem dX0_init_74 : decode cX0_init 74 = .ok (.getfield 13, 3) := by decide +kernel
theorem dX0_init_77 : decode cX0_init 77 = .ok (.invokestatic 43, 3) := by decide +kernel
theorem dX0_init_80 : decode cX0_init 80 = .ok (.aload_n 0, 1) := by decide +kernel
theorem dX0_init_81 : decode cX0_init 81 = .ok (.getfield 18, 3) := by decide +kernel
theorem dX0_init_84 : decode cX0_init 84 = .ok (.bipush (-6), 2) := by decide +kernel
theorem dX0_init_86 : decode cX0_init 86 = .ok (.invokestatic 47, 3) := by decide +kernel
theorem dX0_init_89 : decode cX0_init 89 = .ok (.iconst 0, 1) := by decide +kernel
theorem dX0_init_90 : decode cX0_init 90 = .ok (.istore_n 1, 1) := by decide +kernel
theorem dX0_init_91 : decode cX0_init 91 = .ok (.iload_n 1, 1) := by decide +kernel
theorem dX0_init_92 : decode cX0_init 92 = .ok (.aload_n 0, 1) := by decide +kernel
theorem dX0_init_93 : decode cX0_init 93 = .ok (.getfield 27, 3) := by decide +kernel
theorem dX0_init_96 : decode cX0_init 96 = .ok (.arraylength, 1) := by decide +kernel
theorem dX0_init_97 : decode cX0_init 97 = .ok (.if_icmp .ge 16, 3) := by decide +kernel
theorem dX0_init_100 : decode cX0_init 100 = .ok (.aload_n 0, 1) := by decide +kernel
theorem dX0_init_101 : decode cX0_init 101 = .ok (.getfield 27, 3) := by decide +kernel
theorem dX0_init_104 : decode cX0_init 104 = .ok (.iload_n 1, 1) := by decide +kernel
theorem dX0_init_105 : decode cX0_init 105 = .ok (.iload_n 1, 1) := by decide +kernel
theorem dX0_init_106 : decode cX0_init 106 = .ok (.iastore, 1) := by decide +kernel
theorem dX0_init_107 : decode cX0_init 107 = .ok (.iinc 1 1, 3) := by decide +kernel
theorem dX0_init_110 : decode cX0_init 110 = .ok (.goto (-19), 3) := by decide +kernel
theorem dX0_init_113 : decode cX0_init 113 = .ok (.return_, 1) := by decide +kernel
set_option maxRecDepth 20000 in
theorem ggX0_becomeLike_X4_copyRow : GoodIn wsX0_becomeLike wsX4_copyRow := goodIn_r _ [12, 13, 14, 15, 16, 17, 18, 19, 20] rfl (by decide +kernel)
theorem gX0_becomeLike_X4_copyRow_n43 : GoodIn wsX0_becomeLike (wsX4_copyRow) := ggX0_becomeLike_X4_copyRow
theorem dX0_becomeLike_0 : decode cX0_becomeLike 0 = .ok (.aload_n 1, 1) := by decide +kernel
theorem dX0_becomeLike_1 : decode cX0_becomeLike 1 = .ok (.getfield 13, 3) := by decide +kernel
theorem dX0_becomeLike_4 : decode cX0_becomeLike 4 = .ok (.aload_n 0, 1) := by decide +kernel
theorem dX0_becomeLike_5 : decode cX0_becomeLike 5 = .ok (.getfield 13, 3) := by decide +kernel
theorem dX0_becomeLike_8 : decode cX0_becomeLike 8 = .ok (.invokestatic 43, 3) := by decide +kernel
theorem dX0_becomeLike_11 : decode cX0_becomeLike 11 = .ok (.aload_n 1, 1) := by decide +kernel
theorem dX0_becomeLike_12 : decode cX0_becomeLike 12 = .ok (.getfield 18, 3) := by decide +kernel
theorem dX0_becomeLike_15 : decode cX0_becomeLike 15 = .ok (.aload_n 0, 1) := by decide +kernel
theorem dX0_becomeLike_16 : decode cX0_becomeLike 16 = .ok (.getfield 18, 3) := by decide +kernel
theorem dX0_becomeLike_19 : decode cX0_becomeLike 19 = .ok (.invokestatic 43, 3) := by decide +kernel
theorem dX0_becomeLike_22 : decode cX0_becomeLike 22 = .ok (.aload_n 1, 1) := by decide +kernel
theorem dX0_becomeLike_23 : decode cX0_becomeLike 23 = .ok (.getfield 21, 3) := by decide +kernel
theorem dX0_becomeLike_26 : decode cX0_becomeLike 26 = .ok (.aload_n 0, 1) := by decide +kernel
theorem dX0_becomeLike_27 : decode cX0_becomeLike 27 = .ok (.getfield 21, 3) := by decide +kernel
theorem dX0_becomeLike_30 : decode cX0_becomeLike 30 = .ok (.invokestatic 43, 3) := by decide +kernel
theorem dX0_becomeLike_33 : decode cX0_becomeLike 33 = .ok (.aload_n 1, 1) := by decide +kernel
theorem dX0_becomeLike_34 : decode cX0_becomeLike 34 = .ok (.getfield 24, 3) := by decide +kernel
theorem dX0_becomeLike_37 : decode cX0_becomeLike 37 = .ok (.aload_n 0, 1) := by decide +kernel
theorem dX0_becomeLike_38 : decode cX0_becomeLike 38 = .ok (.getfield 24, 3) := by decide +kernel
theorem dX0_becomeLike_41 : decode cX0_becomeLike 41 = .ok (.invokestatic 43, 3) := by decide +kernel
theorem dX0_becomeLike_44 : decode cX0_becomeLike 44 = .ok (.aload_n 1, 1) := by decide +kernel
theorem dX0_becomeLike_45 : decode cX0_becomeLike 45 = .ok (.getfield 27, 3) := by decide +kernel
theorem dX0_becomeLike_48 : decode cX0_becomeLike 48 = .ok (.aload_n 0, 1) := by decide +kernel
theorem dX0_becomeLike_49 : decode cX0_becomeLike 49 = .ok (.getfield 27, 3) := by decide +kernel
theorem dX0_becomeLike_52 : decode cX0_becomeLike 52 = .ok (.invokestatic 43, 3) := by decide +kernel
theorem dX0_becomeLike_55 : decode cX0_becomeLike 55 = .ok (.aload_n 0, 1) := by decide +kernel
theorem dX0_becomeLike_56 : decode cX0_becomeLike 56 = .ok (.aload_n 1, 1) := by decide +kernel
theorem dX0_becomeLike_57 : decode cX0_becomeLike 57 = .ok (.getfield 30, 3) := by decide +kernel
theorem dX0_becomeLike_60 : decode cX0_becomeLike 60 = .ok (.putfield 30, 3) := by decide +kernel
theorem dX0_becomeLike_63 : decode cX0_becomeLike 63 = .ok (.aload_n 0, 1) := by decide +kernel
theorem dX0_becomeLike_64 : decode cX0_becomeLike 64 = .ok (.aload_n 1, 1) := by decide +kernel
theorem dX0_becomeLike_65 : decode cX0_becomeLike 65 = .ok (.getfield 34, 3) := by decide +kernel
theorem dX0_becomeLike_68 : decode cX0_becomeLike 68 = .ok (.putfield 34, 3) := by decide +kernel
theorem dX0_becomeLike_71 : decode cX0_becomeLike 71 = .ok (.aload_n 0, 1) := by decide +kernel
theorem dX0_becomeLike_72 : decode cX0_becomeLike 72 = .ok (.aload_n 1, 1) := by decide +kernel
theorem dX0_becomeLike_73 : decode cX0_becomeLike 73 = .ok (.getfield 37, 3) := by decide +kernel
theorem dX0_becomeLike_76 : decode cX0_becomeLike 76 = .ok (.putfield 37, 3) := by decide +kernel
theorem dX0_becomeLike_79 : decode cX0_becomeLike 79 = .ok (.aload_n 0, 1) := by decide +kernel
theorem dX0_becomeLike_80 : decode cX0_becomeLike 80 = .ok (.aload_n 1, 1) := by decide +kernel
theorem dX0_becomeLike_81 : decode cX0_becomeLike 81 = .ok (.getfield 40, 3) := by decide +kernel
theorem dX0_becomeLike_84 : decode cX0_becomeLike 84 = .ok (.putfield 40, 3) := by decide +kernel
theorem dX0_becomeLike_87 : decode cX0_becomeLike 87 = .ok (.return_, 1) := by decide +kernel
set_option maxRecDepth 20000 in
theorem ggX0_exchangeSetting_X4_at : GoodIn wsX0_exchangeSetting wsX4_at := goodIn_r _ [4] rfl (by decide +kernel)
theorem gX0_exchangeSetting_X4_at_n53 : GoodIn wsX0_exchangeSetting (wsX4_at) := ggX0_exchangeSetting_X4_at
set_option maxRecDepth 20000 in
theorem ggX0_exchangeSetting_X4_lay : GoodIn wsX0_exchangeSetting wsX4_lay := goodIn_r _ [6] rfl (by decide +kernel)
theorem gX0_exchangeSetting_X4_lay_n57 : GoodIn wsX0_exchangeSetting (wsX4_lay) := ggX0_exchangeSetting_X4_lay
theorem dX0_exchangeSetting_0 : decode cX0_exchangeSetting 0 = .ok (.aload_n 0, 1) := by decide +kernel
theorem dX0_exchangeSetting_1 : decode cX0_exchangeSetting 1 = .ok (.getfield 13, 3) := by decide +kernel
theorem dX0_exchangeSetting_4 : decode cX0_exchangeSetting 4 = .ok (.iload_n 1, 1) := by decide +kernel
theorem dX0_exchangeSetting_5 : decode cX0_exchangeSetting 5 = .ok (.invokestatic 53, 3) := by decide +kernel
theorem dX0_exchangeSetting_8 : decode cX0_exchangeSetting 8 = .ok (.istore_n 3, 1) := by decide +kernel
theorem dX0_exchangeSetting_9 : decode cX0_exchangeSetting 9 = .ok (.aload_n 0, 1) := by decide +kernel
theorem dX0_exchangeSetting_10 : decode cX0_exchangeSetting 10 = .ok (.getfield 13, 3) := by decide +kernel
theorem dX0_exchangeSetting_13 : decode cX0_exchangeSetting 13 = .ok (.iload_n 1, 1) := by decide +kernel
theorem dX0_exchangeSetting_14 : decode cX0_exchangeSetting 14 = .ok (.iload_n 2, 1) := by decide +kernel
theorem dX0_exchangeSetting_15 : decode cX0_exchangeSetting 15 = .ok (.invokestatic 57, 3) := by decide +kernel
theorem dX0_exchangeSetting_18 : decode cX0_exchangeSetting 18 = .ok (.iload_n 3, 1) := by decide +kernel
theorem dX0_exchangeSetting_19 : decode cX0_exchangeSetting 19 = .ok (.ireturn, 1) := by decide +kernel
set_option maxRecDepth 20000 in
theorem ggX0_writeTo_X0_sectorToWrite : GoodIn wsX0_writeTo wsX0_sectorToWrite := goodIn_r _ [5, 6, 7, 8, 9, 4, 10, 11, 12, 13, 14, 15, 16, 17, 18, 19, 20, 21, 22, 23, 24, 25, 26, 27, 28, 89, 90, 91, 92, 93, 94, 95, 96, 97] rfl (by decide +kernel)
set_option maxRecDepth 20000 in
theorem gX0_writeTo_X0_sectorToWrite : GoodIn wsX0_writeTo (wsV RX0 61 RX0 yX0_sectorToWrite wsX0_sectorToWrite) := goodIn_app (goodIn_of _ (by decide +kernel)) ggX0_writeTo_X0_sectorToWrite
set_option maxRecDepth 20000 in
theorem ggX0_writeTo_X0_ticksTo : GoodIn wsX0_writeTo wsX0_ticksTo := goodIn_r _ [32, 33, 34, 13, 35, 36, 37, 38, 4, 39, 40, 41, 42, 43, 44, 20, 21, 22, 23, 24, 12, 14, 45, 46, 47, 48, 89, 90, 91, 92, 93, 94, 95, 96, 97] rfl (by decide +kernel)
set_option maxRecDepth 20000 in
theorem gX0_writeTo_X0_ticksTo : GoodIn wsX0_writeTo (wsV RX0 65 RX0 yX0_ticksTo wsX0_ticksTo) := goodIn_app (goodIn_of _ (by decide +kernel)) ggX0_writeTo_X0_ticksTo
set_option maxRecDepth 20000 in
theorem ggX0_writeTo_X0_hasTime : GoodIn wsX0_writeTo wsX0_hasTime := goodIn_r _ [52, 53, 33, 89, 90, 91, 92, 93, 94, 95, 96, 97] rfl (by decide +kernel)
set_option maxRecDepth 20000 in
theorem gX0_writeTo_X0_hasTime : GoodIn wsX0_writeTo (wsV RX0 68 RX0 yX0_hasTime wsX0_hasTime) := goodIn_app (goodIn_of _ (by decide +kernel)) ggX0_writeTo_X0_hasTime
set_option maxRecDepth 20000 in
theorem ggX0_writeTo_X0_fill : GoodIn wsX0_writeTo wsX0_fill := goodIn_r _ [57, 11, 6, 58, 59, 19, 7, 8, 9, 4, 10, 12, 13, 14, 60, 61, 15, 16, 17, 18, 62, 63, 20, 21, 22, 23, 24, 64, 65, 66, 67, 68, 69, 43, 70, 71, 72, 73, 74, 75, 76, 77, 78, 79, 80, 81, 82, 83, 84, 89, 90, 91, 92, 93, 94, 95, 96, 97] rfl (by decide +kernel)
set_option maxRecDepth 20000 in
theorem gX0_writeTo_X0_fill : GoodIn wsX0_writeTo (wsV RX0 72 RX0 yX0_fill wsX0_fill) := goodIn_app (goodIn_of _ (by decide +kernel)) ggX0_writeTo_X0_fill
set_option maxRecDepth 20000 in
theorem ggX0_writeTo_X4_trackOf : GoodIn wsX0_writeTo wsX4_trackOf := goodIn_r _ [35] rfl (by decide +kernel)
theorem gX0_writeTo_X4_trackOf_n75 : GoodIn wsX0_writeTo (wsX4_trackOf) := ggX0_writeTo_X4_trackOf
set_option maxRecDepth 20000 in
theorem ggX0_writeTo_X0_pass : GoodIn wsX0_writeTo wsX0_pass := goodIn_r _ [88, 33, 40, 89, 90, 91, 92, 93, 94, 95, 96, 97] rfl (by decide +kernel)
set_option maxRecDepth 20000 in
theorem gX0_writeTo_X0_pass : GoodIn wsX0_writeTo (wsV RX0 78 RX0 yX0_pass wsX0_pass) := goodIn_app (goodIn_of _ (by decide +kernel)) ggX0_writeTo_X0_pass
theorem dX0_writeTo_0 : decode cX0_writeTo 0 = .ok (.aload_n 0, 1) := by decide +kernel
theorem dX0_writeTo_1 : decode cX0_writeTo 1 = .ok (.iload_n 1, 1) := by decide +kernel
theorem dX0_writeTo_2 : decode cX0_writeTo 2 = .ok (.invokevirtual 61, 3) := by decide +kernel
theorem dX0_writeTo_5 : decode cX0_writeTo 5 = .ok (.istore_n 3, 1) := by decide +kernel
theorem dX0_writeTo_6 : decode cX0_writeTo 6 = .ok (.aload_n 0, 1) := by decide +kernel
theorem dX0_writeTo_7 : decode cX0_writeTo 7 = .ok (.iload_n 3, 1) := by decide +kernel
theorem dX0_writeTo_8 : decode cX0_writeTo 8 = .ok (.invokevirtual 65, 3) := by decide +kernel
theorem dX0_writeTo_11 : decode cX0_writeTo 11 = .ok (.istore 4, 2) := by decide +kernel
theorem dX0_writeTo_13 : decode cX0_writeTo 13 = .ok (.aload_n 0, 1) := by decide +kernel
theorem dX0_writeTo_14 : decode cX0_writeTo 14 = .ok (.iload 4, 2) := by decide +kernel
theorem dX0_writeTo_16 : decode cX0_writeTo 16 = .ok (.invokevirtual 68, 3) := by decide +kernel
theorem dX0_writeTo_19 : decode cX0_writeTo 19 = .ok (.ifCond .ne 6, 3) := by decide +kernel
theorem dX0_writeTo_22 : decode cX0_writeTo 22 = .ok (.bipush (-4), 2) := by decide +kernel
theorem dX0_writeTo_24 : decode cX0_writeTo 24 = .ok (.ireturn, 1) := by decide +kernel
theorem dX0_writeTo_25 : decode cX0_writeTo 25 = .ok (.aload_n 0, 1) := by decide +kernel
theorem dX0_writeTo_26 : decode cX0_writeTo 26 = .ok (.iload_n 3, 1) := by decide +kernel
theorem dX0_writeTo_27 : decode cX0_writeTo 27 = .ok (.iload_n 1, 1) := by decide +kernel
theorem dX0_writeTo_28 : decode cX0_writeTo 28 = .ok (.iload_n 2, 1) := by decide +kernel
theorem dX0_writeTo_29 : decode cX0_writeTo 29 = .ok (.invokevirtual 72, 3) := by decide +kernel
theorem dX0_writeTo_32 : decode cX0_writeTo 32 = .ok (.aload_n 0, 1) := by decide +kernel
theorem dX0_writeTo_33 : decode cX0_writeTo 33 = .ok (.iload 4, 2) := by decide +kernel
theorem dX0_writeTo_35 : decode cX0_writeTo 35 = .ok (.iload_n 3, 1) := by decide +kernel
theorem dX0_writeTo_36 : decode cX0_writeTo 36 = .ok (.invokestatic 75, 3) := by decide +kernel
theorem dX0_writeTo_39 : decode cX0_writeTo 39 = .ok (.invokevirtual 78, 3) := by decide +kernel
theorem dX0_writeTo_42 : decode cX0_writeTo 42 = .ok (.iload 4, 2) := by decide +kernel
theorem dX0_writeTo_44 : decode cX0_writeTo 44 = .ok (.ireturn, 1) := by decide +kernel
set_option maxRecDepth 20000 in
theorem ggX0_readFrom_X0_sectorFor : GoodIn wsX0_readFrom wsX0_sectorFor := goodIn_r _ [6, 7, 8, 9, 10, 63, 64, 65, 66, 67, 68, 69, 70, 71] rfl (by decide +kernel)
set_option maxRecDepth 20000 in
theorem gX0_readFrom_X0_sectorFor : GoodIn wsX0_readFrom (wsV RX0 82 RX0 yX0_sectorFor wsX0_sectorFor) := goodIn_app (goodIn_of _ (by decide +kernel)) ggX0_readFrom_X0_sectorFor
set_option maxRecDepth 20000 in
theorem ggX0_readFrom_X0_isReadable : GoodIn wsX0_readFrom wsX0_isReadable := goodIn_r _ [14, 15, 16, 17, 5, 18, 19, 8, 9, 10, 20, 21, 22, 23, 24, 25, 26, 27, 28, 29, 63, 64, 65, 66, 67, 68, 69, 70, 71] rfl (by decide +kernel)
set_option maxRecDepth 20000 in
theorem gX0_readFrom_X0_isReadable : GoodIn wsX0_readFrom (wsV RX0 85 RX0 yX0_isReadable wsX0_isReadable) := goodIn_app (goodIn_of _ (by decide +kernel)) ggX0_readFrom_X0_isReadable
set_option maxRecDepth 20000 in
theorem ggX0_readFrom_X0_ticksTo : GoodIn wsX0_readFrom wsX0_ticksTo := goodIn_r _ [33, 34, 35, 9, 36, 37, 38, 39, 5, 40, 41, 42, 43, 44, 45, 25, 26, 27, 28, 29, 8, 10, 46, 47, 48, 49, 63, 64, 65, 66, 67, 68, 69, 70, 71] rfl (by decide +kernel)
set_option maxRecDepth 20000 in
theorem gX0_readFrom_X0_ticksTo : GoodIn wsX0_readFrom (wsV RX0 65 RX0 yX0_ticksTo wsX0_ticksTo) := goodIn_app (goodIn_of _ (by decide +kernel)) ggX0_readFrom_X0_ticksTo
set_option maxRecDepth 20000 in
theorem ggX0_readFrom_X0_hasTime : GoodIn wsX0_readFrom wsX0_hasTime := goodIn_r _ [53, 54, 34, 63, 64, 65, 66, 67, 68, 69, 70, 71] rfl (by decide +kernel)
set_option maxRecDepth 20000 in
theorem gX0_readFrom_X0_hasTime : GoodIn wsX0_readFrom (wsV RX0 68 RX0 yX0_hasTime wsX0_hasTime) := goodIn_app (goodIn_of _ (by decide +kernel)) ggX0_readFrom_X0_hasTime
set_option maxRecDepth 20000 in
theorem ggX0_readFrom_X4_trackOf : GoodIn wsX0_readFrom wsX4_trackOf := goodIn_r _ [36] rfl (by decide +kernel)
theorem gX0_readFrom_X4_trackOf_n75 : GoodIn wsX0_readFrom (wsX4_trackOf) := ggX0_readFrom_X4_trackOf
set_option maxRecDepth 20000 in
theorem ggX0_readFrom_X0_pass : GoodIn wsX0_readFrom wsX0_pass := goodIn_r _ [58, 34, 41, 63, 64, 65, 66, 67, 68, 69, 70, 71] rfl (by decide +kernel)
set_option maxRecDepth 20000 in
theorem gX0_readFrom_X0_pass : GoodIn wsX0_readFrom (wsV RX0 78 RX0 yX0_pass wsX0_pass) := goodIn_app (goodIn_of _ (by decide +kernel)) ggX0_readFrom_X0_pass
set_option maxRecDepth 20000 in
theorem ggX0_readFrom_X0_numberIn : GoodIn wsX0_readFrom wsX0_numberIn := goodIn_r _ [62, 19, 8, 9, 10, 63, 64, 65, 66, 67, 68, 69, 70, 71] rfl (by decide +kernel)
set_option maxRecDepth 20000 in
theorem gX0_readFrom_X0_numberIn : GoodIn wsX0_readFrom (wsV RX0 88 RX0 yX0_numberIn wsX0_numberIn) := goodIn_app (goodIn_of _ (by decide +kernel)) ggX0_readFrom_X0_numberIn
theorem dX0_readFrom_0 : decode cX0_readFrom 0 = .ok (.aload_n 0, 1) := by decide +kernel
theorem dX0_readFrom_1 : decode cX0_readFrom 1 = .ok (.iload_n 1, 1) := by decide +kernel
theorem dX0_readFrom_2 : decode cX0_readFrom 2 = .ok (.invokevirtual 82, 3) := by decide +kernel
theorem dX0_readFrom_5 : decode cX0_readFrom 5 = .ok (.istore_n 2, 1) := by decide +kernel
theorem dX0_readFrom_6 : decode cX0_readFrom 6 = .ok (.aload_n 0, 1) := by decide +kernel
theorem dX0_readFrom_7 : decode cX0_readFrom 7 = .ok (.iload_n 2, 1) := by decide +kernel
theorem dX0_readFrom_8 : decode cX0_readFrom 8 = .ok (.invokevirtual 85, 3) := by decide +kernel
theorem dX0_readFrom_11 : decode cX0_readFrom 11 = .ok (.ifCond .ne 6, 3) := by decide +kernel
theorem dX0_readFrom_14 : decode cX0_readFrom 14 = .ok (.bipush (-5), 2) := by decide +kernel
theorem dX0_readFrom_16 : decode cX0_readFrom 16 = .ok (.ireturn, 1) := by decide +kernel
theorem dX0_readFrom_17 : decode cX0_readFrom 17 = .ok (.aload_n 0, 1) := by decide +kernel
theorem dX0_readFrom_18 : decode cX0_readFrom 18 = .ok (.iload_n 2, 1) := by decide +kernel
theorem dX0_readFrom_19 : decode cX0_readFrom 19 = .ok (.invokevirtual 65, 3) := by decide +kernel
theorem dX0_readFrom_22 : decode cX0_readFrom 22 = .ok (.istore_n 3, 1) := by decide +kernel
theorem dX0_readFrom_23 : decode cX0_readFrom 23 = .ok (.aload_n 0, 1) := by decide +kernel
theorem dX0_readFrom_24 : decode cX0_readFrom 24 = .ok (.iload_n 3, 1) := by decide +kernel
theorem dX0_readFrom_25 : decode cX0_readFrom 25 = .ok (.invokevirtual 68, 3) := by decide +kernel
theorem dX0_readFrom_28 : decode cX0_readFrom 28 = .ok (.ifCond .ne 6, 3) := by decide +kernel
theorem dX0_readFrom_31 : decode cX0_readFrom 31 = .ok (.bipush (-4), 2) := by decide +kernel
theorem dX0_readFrom_33 : decode cX0_readFrom 33 = .ok (.ireturn, 1) := by decide +kernel
theorem dX0_readFrom_34 : decode cX0_readFrom 34 = .ok (.aload_n 0, 1) := by decide +kernel
theorem dX0_readFrom_35 : decode cX0_readFrom 35 = .ok (.iload_n 3, 1) := by decide +kernel
theorem dX0_readFrom_36 : decode cX0_readFrom 36 = .ok (.iload_n 2, 1) := by decide +kernel
theorem dX0_readFrom_37 : decode cX0_readFrom 37 = .ok (.invokestatic 75, 3) := by decide +kernel
theorem dX0_readFrom_40 : decode cX0_readFrom 40 = .ok (.invokevirtual 78, 3) := by decide +kernel
theorem dX0_readFrom_43 : decode cX0_readFrom 43 = .ok (.aload_n 0, 1) := by decide +kernel
theorem dX0_readFrom_44 : decode cX0_readFrom 44 = .ok (.dup, 1) := by decide +kernel
theorem dX0_readFrom_45 : decode cX0_readFrom 45 = .ok (.getfield 34, 3) := by decide +kernel
theorem dX0_readFrom_48 : decode cX0_readFrom 48 = .ok (.iconst 1, 1) := by decide +kernel
theorem dX0_readFrom_49 : decode cX0_readFrom 49 = .ok (.iadd, 1) := by decide +kernel
theorem dX0_readFrom_50 : decode cX0_readFrom 50 = .ok (.putfield 34, 3) := by decide +kernel
theorem dX0_readFrom_53 : decode cX0_readFrom 53 = .ok (.aload_n 0, 1) := by decide +kernel
theorem dX0_readFrom_54 : decode cX0_readFrom 54 = .ok (.iload_n 2, 1) := by decide +kernel
theorem dX0_readFrom_55 : decode cX0_readFrom 55 = .ok (.invokevirtual 88, 3) := by decide +kernel
theorem dX0_readFrom_58 : decode cX0_readFrom 58 = .ok (.ireturn, 1) := by decide +kernel
set_option maxRecDepth 20000 in
theorem ggX0_moveHead_X0_ticksToTrack : GoodIn wsX0_moveHead wsX0_ticksToTrack := goodIn_r _ [5, 6, 7, 8, 9, 10, 11, 12, 13, 4, 14, 15, 16, 17, 18, 29, 30, 31, 32, 33, 34, 35, 36, 37] rfl (by decide +kernel)
set_option maxRecDepth 20000 in
theorem gX0_moveHead_X0_ticksToTrack : GoodIn wsX0_moveHead (wsV RX0 91 RX0 yX0_ticksToTrack wsX0_ticksToTrack) := goodIn_app (goodIn_of _ (by decide +kernel)) ggX0_moveHead_X0_ticksToTrack
set_option maxRecDepth 20000 in
theorem ggX0_moveHead_X0_hasTime : GoodIn wsX0_moveHead wsX0_hasTime := goodIn_r _ [22, 23, 24, 29, 30, 31, 32, 33, 34, 35, 36, 37] rfl (by decide +kernel)
set_option maxRecDepth 20000 in
theorem gX0_moveHead_X0_hasTime : GoodIn wsX0_moveHead (wsV RX0 68 RX0 yX0_hasTime wsX0_hasTime) := goodIn_app (goodIn_of _ (by decide +kernel)) ggX0_moveHead_X0_hasTime
set_option maxRecDepth 20000 in
theorem ggX0_moveHead_X0_pass : GoodIn wsX0_moveHead wsX0_pass := goodIn_r _ [28, 24, 6, 29, 30, 31, 32, 33, 34, 35, 36, 37] rfl (by decide +kernel)
set_option maxRecDepth 20000 in
theorem gX0_moveHead_X0_pass : GoodIn wsX0_moveHead (wsV RX0 78 RX0 yX0_pass wsX0_pass) := goodIn_app (goodIn_of _ (by decide +kernel)) ggX0_moveHead_X0_pass
theorem dX0_moveHead_0 : decode cX0_moveHead 0 = .ok (.aload_n 0, 1) := by decide +kernel
theorem dX0_moveHead_1 : decode cX0_moveHead 1 = .ok (.iload_n 1, 1) := by decide +kernel
theorem dX0_moveHead_2 : decode cX0_moveHead 2 = .ok (.invokevirtual 91, 3) := by decide +kernel
theorem dX0_moveHead_5 : decode cX0_moveHead 5 = .ok (.istore_n 2, 1) := by decide +kernel
theorem dX0_moveHead_6 : decode cX0_moveHead 6 = .ok (.aload_n 0, 1) := by decide +kernel
theorem dX0_moveHead_7 : decode cX0_moveHead 7 = .ok (.iload_n 2, 1) := by decide +kernel
theorem dX0_moveHead_8 : decode cX0_moveHead 8 = .ok (.invokevirtual 68, 3) := by decide +kernel
theorem dX0_moveHead_11 : decode cX0_moveHead 11 = .ok (.ifCond .ne 6, 3) := by decide +kernel
theorem dX0_moveHead_14 : decode cX0_moveHead 14 = .ok (.bipush (-4), 2) := by decide +kernel
theorem dX0_moveHead_16 : decode cX0_moveHead 16 = .ok (.ireturn, 1) := by decide +kernel
theorem dX0_moveHead_17 : decode cX0_moveHead 17 = .ok (.aload_n 0, 1) := by decide +kernel
theorem dX0_moveHead_18 : decode cX0_moveHead 18 = .ok (.iload_n 2, 1) := by decide +kernel
theorem dX0_moveHead_19 : decode cX0_moveHead 19 = .ok (.iload_n 1, 1) := by decide +kernel
theorem dX0_moveHead_20 : decode cX0_moveHead 20 = .ok (.invokevirtual 78, 3) := by decide +kernel
theorem dX0_moveHead_23 : decode cX0_moveHead 23 = .ok (.iload_n 2, 1) := by decide +kernel
theorem dX0_moveHead_24 : decode cX0_moveHead 24 = .ok (.ireturn, 1) := by decide +kernel
set_option maxRecDepth 20000 in
theorem ggX0_waitFor_X0_hasTime : GoodIn wsX0_waitFor wsX0_hasTime := goodIn_r _ [6, 7, 8, 17, 18, 19, 20, 21, 22, 23, 24, 25] rfl (by decide +kernel)
set_option maxRecDepth 20000 in
theorem gX0_waitFor_X0_hasTime : GoodIn wsX0_waitFor (wsV RX0 68 RX0 yX0_hasTime wsX0_hasTime) := goodIn_app (goodIn_of _ (by decide +kernel)) ggX0_waitFor_X0_hasTime
set_option maxRecDepth 20000 in
theorem ggX0_waitFor_X0_pass : GoodIn wsX0_waitFor wsX0_pass := goodIn_r _ [12, 8, 1, 17, 18, 19, 20, 21, 22, 23, 24, 25] rfl (by decide +kernel)
set_option maxRecDepth 20000 in
theorem gX0_waitFor_X0_pass : GoodIn wsX0_waitFor (wsV RX0 78 RX0 yX0_pass wsX0_pass) := goodIn_app (goodIn_of _ (by decide +kernel)) ggX0_waitFor_X0_pass
set_option maxRecDepth 20000 in
theorem ggX0_waitFor_X0_sectorUnderHead : GoodIn wsX0_waitFor wsX0_sectorUnderHead := goodIn_r _ [16, 8, 17, 18, 19, 20, 21, 22, 23, 24, 25] rfl (by decide +kernel)
set_option maxRecDepth 20000 in
theorem gX0_waitFor_X0_sectorUnderHead : GoodIn wsX0_waitFor (wsV RX0 94 RX0 yX0_sectorUnderHead wsX0_sectorUnderHead) := goodIn_app (goodIn_of _ (by decide +kernel)) ggX0_waitFor_X0_sectorUnderHead
theorem dX0_waitFor_0 : decode cX0_waitFor 0 = .ok (.aload_n 0, 1) := by decide +kernel
theorem dX0_waitFor_1 : decode cX0_waitFor 1 = .ok (.iload_n 1, 1) := by decide +kernel
theorem dX0_waitFor_2 : decode cX0_waitFor 2 = .ok (.invokevirtual 68, 3) := by decide +kernel
theorem dX0_waitFor_5 : decode cX0_waitFor 5 = .ok (.ifCond .ne 6, 3) := by decide +kernel
theorem dX0_waitFor_8 : decode cX0_waitFor 8 = .ok (.bipush (-4), 2) := by decide +kernel
theorem dX0_waitFor_10 : decode cX0_waitFor 10 = .ok (.ireturn, 1) := by decide +kernel
theorem dX0_waitFor_11 : decode cX0_waitFor 11 = .ok (.aload_n 0, 1) := by decide +kernel
theorem dX0_waitFor_12 : decode cX0_waitFor 12 = .ok (.iload_n 1, 1) := by decide +kernel
theorem dX0_waitFor_13 : decode cX0_waitFor 13 = .ok (.aload_n 0, 1) := by decide +kernel
theorem dX0_waitFor_14 : decode cX0_waitFor 14 = .ok (.getfield 40, 3) := by decide +kernel
theorem dX0_waitFor_17 : decode cX0_waitFor 17 = .ok (.invokevirtual 78, 3) := by decide +kernel
theorem dX0_waitFor_20 : decode cX0_waitFor 20 = .ok (.aload_n 0, 1) := by decide +kernel
theorem dX0_waitFor_21 : decode cX0_waitFor 21 = .ok (.invokevirtual 94, 3) := by decide +kernel
theorem dX0_waitFor_24 : decode cX0_waitFor 24 = .ok (.ireturn, 1) := by decide +kernel
set_option maxRecDepth 20000 in
theorem ggX0_fill_X0_sectorFor : GoodIn wsX0_fill wsX0_sectorFor := goodIn_r _ [10, 1, 11, 12, 13, 49, 50, 51, 52, 53, 54, 55, 56, 57] rfl (by decide +kernel)
set_option maxRecDepth 20000 in
theorem gX0_fill_X0_sectorFor : GoodIn wsX0_fill (wsV RX0 82 RX0 yX0_sectorFor wsX0_sectorFor) := goodIn_app (goodIn_of _ (by decide +kernel)) ggX0_fill_X0_sectorFor
set_option maxRecDepth 20000 in
theorem ggX0_fill_X4_lay : GoodIn wsX0_fill wsX4_lay := goodIn_r _ [15] rfl (by decide +kernel)
theorem gX0_fill_X4_lay_n57 : GoodIn wsX0_fill (wsX4_lay) := ggX0_fill_X4_lay
set_option maxRecDepth 20000 in
theorem ggX0_fill_X0_writingsOf : GoodIn wsX0_fill wsX0_writingsOf := goodIn_r _ [19, 5, 11, 12, 13, 49, 50, 51, 52, 53, 54, 55, 56, 57] rfl (by decide +kernel)
set_option maxRecDepth 20000 in
theorem gX0_fill_X0_writingsOf : GoodIn wsX0_fill (wsV RX0 98 RX0 yX0_writingsOf wsX0_writingsOf) := goodIn_app (goodIn_of _ (by decide +kernel)) ggX0_fill_X0_writingsOf
set_option maxRecDepth 20000 in
theorem ggX0_fill_X4_isSpare : GoodIn wsX0_fill wsX4_isSpare := goodIn_r _ [21] rfl (by decide +kernel)
theorem gX0_fill_X4_isSpare_n101 : GoodIn wsX0_fill (wsX4_isSpare) := ggX0_fill_X4_isSpare
set_option maxRecDepth 20000 in
theorem ggX0_fill_X0_settingOf : GoodIn wsX0_fill wsX0_settingOf := goodIn_r _ [25, 26, 11, 12, 13, 49, 50, 51, 52, 53, 54, 55, 56, 57] rfl (by decide +kernel)
set_option maxRecDepth 20000 in
theorem gX0_fill_X0_settingOf : GoodIn wsX0_fill (wsV RX0 104 RX0 yX0_settingOf wsX0_settingOf) := goodIn_app (goodIn_of _ (by decide +kernel)) ggX0_fill_X0_settingOf
set_option maxRecDepth 20000 in
theorem ggX0_fill_X0_blurBy : GoodIn wsX0_fill wsX0_blurBy := goodIn_r _ [30, 4, 31, 32, 33, 34, 35, 36, 37, 9, 38, 1, 39, 12, 40, 11, 13, 41, 42, 43, 44, 3, 45, 46, 47, 48, 14, 15, 49, 50, 51, 52, 53, 54, 55, 56, 57] rfl (by decide +kernel)
set_option maxRecDepth 20000 in
theorem gX0_fill_X0_blurBy : GoodIn wsX0_fill (wsV RX0 107 RX0 yX0_blurBy wsX0_blurBy) := goodIn_app (goodIn_of _ (by decide +kernel)) ggX0_fill_X0_blurBy
theorem dX0_fill_0 : decode cX0_fill 0 = .ok (.iload_n 1, 1) := by decide +kernel
theorem dX0_fill_1 : decode cX0_fill 1 = .ok (.aload_n 0, 1) := by decide +kernel
theorem dX0_fill_2 : decode cX0_fill 2 = .ok (.iload_n 2, 1) := by decide +kernel
theorem dX0_fill_3 : decode cX0_fill 3 = .ok (.invokevirtual 82, 3) := by decide +kernel
theorem dX0_fill_6 : decode cX0_fill 6 = .ok (.if_icmp .eq 22, 3) := by decide +kernel
theorem dX0_fill_9 : decode cX0_fill 9 = .ok (.aload_n 0, 1) := by decide +kernel
theorem dX0_fill_10 : decode cX0_fill 10 = .ok (.getfield 27, 3) := by decide +kernel
theorem dX0_fill_13 : decode cX0_fill 13 = .ok (.iload_n 2, 1) := by decide +kernel
theorem dX0_fill_14 : decode cX0_fill 14 = .ok (.iload_n 1, 1) := by decide +kernel
theorem dX0_fill_15 : decode cX0_fill 15 = .ok (.invokestatic 57, 3) := by decide +kernel
theorem dX0_fill_18 : decode cX0_fill 18 = .ok (.aload_n 0, 1) := by decide +kernel
theorem dX0_fill_19 : decode cX0_fill 19 = .ok (.dup, 1) := by decide +kernel
theorem dX0_fill_20 : decode cX0_fill 20 = .ok (.getfield 30, 3) := by decide +kernel
theorem dX0_fill_23 : decode cX0_fill 23 = .ok (.iconst 1, 1) := by decide +kernel
theorem dX0_fill_24 : decode cX0_fill 24 = .ok (.iadd, 1) := by decide +kernel
theorem dX0_fill_25 : decode cX0_fill 25 = .ok (.putfield 30, 3) := by decide +kernel
theorem dX0_fill_28 : decode cX0_fill 28 = .ok (.aload_n 0, 1) := by decide +kernel
theorem dX0_fill_29 : decode cX0_fill 29 = .ok (.getfield 18, 3) := by decide +kernel
theorem dX0_fill_32 : decode cX0_fill 32 = .ok (.iload_n 1, 1) := by decide +kernel
theorem dX0_fill_33 : decode cX0_fill 33 = .ok (.iload_n 3, 1) := by decide +kernel
theorem dX0_fill_34 : decode cX0_fill 34 = .ok (.invokestatic 57, 3) := by decide +kernel
theorem dX0_fill_37 : decode cX0_fill 37 = .ok (.aload_n 0, 1) := by decide +kernel
theorem dX0_fill_38 : decode cX0_fill 38 = .ok (.getfield 21, 3) := by decide +kernel
theorem dX0_fill_41 : decode cX0_fill 41 = .ok (.iload_n 1, 1) := by decide +kernel
theorem dX0_fill_42 : decode cX0_fill 42 = .ok (.iconst 0, 1) := by decide +kernel
theorem dX0_fill_43 : decode cX0_fill 43 = .ok (.invokestatic 57, 3) := by decide +kernel
theorem dX0_fill_46 : decode cX0_fill 46 = .ok (.aload_n 0, 1) := by decide +kernel
theorem dX0_fill_47 : decode cX0_fill 47 = .ok (.getfield 24, 3) := by decide +kernel
theorem dX0_fill_50 : decode cX0_fill 50 = .ok (.iload_n 1, 1) := by decide +kernel
theorem dX0_fill_51 : decode cX0_fill 51 = .ok (.aload_n 0, 1) := by decide +kernel
theorem dX0_fill_52 : decode cX0_fill 52 = .ok (.iload_n 1, 1) := by decide +kernel
theorem dX0_fill_53 : decode cX0_fill 53 = .ok (.invokevirtual 98, 3) := by decide +kernel
theorem dX0_fill_56 : decode cX0_fill 56 = .ok (.iconst 1, 1) := by decide +kernel
theorem dX0_fill_57 : decode cX0_fill 57 = .ok (.iadd, 1) := by decide +kernel
theorem dX0_fill_58 : decode cX0_fill 58 = .ok (.invokestatic 57, 3) := by decide +kernel
theorem dX0_fill_61 : decode cX0_fill 61 = .ok (.iload_n 1, 1) := by decide +kernel
theorem dX0_fill_62 : decode cX0_fill 62 = .ok (.invokestatic 101, 3) := by decide +kernel
theorem dX0_fill_65 : decode cX0_fill 65 = .ok (.ifCond .ne 55, 3) := by decide +kernel
theorem dX0_fill_68 : decode cX0_fill 68 = .ok (.aload_n 0, 1) := by decide +kernel
theorem dX0_fill_69 : decode cX0_fill 69 = .ok (.iload_n 1, 1) := by decide +kernel
theorem dX0_fill_70 : decode cX0_fill 70 = .ok (.bipush 12, 2) := by decide +kernel
theorem dX0_fill_72 : decode cX0_fill 72 = .ok (.isub, 1) := by decide +kernel
theorem dX0_fill_73 : decode cX0_fill 73 = .ok (.aload_n 0, 1) := by decide +kernel
theorem dX0_fill_74 : decode cX0_fill 74 = .ok (.iconst 0, 1) := by decide +kernel
theorem dX0_fill_75 : decode cX0_fill 75 = .ok (.invokevirtual 104, 3) := by decide +kernel
theorem dX0_fill_78 : decode cX0_fill 78 = .ok (.invokevirtual 107, 3) := by decide +kernel
theorem dX0_fill_81 : decode cX0_fill 81 = .ok (.aload_n 0, 1) := by decide +kernel
theorem dX0_fill_82 : decode cX0_fill 82 = .ok (.iload_n 1, 1) := by decide +kernel
theorem dX0_fill_83 : decode cX0_fill 83 = .ok (.bipush 12, 2) := by decide +kernel
theorem dX0_fill_85 : decode cX0_fill 85 = .ok (.iadd, 1) := by decide +kernel
theorem dX0_fill_86 : decode cX0_fill 86 = .ok (.aload_n 0, 1) := by decide +kernel
theorem dX0_fill_87 : decode cX0_fill 87 = .ok (.iconst 0, 1) := by decide +kernel
theorem dX0_fill_88 : decode cX0_fill 88 = .ok (.invokevirtual 104, 3) := by decide +kernel
theorem dX0_fill_91 : decode cX0_fill 91 = .ok (.invokevirtual 107, 3) := by decide +kernel
theorem dX0_fill_94 : decode cX0_fill 94 = .ok (.aload_n 0, 1) := by decide +kernel
theorem dX0_fill_95 : decode cX0_fill 95 = .ok (.iload_n 1, 1) := by decide +kernel
theorem dX0_fill_96 : decode cX0_fill 96 = .ok (.bipush 24, 2) := by decide +kernel
theorem dX0_fill_98 : decode cX0_fill 98 = .ok (.isub, 1) := by decide +kernel
theorem dX0_fill_99 : decode cX0_fill 99 = .ok (.aload_n 0, 1) := by decide +kernel
theorem dX0_fill_100 : decode cX0_fill 100 = .ok (.iconst 1, 1) := by decide +kernel
theorem dX0_fill_101 : decode cX0_fill 101 = .ok (.invokevirtual 104, 3) := by decide +kernel
theorem dX0_fill_104 : decode cX0_fill 104 = .ok (.invokevirtual 107, 3) := by decide +kernel
theorem dX0_fill_107 : decode cX0_fill 107 = .ok (.aload_n 0, 1) := by decide +kernel
theorem dX0_fill_108 : decode cX0_fill 108 = .ok (.iload_n 1, 1) := by decide +kernel
theorem dX0_fill_109 : decode cX0_fill 109 = .ok (.bipush 24, 2) := by decide +kernel
theorem dX0_fill_111 : decode cX0_fill 111 = .ok (.iadd, 1) := by decide +kernel
theorem dX0_fill_112 : decode cX0_fill 112 = .ok (.aload_n 0, 1) := by decide +kernel
theorem dX0_fill_113 : decode cX0_fill 113 = .ok (.iconst 1, 1) := by decide +kernel
theorem dX0_fill_114 : decode cX0_fill 114 = .ok (.invokevirtual 104, 3) := by decide +kernel
theorem dX0_fill_117 : decode cX0_fill 117 = .ok (.invokevirtual 107, 3) := by decide +kernel
theorem dX0_fill_120 : decode cX0_fill 120 = .ok (.return_, 1) := by decide +kernel
set_option maxRecDepth 20000 in
theorem ggX0_blurBy_X0_isOnTracksInUse : GoodIn wsX0_blurBy wsX0_isOnTracksInUse := goodIn_r _ [10, 11, 12, 13, 14, 15, 16, 28, 29, 30, 31, 32, 33, 34, 35, 36] rfl (by decide +kernel)
set_option maxRecDepth 20000 in
theorem gX0_blurBy_X0_isOnTracksInUse : GoodIn wsX0_blurBy (wsV RX0 110 RX0 yX0_isOnTracksInUse wsX0_isOnTracksInUse) := goodIn_app (goodIn_of _ (by decide +kernel)) ggX0_blurBy_X0_isOnTracksInUse
set_option maxRecDepth 20000 in
theorem ggX0_blurBy_X0_holdsNumber : GoodIn wsX0_blurBy wsX0_holdsNumber := goodIn_r _ [20, 21, 15, 13, 16, 28, 29, 30, 31, 32, 33, 34, 35, 36] rfl (by decide +kernel)
set_option maxRecDepth 20000 in
theorem gX0_blurBy_X0_holdsNumber : GoodIn wsX0_blurBy (wsV RX0 113 RX0 yX0_holdsNumber wsX0_holdsNumber) := goodIn_app (goodIn_of _ (by decide +kernel)) ggX0_blurBy_X0_holdsNumber
set_option maxRecDepth 20000 in
theorem ggX0_blurBy_X0_blurOf : GoodIn wsX0_blurBy wsX0_blurOf := goodIn_r _ [25, 1, 15, 13, 16, 28, 29, 30, 31, 32, 33, 34, 35, 36] rfl (by decide +kernel)
set_option maxRecDepth 20000 in
theorem gX0_blurBy_X0_blurOf : GoodIn wsX0_blurBy (wsV RX0 116 RX0 yX0_blurOf wsX0_blurOf) := goodIn_app (goodIn_of _ (by decide +kernel)) ggX0_blurBy_X0_blurOf
set_option maxRecDepth 20000 in
theorem ggX0_blurBy_X4_lay : GoodIn wsX0_blurBy wsX4_lay := goodIn_r _ [27] rfl (by decide +kernel)
theorem gX0_blurBy_X4_lay_n57 : GoodIn wsX0_blurBy (wsX4_lay) := ggX0_blurBy_X4_lay
theorem dX0_blurBy_0 : decode cX0_blurBy 0 = .ok (.aload_n 0, 1) := by decide +kernel
theorem dX0_blurBy_1 : decode cX0_blurBy 1 = .ok (.iload_n 1, 1) := by decide +kernel
theorem dX0_blurBy_2 : decode cX0_blurBy 2 = .ok (.invokevirtual 110, 3) := by decide +kernel
theorem dX0_blurBy_5 : decode cX0_blurBy 5 = .ok (.ifCond .eq 31, 3) := by decide +kernel
theorem dX0_blurBy_8 : decode cX0_blurBy 8 = .ok (.aload_n 0, 1) := by decide +kernel
theorem dX0_blurBy_9 : decode cX0_blurBy 9 = .ok (.iload_n 1, 1) := by decide +kernel
theorem dX0_blurBy_10 : decode cX0_blurBy 10 = .ok (.invokevirtual 113, 3) := by decide +kernel
theorem dX0_blurBy_13 : decode cX0_blurBy 13 = .ok (.ifCond .eq 23, 3) := by decide +kernel
theorem dX0_blurBy_16 : decode cX0_blurBy 16 = .ok (.aload_n 0, 1) := by decide +kernel
theorem dX0_blurBy_17 : decode cX0_blurBy 17 = .ok (.getfield 21, 3) := by decide +kernel
theorem dX0_blurBy_20 : decode cX0_blurBy 20 = .ok (.iload_n 1, 1) := by decide +kernel
theorem dX0_blurBy_21 : decode cX0_blurBy 21 = .ok (.bipush 99, 2) := by decide +kernel
theorem dX0_blurBy_23 : decode cX0_blurBy 23 = .ok (.aload_n 0, 1) := by decide +kernel
theorem dX0_blurBy_24 : decode cX0_blurBy 24 = .ok (.iload_n 1, 1) := by decide +kernel
theorem dX0_blurBy_25 : decode cX0_blurBy 25 = .ok (.invokevirtual 116, 3) := by decide +kernel
theorem dX0_blurBy_28 : decode cX0_blurBy 28 = .ok (.iload_n 2, 1) := by decide +kernel
theorem dX0_blurBy_29 : decode cX0_blurBy 29 = .ok (.iadd, 1) := by decide +kernel
theorem dX0_blurBy_30 : decode cX0_blurBy 30 = .ok (.invokestatic 119, 3) := by decide +kernel
theorem dX0_blurBy_33 : decode cX0_blurBy 33 = .ok (.invokestatic 57, 3) := by decide +kernel
theorem dX0_blurBy_36 : decode cX0_blurBy 36 = .ok (.return_, 1) := by decide +kernel
theorem dX0_pass_0 : decode cX0_pass 0 = .ok (.aload_n 0, 1) := by decide +kernel
theorem dX0_pass_1 : decode cX0_pass 1 = .ok (.dup, 1) := by decide +kernel
theorem dX0_pass_2 : decode cX0_pass 2 = .ok (.getfield 37, 3) := by decide +kernel
theorem dX0_pass_5 : decode cX0_pass 5 = .ok (.iload_n 1, 1) := by decide +kernel
theorem dX0_pass_6 : decode cX0_pass 6 = .ok (.iadd, 1) := by decide +kernel
theorem dX0_pass_7 : decode cX0_pass 7 = .ok (.putfield 37, 3) := by decide +kernel
theorem dX0_pass_10 : decode cX0_pass 10 = .ok (.aload_n 0, 1) := by decide +kernel
theorem dX0_pass_11 : decode cX0_pass 11 = .ok (.iload_n 2, 1) := by decide +kernel
theorem dX0_pass_12 : decode cX0_pass 12 = .ok (.putfield 40, 3) := by decide +kernel
theorem dX0_pass_15 : decode cX0_pass 15 = .ok (.return_, 1) := by decide +kernel
set_option maxRecDepth 20000 in
theorem ggX0_isOnTracksInUse_X4_isAddress : GoodIn wsX0_isOnTracksInUse wsX4_isAddress := goodIn_r _ [4] rfl (by decide +kernel)
theorem gX0_isOnTracksInUse_X4_isAddress_n125 : GoodIn wsX0_isOnTracksInUse (wsX4_isAddress) := ggX0_isOnTracksInUse_X4_isAddress
set_option maxRecDepth 20000 in
theorem ggX0_isOnTracksInUse_X4_at : GoodIn wsX0_isOnTracksInUse wsX4_at := goodIn_r _ [6] rfl (by decide +kernel)
theorem gX0_isOnTracksInUse_X4_at_n53 : GoodIn wsX0_isOnTracksInUse (wsX4_at) := ggX0_isOnTracksInUse_X4_at
theorem dX0_isOnTracksInUse_0 : decode cX0_isOnTracksInUse 0 = .ok (.iload_n 1, 1) := by decide +kernel
theorem dX0_isOnTracksInUse_1 : decode cX0_isOnTracksInUse 1 = .ok (.invokestatic 125, 3) := by decide +kernel
theorem dX0_isOnTracksInUse_4 : decode cX0_isOnTracksInUse 4 = .ok (.ifCond .eq 19, 3) := by decide +kernel
theorem dX0_isOnTracksInUse_7 : decode cX0_isOnTracksInUse 7 = .ok (.aload_n 0, 1) := by decide +kernel
theorem dX0_isOnTracksInUse_8 : decode cX0_isOnTracksInUse 8 = .ok (.getfield 27, 3) := by decide +kernel
theorem dX0_isOnTracksInUse_11 : decode cX0_isOnTracksInUse 11 = .ok (.iload_n 1, 1) := by decide +kernel
theorem dX0_isOnTracksInUse_12 : decode cX0_isOnTracksInUse 12 = .ok (.invokestatic 53, 3) := by decide +kernel
theorem dX0_isOnTracksInUse_15 : decode cX0_isOnTracksInUse 15 = .ok (.iload_n 1, 1) := by decide +kernel
theorem dX0_isOnTracksInUse_16 : decode cX0_isOnTracksInUse 16 = .ok (.if_icmp .ne 7, 3) := by decide +kernel
theorem dX0_isOnTracksInUse_19 : decode cX0_isOnTracksInUse 19 = .ok (.iconst 1, 1) := by decide +kernel
theorem dX0_isOnTracksInUse_20 : decode cX0_isOnTracksInUse 20 = .ok (.goto 4, 3) := by decide +kernel
theorem dX0_isOnTracksInUse_23 : decode cX0_isOnTracksInUse 23 = .ok (.iconst 0, 1) := by decide +kernel
theorem dX0_isOnTracksInUse_24 : decode cX0_isOnTracksInUse 24 = .ok (.ireturn, 1) := by decide +kernel
set_option maxRecDepth 20000 in
theorem ggX0_sectorFor_X4_at : GoodIn wsX0_sectorFor wsX4_at := goodIn_r _ [4] rfl (by decide +kernel)
theorem gX0_sectorFor_X4_at_n53 : GoodIn wsX0_sectorFor (wsX4_at) := ggX0_sectorFor_X4_at
theorem dX0_sectorFor_0 : decode cX0_sectorFor 0 = .ok (.aload_n 0, 1) := by decide +kernel
theorem dX0_sectorFor_1 : decode cX0_sectorFor 1 = .ok (.getfield 27, 3) := by decide +kernel
theorem dX0_sectorFor_4 : decode cX0_sectorFor 4 = .ok (.iload_n 1, 1) := by decide +kernel
theorem dX0_sectorFor_5 : decode cX0_sectorFor 5 = .ok (.invokestatic 53, 3) := by decide +kernel
theorem dX0_sectorFor_8 : decode cX0_sectorFor 8 = .ok (.ireturn, 1) := by decide +kernel
set_option maxRecDepth 20000 in
theorem ggX0_sectorToWrite_X0_sectorFor : GoodIn wsX0_sectorToWrite wsX0_sectorFor := goodIn_r _ [6, 7, 8, 9, 10, 25, 26, 27, 28, 29, 30, 31, 32, 33] rfl (by decide +kernel)
set_option maxRecDepth 20000 in
theorem gX0_sectorToWrite_X0_sectorFor : GoodIn wsX0_sectorToWrite (wsV RX0 82 RX0 yX0_sectorFor wsX0_sectorFor) := goodIn_app (goodIn_of _ (by decide +kernel)) ggX0_sectorToWrite_X0_sectorFor
set_option maxRecDepth 20000 in
theorem ggX0_sectorToWrite_X0_writingsOf : GoodIn wsX0_sectorToWrite wsX0_writingsOf := goodIn_r _ [14, 15, 8, 9, 10, 25, 26, 27, 28, 29, 30, 31, 32, 33] rfl (by decide +kernel)
set_option maxRecDepth 20000 in
theorem gX0_sectorToWrite_X0_writingsOf : GoodIn wsX0_sectorToWrite (wsV RX0 98 RX0 yX0_writingsOf wsX0_writingsOf) := goodIn_app (goodIn_of _ (by decide +kernel)) ggX0_sectorToWrite_X0_writingsOf
set_option maxRecDepth 20000 in
theorem ggX0_sectorToWrite_X0_settingOf : GoodIn wsX0_sectorToWrite wsX0_settingOf := goodIn_r _ [19, 20, 8, 9, 10, 25, 26, 27, 28, 29, 30, 31, 32, 33] rfl (by decide +kernel)
set_option maxRecDepth 20000 in
theorem gX0_sectorToWrite_X0_settingOf : GoodIn wsX0_sectorToWrite (wsV RX0 104 RX0 yX0_settingOf wsX0_settingOf) := goodIn_app (goodIn_of _ (by decide +kernel)) ggX0_sectorToWrite_X0_settingOf
set_option maxRecDepth 20000 in
theorem ggX0_sectorToWrite_X0_sparesLeft : GoodIn wsX0_sectorToWrite wsX0_sparesLeft := goodIn_r _ [24, 1, 25, 26, 27, 28, 29, 30, 31, 32, 33] rfl (by decide +kernel)
set_option maxRecDepth 20000 in
theorem gX0_sectorToWrite_X0_sparesLeft : GoodIn wsX0_sectorToWrite (wsV RX0 128 RX0 yX0_sparesLeft wsX0_sparesLeft) := goodIn_app (goodIn_of _ (by decide +kernel)) ggX0_sectorToWrite_X0_sparesLeft
theorem dX0_sectorToWrite_0 : decode cX0_sectorToWrite 0 = .ok (.aload_n 0, 1) := by decide +kernel
theorem dX0_sectorToWrite_1 : decode cX0_sectorToWrite 1 = .ok (.iload_n 1, 1) := by decide +kernel
theorem dX0_sectorToWrite_2 : decode cX0_sectorToWrite 2 = .ok (.invokevirtual 82, 3) := by decide +kernel
theorem dX0_sectorToWrite_5 : decode cX0_sectorToWrite 5 = .ok (.istore_n 2, 1) := by decide +kernel
theorem dX0_sectorToWrite_6 : decode cX0_sectorToWrite 6 = .ok (.aload_n 0, 1) := by decide +kernel
theorem dX0_sectorToWrite_7 : decode cX0_sectorToWrite 7 = .ok (.iload_n 2, 1) := by decide +kernel
theorem dX0_sectorToWrite_8 : decode cX0_sectorToWrite 8 = .ok (.invokevirtual 98, 3) := by decide +kernel
theorem dX0_sectorToWrite_11 : decode cX0_sectorToWrite 11 = .ok (.aload_n 0, 1) := by decide +kernel
theorem dX0_sectorToWrite_12 : decode cX0_sectorToWrite 12 = .ok (.iconst 3, 1) := by decide +kernel
theorem dX0_sectorToWrite_13 : decode cX0_sectorToWrite 13 = .ok (.invokevirtual 104, 3) := by decide +kernel
theorem dX0_sectorToWrite_16 : decode cX0_sectorToWrite 16 = .ok (.if_icmp .lt 7, 3) := by decide +kernel
theorem dX0_sectorToWrite_19 : decode cX0_sectorToWrite 19 = .ok (.iconst 1, 1) := by decide +kernel
theorem dX0_sectorToWrite_20 : decode cX0_sectorToWrite 20 = .ok (.goto 4, 3) := by decide +kernel
theorem dX0_sectorToWrite_23 : decode cX0_sectorToWrite 23 = .ok (.iconst 0, 1) := by decide +kernel
theorem dX0_sectorToWrite_24 : decode cX0_sectorToWrite 24 = .ok (.istore_n 3, 1) := by decide +kernel
theorem dX0_sectorToWrite_25 : decode cX0_sectorToWrite 25 = .ok (.iload_n 3, 1) := by decide +kernel
theorem dX0_sectorToWrite_26 : decode cX0_sectorToWrite 26 = .ok (.ifCond .eq 21, 3) := by decide +kernel
theorem dX0_sectorToWrite_29 : decode cX0_sectorToWrite 29 = .ok (.aload_n 0, 1) := by decide +kernel
theorem dX0_sectorToWrite_30 : decode cX0_sectorToWrite 30 = .ok (.invokevirtual 128, 3) := by decide +kernel
theorem dX0_sectorToWrite_33 : decode cX0_sectorToWrite 33 = .ok (.ifCond .le 14, 3) := by decide +kernel
theorem dX0_sectorToWrite_36 : decode cX0_sectorToWrite 36 = .ok (.sipush 192, 3) := by decide +kernel
theorem dX0_sectorToWrite_39 : decode cX0_sectorToWrite 39 = .ok (.aload_n 0, 1) := by decide +kernel
theorem dX0_sectorToWrite_40 : decode cX0_sectorToWrite 40 = .ok (.getfield 30, 3) := by decide +kernel
theorem dX0_sectorToWrite_43 : decode cX0_sectorToWrite 43 = .ok (.iadd, 1) := by decide +kernel
theorem dX0_sectorToWrite_44 : decode cX0_sectorToWrite 44 = .ok (.goto 4, 3) := by decide +kernel
theorem dX0_sectorToWrite_47 : decode cX0_sectorToWrite 47 = .ok (.iload_n 2, 1) := by decide +kernel
theorem dX0_sectorToWrite_48 : decode cX0_sectorToWrite 48 = .ok (.ireturn, 1) := by decide +kernel
theorem dX0_sparesLeft_0 : decode cX0_sparesLeft 0 = .ok (.bipush 12, 2) := by decide +kernel
theorem dX0_sparesLeft_2 : decode cX0_sparesLeft 2 = .ok (.aload_n 0, 1) := by decide +kernel
theorem dX0_sparesLeft_3 : decode cX0_sparesLeft 3 = .ok (.getfield 30, 3) := by decide +kernel
theorem dX0_sparesLeft_6 : decode cX0_sparesLeft 6 = .ok (.isub, 1) := by decide +kernel
theorem dX0_sparesLeft_7 : decode cX0_sparesLeft 7 = .ok (.ireturn, 1) := by decide +kernel
set_option maxRecDepth 20000 in
theorem ggX0_numberIn_X4_at : GoodIn wsX0_numberIn wsX4_at := goodIn_r _ [4] rfl (by decide +kernel)
theorem gX0_numberIn_X4_at_n53 : GoodIn wsX0_numberIn (wsX4_at) := ggX0_numberIn_X4_at
theorem dX0_numberIn_0 : decode cX0_numberIn 0 = .ok (.aload_n 0, 1) := by decide +kernel
theorem dX0_numberIn_1 : decode cX0_numberIn 1 = .ok (.getfield 18, 3) := by decide +kernel
theorem dX0_numberIn_4 : decode cX0_numberIn 4 = .ok (.iload_n 1, 1) := by decide +kernel
theorem dX0_numberIn_5 : decode cX0_numberIn 5 = .ok (.invokestatic 53, 3) := by decide +kernel
theorem dX0_numberIn_8 : decode cX0_numberIn 8 = .ok (.ireturn, 1) := by decide +kernel
set_option maxRecDepth 20000 in
theorem ggX0_blurOf_X4_at : GoodIn wsX0_blurOf wsX4_at := goodIn_r _ [4] rfl (by decide +kernel)
theorem gX0_blurOf_X4_at_n53 : GoodIn wsX0_blurOf (wsX4_at) := ggX0_blurOf_X4_at
theorem dX0_blurOf_0 : decode cX0_blurOf 0 = .ok (.aload_n 0, 1) := by decide +kernel
theorem dX0_blurOf_1 : decode cX0_blurOf 1 = .ok (.getfield 21, 3) := by decide +kernel
theorem dX0_blurOf_4 : decode cX0_blurOf 4 = .ok (.iload_n 1, 1) := by decide +kernel
theorem dX0_blurOf_5 : decode cX0_blurOf 5 = .ok (.invokestatic 53, 3) := by decide +kernel
theorem dX0_blurOf_8 : decode cX0_blurOf 8 = .ok (.ireturn, 1) := by decide +kernel
set_option maxRecDepth 20000 in
theorem ggX0_writingsOf_X4_at : GoodIn wsX0_writingsOf wsX4_at := goodIn_r _ [4] rfl (by decide +kernel)
theorem gX0_writingsOf_X4_at_n53 : GoodIn wsX0_writingsOf (wsX4_at) := ggX0_writingsOf_X4_at
theorem dX0_writingsOf_0 : decode cX0_writingsOf 0 = .ok (.aload_n 0, 1) := by decide +kernel
theorem dX0_writingsOf_1 : decode cX0_writingsOf 1 = .ok (.getfield 24, 3) := by decide +kernel
theorem dX0_writingsOf_4 : decode cX0_writingsOf 4 = .ok (.iload_n 1, 1) := by decide +kernel
theorem dX0_writingsOf_5 : decode cX0_writingsOf 5 = .ok (.invokestatic 53, 3) := by decide +kernel
theorem dX0_writingsOf_8 : decode cX0_writingsOf 8 = .ok (.ireturn, 1) := by decide +kernel
set_option maxRecDepth 20000 in
theorem ggX0_holdsNumber_X4_at : GoodIn wsX0_holdsNumber wsX4_at := goodIn_r _ [4] rfl (by decide +kernel)
theorem gX0_holdsNumber_X4_at_n53 : GoodIn wsX0_holdsNumber (wsX4_at) := ggX0_holdsNumber_X4_at
theorem dX0_holdsNumber_0 : decode cX0_holdsNumber 0 = .ok (.aload_n 0, 1) := by decide +kernel
theorem dX0_holdsNumber_1 : decode cX0_holdsNumber 1 = .ok (.getfield 18, 3) := by decide +kernel
theorem dX0_holdsNumber_4 : decode cX0_holdsNumber 4 = .ok (.iload_n 1, 1) := by decide +kernel
theorem dX0_holdsNumber_5 : decode cX0_holdsNumber 5 = .ok (.invokestatic 53, 3) := by decide +kernel
theorem dX0_holdsNumber_8 : decode cX0_holdsNumber 8 = .ok (.bipush (-6), 2) := by decide +kernel
theorem dX0_holdsNumber_10 : decode cX0_holdsNumber 10 = .ok (.if_icmp .eq 7, 3) := by decide +kernel
theorem dX0_holdsNumber_13 : decode cX0_holdsNumber 13 = .ok (.iconst 1, 1) := by decide +kernel
theorem dX0_holdsNumber_14 : decode cX0_holdsNumber 14 = .ok (.goto 4, 3) := by decide +kernel
theorem dX0_holdsNumber_17 : decode cX0_holdsNumber 17 = .ok (.iconst 0, 1) := by decide +kernel
theorem dX0_holdsNumber_18 : decode cX0_holdsNumber 18 = .ok (.ireturn, 1) := by decide +kernel
set_option maxRecDepth 20000 in
theorem ggX0_isReadable_X0_holdsNumber : GoodIn wsX0_isReadable wsX0_holdsNumber := goodIn_r _ [5, 6, 7, 8, 9, 20, 21, 22, 23, 24, 25, 26, 27, 28] rfl (by decide +kernel)
set_option maxRecDepth 20000 in
theorem gX0_isReadable_X0_holdsNumber : GoodIn wsX0_isReadable (wsV RX0 113 RX0 yX0_holdsNumber wsX0_holdsNumber) := goodIn_app (goodIn_of _ (by decide +kernel)) ggX0_isReadable_X0_holdsNumber
set_option maxRecDepth 20000 in
theorem ggX0_isReadable_X0_blurOf : GoodIn wsX0_isReadable wsX0_blurOf := goodIn_r _ [13, 14, 7, 8, 9, 20, 21, 22, 23, 24, 25, 26, 27, 28] rfl (by decide +kernel)
set_option maxRecDepth 20000 in
theorem gX0_isReadable_X0_blurOf : GoodIn wsX0_isReadable (wsV RX0 116 RX0 yX0_blurOf wsX0_blurOf) := goodIn_app (goodIn_of _ (by decide +kernel)) ggX0_isReadable_X0_blurOf
set_option maxRecDepth 20000 in
theorem ggX0_isReadable_X0_settingOf : GoodIn wsX0_isReadable wsX0_settingOf := goodIn_r _ [18, 19, 7, 8, 9, 20, 21, 22, 23, 24, 25, 26, 27, 28] rfl (by decide +kernel)
set_option maxRecDepth 20000 in
theorem gX0_isReadable_X0_settingOf : GoodIn wsX0_isReadable (wsV RX0 104 RX0 yX0_settingOf wsX0_settingOf) := goodIn_app (goodIn_of _ (by decide +kernel)) ggX0_isReadable_X0_settingOf
theorem dX0_isReadable_0 : decode cX0_isReadable 0 = .ok (.aload_n 0, 1) := by decide +kernel
theorem dX0_isReadable_1 : decode cX0_isReadable 1 = .ok (.iload_n 1, 1) := by decide +kernel
theorem dX0_isReadable_2 : decode cX0_isReadable 2 = .ok (.invokevirtual 113, 3) := by decide +kernel
theorem dX0_isReadable_5 : decode cX0_isReadable 5 = .ok (.ifCond .eq 20, 3) := by decide +kernel
theorem dX0_isReadable_8 : decode cX0_isReadable 8 = .ok (.aload_n 0, 1) := by decide +kernel
theorem dX0_isReadable_9 : decode cX0_isReadable 9 = .ok (.iload_n 1, 1) := by decide +kernel
theorem dX0_isReadable_10 : decode cX0_isReadable 10 = .ok (.invokevirtual 116, 3) := by decide +kernel
theorem dX0_isReadable_13 : decode cX0_isReadable 13 = .ok (.aload_n 0, 1) := by decide +kernel
theorem dX0_isReadable_14 : decode cX0_isReadable 14 = .ok (.iconst 2, 1) := by decide +kernel
theorem dX0_isReadable_15 : decode cX0_isReadable 15 = .ok (.invokevirtual 104, 3) := by decide +kernel
theorem dX0_isReadable_18 : decode cX0_isReadable 18 = .ok (.if_icmp .ge 7, 3) := by decide +kernel
theorem dX0_isReadable_21 : decode cX0_isReadable 21 = .ok (.iconst 1, 1) := by decide +kernel
theorem dX0_isReadable_22 : decode cX0_isReadable 22 = .ok (.goto 4, 3) := by decide +kernel
theorem dX0_isReadable_25 : decode cX0_isReadable 25 = .ok (.iconst 0, 1) := by decide +kernel
theorem dX0_isReadable_26 : decode cX0_isReadable 26 = .ok (.ireturn, 1) := by decide +kernel
set_option maxRecDepth 20000 in
theorem ggX0_settingOf_X4_at : GoodIn wsX0_settingOf wsX4_at := goodIn_r _ [4] rfl (by decide +kernel)
theorem gX0_settingOf_X4_at_n53 : GoodIn wsX0_settingOf (wsX4_at) := ggX0_settingOf_X4_at
theorem dX0_settingOf_0 : decode cX0_settingOf 0 = .ok (.aload_n 0, 1) := by decide +kernel
theorem dX0_settingOf_1 : decode cX0_settingOf 1 = .ok (.getfield 13, 3) := by decide +kernel
theorem dX0_settingOf_4 : decode cX0_settingOf 4 = .ok (.iload_n 1, 1) := by decide +kernel
theorem dX0_settingOf_5 : decode cX0_settingOf 5 = .ok (.invokestatic 53, 3) := by decide +kernel
theorem dX0_settingOf_8 : decode cX0_settingOf 8 = .ok (.ireturn, 1) := by decide +kernel
set_option maxRecDepth 20000 in
theorem ggX0_ticksTo_X4_trackOf : GoodIn wsX0_ticksTo wsX4_trackOf := goodIn_r _ [4] rfl (by decide +kernel)
theorem gX0_ticksTo_X4_trackOf_n75 : GoodIn wsX0_ticksTo (wsX4_trackOf) := ggX0_ticksTo_X4_trackOf
set_option maxRecDepth 20000 in
theorem ggX0_ticksTo_X0_ticksToTrack : GoodIn wsX0_ticksTo wsX0_ticksToTrack := goodIn_r _ [9, 10, 11, 12, 13, 14, 15, 16, 17, 8, 18, 19, 20, 3, 21, 26, 27, 28, 29, 30, 31, 32, 33, 34] rfl (by decide +kernel)
set_option maxRecDepth 20000 in
theorem gX0_ticksTo_X0_ticksToTrack : GoodIn wsX0_ticksTo (wsV RX0 91 RX0 yX0_ticksToTrack wsX0_ticksToTrack) := goodIn_app (goodIn_of _ (by decide +kernel)) ggX0_ticksTo_X0_ticksToTrack
set_option maxRecDepth 20000 in
theorem ggX0_ticksTo_J9_floorMod_7cf53 : GoodIn wsX0_ticksTo wsJ9_floorMod_7cf53 := goodIn_r _ [25] rfl (by decide +kernel)
set_option maxRecDepth 20000 in
theorem gX0_ticksTo_J9_floorMod_7cf53 : GoodIn wsX0_ticksTo (va_wsS RX0 131 yJ9_floorMod_7cf53 wsJ9_floorMod_7cf53) := goodIn_app (goodIn_of _ (by decide +kernel)) ggX0_ticksTo_J9_floorMod_7cf53
theorem dX0_ticksTo_0 : decode cX0_ticksTo 0 = .ok (.aload_n 0, 1) := by decide +kernel
theorem dX0_ticksTo_1 : decode cX0_ticksTo 1 = .ok (.iload_n 1, 1) := by decide +kernel
theorem dX0_ticksTo_2 : decode cX0_ticksTo 2 = .ok (.invokestatic 75, 3) := by decide +kernel
theorem dX0_ticksTo_5 : decode cX0_ticksTo 5 = .ok (.invokevirtual 91, 3) := by decide +kernel
theorem dX0_ticksTo_8 : decode cX0_ticksTo 8 = .ok (.istore_n 2, 1) := by decide +kernel
theorem dX0_ticksTo_9 : decode cX0_ticksTo 9 = .ok (.iload_n 1, 1) := by decide +kernel
theorem dX0_ticksTo_10 : decode cX0_ticksTo 10 = .ok (.aload_n 0, 1) := by decide +kernel
theorem dX0_ticksTo_11 : decode cX0_ticksTo 11 = .ok (.getfield 37, 3) := by decide +kernel
theorem dX0_ticksTo_14 : decode cX0_ticksTo 14 = .ok (.iload_n 2, 1) := by decide +kernel
theorem dX0_ticksTo_15 : decode cX0_ticksTo 15 = .ok (.iadd, 1) := by decide +kernel
theorem dX0_ticksTo_16 : decode cX0_ticksTo 16 = .ok (.isub, 1) := by decide +kernel
theorem dX0_ticksTo_17 : decode cX0_ticksTo 17 = .ok (.bipush 12, 2) := by decide +kernel
theorem dX0_ticksTo_19 : decode cX0_ticksTo 19 = .ok (.invokestatic 131, 3) := by decide +kernel
theorem dX0_ticksTo_22 : decode cX0_ticksTo 22 = .ok (.istore_n 3, 1) := by decide +kernel
theorem dX0_ticksTo_23 : decode cX0_ticksTo 23 = .ok (.iload_n 2, 1) := by decide +kernel
theorem dX0_ticksTo_24 : decode cX0_ticksTo 24 = .ok (.iload_n 3, 1) := by decide +kernel
theorem dX0_ticksTo_25 : decode cX0_ticksTo 25 = .ok (.iadd, 1) := by decide +kernel
theorem dX0_ticksTo_26 : decode cX0_ticksTo 26 = .ok (.iconst 1, 1) := by decide +kernel
theorem dX0_ticksTo_27 : decode cX0_ticksTo 27 = .ok (.iadd, 1) := by decide +kernel
theorem dX0_ticksTo_28 : decode cX0_ticksTo 28 = .ok (.ireturn, 1) := by decide +kernel
set_option maxRecDepth 20000 in
theorem ggX0_ticksToTrack_X0_settingOf : GoodIn wsX0_ticksToTrack wsX0_settingOf := goodIn_r _ [10, 11, 12, 13, 14, 15, 16, 17, 18, 19, 20, 21, 22, 23] rfl (by decide +kernel)
set_option maxRecDepth 20000 in
theorem gX0_ticksToTrack_X0_settingOf : GoodIn wsX0_ticksToTrack (wsV RX0 104 RX0 yX0_settingOf wsX0_settingOf) := goodIn_app (goodIn_of _ (by decide +kernel)) ggX0_ticksToTrack_X0_settingOf
theorem dX0_ticksToTrack_0 : decode cX0_ticksToTrack 0 = .ok (.aload_n 0, 1) := by decide +kernel
theorem dX0_ticksToTrack_1 : decode cX0_ticksToTrack 1 = .ok (.iconst 4, 1) := by decide +kernel
theorem dX0_ticksToTrack_2 : decode cX0_ticksToTrack 2 = .ok (.invokevirtual 104, 3) := by decide +kernel
theorem dX0_ticksToTrack_5 : decode cX0_ticksToTrack 5 = .ok (.iload_n 1, 1) := by decide +kernel
theorem dX0_ticksToTrack_6 : decode cX0_ticksToTrack 6 = .ok (.aload_n 0, 1) := by decide +kernel
theorem dX0_ticksToTrack_7 : decode cX0_ticksToTrack 7 = .ok (.getfield 40, 3) := by decide +kernel
theorem dX0_ticksToTrack_10 : decode cX0_ticksToTrack 10 = .ok (.isub, 1) := by decide +kernel
theorem dX0_ticksToTrack_11 : decode cX0_ticksToTrack 11 = .ok (.invokestatic 134, 3) := by decide +kernel
theorem dX0_ticksToTrack_14 : decode cX0_ticksToTrack 14 = .ok (.imul, 1) := by decide +kernel
theorem dX0_ticksToTrack_15 : decode cX0_ticksToTrack 15 = .ok (.ireturn, 1) := by decide +kernel
theorem dX0_hasTime_0 : decode cX0_hasTime 0 = .ok (.iload_n 1, 1) := by decide +kernel
theorem dX0_hasTime_1 : decode cX0_hasTime 1 = .ok (.ldc 137, 2) := by decide +kernel
theorem dX0_hasTime_3 : decode cX0_hasTime 3 = .ok (.aload_n 0, 1) := by decide +kernel
theorem dX0_hasTime_4 : decode cX0_hasTime 4 = .ok (.getfield 37, 3) := by decide +kernel
theorem dX0_hasTime_7 : decode cX0_hasTime 7 = .ok (.isub, 1) := by decide +kernel
theorem dX0_hasTime_8 : decode cX0_hasTime 8 = .ok (.if_icmp .gt 7, 3) := by decide +kernel
theorem dX0_hasTime_11 : decode cX0_hasTime 11 = .ok (.iconst 1, 1) := by decide +kernel
theorem dX0_hasTime_12 : decode cX0_hasTime 12 = .ok (.goto 4, 3) := by decide +kernel
theorem dX0_hasTime_15 : decode cX0_hasTime 15 = .ok (.iconst 0, 1) := by decide +kernel
theorem dX0_hasTime_16 : decode cX0_hasTime 16 = .ok (.ireturn, 1) := by decide +kernel
theorem dX0_sectorUnderHead_0 : decode cX0_sectorUnderHead 0 = .ok (.aload_n 0, 1) := by decide +kernel
theorem dX0_sectorUnderHead_1 : decode cX0_sectorUnderHead 1 = .ok (.getfield 37, 3) := by decide +kernel
theorem dX0_sectorUnderHead_4 : decode cX0_sectorUnderHead 4 = .ok (.bipush 12, 2) := by decide +kernel
theorem dX0_sectorUnderHead_6 : decode cX0_sectorUnderHead 6 = .ok (.irem, 1) := by decide +kernel
theorem dX0_sectorUnderHead_7 : decode cX0_sectorUnderHead 7 = .ok (.ireturn, 1) := by decide +kernel
set_option maxRecDepth 20000 in
theorem ggX0_filledOn_X0_sectorFor : GoodIn wsX0_filledOn wsX0_sectorFor := goodIn_r _ [5, 6, 7, 8, 9, 20, 21, 22, 23, 24, 25, 26, 27, 28] rfl (by decide +kernel)
set_option maxRecDepth 20000 in
theorem gX0_filledOn_X0_sectorFor : GoodIn wsX0_filledOn (wsV RX0 82 RX0 yX0_sectorFor wsX0_sectorFor) := goodIn_app (goodIn_of _ (by decide +kernel)) ggX0_filledOn_X0_sectorFor
set_option maxRecDepth 20000 in
theorem ggX0_filledOn_X0_isWithin : GoodIn wsX0_filledOn wsX0_isWithin := goodIn_r _ [12, 13, 8, 14] rfl (by decide +kernel)
set_option maxRecDepth 20000 in
theorem gX0_filledOn_X0_isWithin : GoodIn wsX0_filledOn (va_wsS RX0 138 yX0_isWithin wsX0_isWithin) := goodIn_app (goodIn_of _ (by decide +kernel)) ggX0_filledOn_X0_isWithin
set_option maxRecDepth 20000 in
theorem ggX0_filledOn_X0_holdsNumber : GoodIn wsX0_filledOn wsX0_holdsNumber := goodIn_r _ [18, 19, 7, 8, 9, 20, 21, 22, 23, 24, 25, 26, 27, 28] rfl (by decide +kernel)
set_option maxRecDepth 20000 in
theorem gX0_filledOn_X0_holdsNumber : GoodIn wsX0_filledOn (wsV RX0 113 RX0 yX0_holdsNumber wsX0_holdsNumber) := goodIn_app (goodIn_of _ (by decide +kernel)) ggX0_filledOn_X0_holdsNumber
theorem dX0_filledOn_0 : decode cX0_filledOn 0 = .ok (.iconst 0, 1) := by decide +kernel
theorem dX0_filledOn_1 : decode cX0_filledOn 1 = .ok (.istore_n 3, 1) := by decide +kernel
theorem dX0_filledOn_2 : decode cX0_filledOn 2 = .ok (.iconst 0, 1) := by decide +kernel
theorem dX0_filledOn_3 : decode cX0_filledOn 3 = .ok (.istore 4, 2) := by decide +kernel
theorem dX0_filledOn_5 : decode cX0_filledOn 5 = .ok (.iload 4, 2) := by decide +kernel
theorem dX0_filledOn_7 : decode cX0_filledOn 7 = .ok (.sipush 192, 3) := by decide +kernel
theorem dX0_filledOn_10 : decode cX0_filledOn 10 = .ok (.if_icmp .ge 39, 3) := by decide +kernel
theorem dX0_filledOn_13 : decode cX0_filledOn 13 = .ok (.aload_n 0, 1) := by decide +kernel
theorem dX0_filledOn_14 : decode cX0_filledOn 14 = .ok (.iload 4, 2) := by decide +kernel
theorem dX0_filledOn_16 : decode cX0_filledOn 16 = .ok (.invokevirtual 82, 3) := by decide +kernel
theorem dX0_filledOn_19 : decode cX0_filledOn 19 = .ok (.istore 5, 2) := by decide +kernel
theorem dX0_filledOn_21 : decode cX0_filledOn 21 = .ok (.iload 5, 2) := by decide +kernel
theorem dX0_filledOn_23 : decode cX0_filledOn 23 = .ok (.iload_n 1, 1) := by decide +kernel
theorem dX0_filledOn_24 : decode cX0_filledOn 24 = .ok (.iload_n 2, 1) := by decide +kernel
theorem dX0_filledOn_25 : decode cX0_filledOn 25 = .ok (.invokestatic 138, 3) := by decide +kernel
theorem dX0_filledOn_28 : decode cX0_filledOn 28 = .ok (.ifCond .eq 15, 3) := by decide +kernel
theorem dX0_filledOn_31 : decode cX0_filledOn 31 = .ok (.aload_n 0, 1) := by decide +kernel
theorem dX0_filledOn_32 : decode cX0_filledOn 32 = .ok (.iload 5, 2) := by decide +kernel
theorem dX0_filledOn_34 : decode cX0_filledOn 34 = .ok (.invokevirtual 113, 3) := by decide +kernel
theorem dX0_filledOn_37 : decode cX0_filledOn 37 = .ok (.ifCond .eq 6, 3) := by decide +kernel
theorem dX0_filledOn_40 : decode cX0_filledOn 40 = .ok (.iinc 3 1, 3) := by decide +kernel
theorem dX0_filledOn_43 : decode cX0_filledOn 43 = .ok (.iinc 4 1, 3) := by decide +kernel
theorem dX0_filledOn_46 : decode cX0_filledOn 46 = .ok (.goto (-41), 3) := by decide +kernel
theorem dX0_filledOn_49 : decode cX0_filledOn 49 = .ok (.iload_n 3, 1) := by decide +kernel
theorem dX0_filledOn_50 : decode cX0_filledOn 50 = .ok (.ireturn, 1) := by decide +kernel
set_option maxRecDepth 20000 in
theorem ggX0_unreadableOn_X0_sectorFor : GoodIn wsX0_unreadableOn wsX0_sectorFor := goodIn_r _ [5, 6, 7, 8, 9, 34, 35, 36, 37, 38, 39, 40, 41, 42] rfl (by decide +kernel)
set_option maxRecDepth 20000 in
theorem gX0_unreadableOn_X0_sectorFor : GoodIn wsX0_unreadableOn (wsV RX0 82 RX0 yX0_sectorFor wsX0_sectorFor) := goodIn_app (goodIn_of _ (by decide +kernel)) ggX0_unreadableOn_X0_sectorFor
set_option maxRecDepth 20000 in
theorem ggX0_unreadableOn_X0_isWithin : GoodIn wsX0_unreadableOn wsX0_isWithin := goodIn_r _ [12, 13, 8, 14] rfl (by decide +kernel)
set_option maxRecDepth 20000 in
theorem gX0_unreadableOn_X0_isWithin : GoodIn wsX0_unreadableOn (va_wsS RX0 138 yX0_isWithin wsX0_isWithin) := goodIn_app (goodIn_of _ (by decide +kernel)) ggX0_unreadableOn_X0_isWithin
set_option maxRecDepth 20000 in
theorem ggX0_unreadableOn_X0_holdsNumber : GoodIn wsX0_unreadableOn wsX0_holdsNumber := goodIn_r _ [18, 19, 7, 8, 9, 34, 35, 36, 37, 38, 39, 40, 41, 42] rfl (by decide +kernel)
set_option maxRecDepth 20000 in
theorem gX0_unreadableOn_X0_holdsNumber : GoodIn wsX0_unreadableOn (wsV RX0 113 RX0 yX0_holdsNumber wsX0_holdsNumber) := goodIn_app (goodIn_of _ (by decide +kernel)) ggX0_unreadableOn_X0_holdsNumber
set_option maxRecDepth 20000 in
theorem ggX0_unreadableOn_X0_isReadable : GoodIn wsX0_unreadableOn wsX0_isReadable := goodIn_r _ [23, 15, 16, 17, 4, 18, 19, 7, 8, 9, 24, 25, 26, 27, 28, 29, 30, 31, 32, 33, 34, 35, 36, 37, 38, 39, 40, 41, 42] rfl (by decide +kernel)
set_option maxRecDepth 20000 in
theorem gX0_unreadableOn_X0_isReadable : GoodIn wsX0_unreadableOn (wsV RX0 85 RX0 yX0_isReadable wsX0_isReadable) := goodIn_app (goodIn_of _ (by decide +kernel)) ggX0_unreadableOn_X0_isReadable
theorem dX0_unreadableOn_0 : decode cX0_unreadableOn 0 = .ok (.iconst 0, 1) := by decide +kernel
theorem dX0_unreadableOn_1 : decode cX0_unreadableOn 1 = .ok (.istore_n 3, 1) := by decide +kernel
theorem dX0_unreadableOn_2 : decode cX0_unreadableOn 2 = .ok (.iconst 0, 1) := by decide +kernel
theorem dX0_unreadableOn_3 : decode cX0_unreadableOn 3 = .ok (.istore 4, 2) := by decide +kernel
theorem dX0_unreadableOn_5 : decode cX0_unreadableOn 5 = .ok (.iload 4, 2) := by decide +kernel
theorem dX0_unreadableOn_7 : decode cX0_unreadableOn 7 = .ok (.sipush 192, 3) := by decide +kernel
theorem dX0_unreadableOn_10 : decode cX0_unreadableOn 10 = .ok (.if_icmp .ge 48, 3) := by decide +kernel
theorem dX0_unreadableOn_13 : decode cX0_unreadableOn 13 = .ok (.aload_n 0, 1) := by decide +kernel
theorem dX0_unreadableOn_14 : decode cX0_unreadableOn 14 = .ok (.iload 4, 2) := by decide +kernel
theorem dX0_unreadableOn_16 : decode cX0_unreadableOn 16 = .ok (.invokevirtual 82, 3) := by decide +kernel
theorem dX0_unreadableOn_19 : decode cX0_unreadableOn 19 = .ok (.istore 5, 2) := by decide +kernel
theorem dX0_unreadableOn_21 : decode cX0_unreadableOn 21 = .ok (.iload 5, 2) := by decide +kernel
theorem dX0_unreadableOn_23 : decode cX0_unreadableOn 23 = .ok (.iload_n 1, 1) := by decide +kernel
theorem dX0_unreadableOn_24 : decode cX0_unreadableOn 24 = .ok (.iload_n 2, 1) := by decide +kernel
theorem dX0_unreadableOn_25 : decode cX0_unreadableOn 25 = .ok (.invokestatic 138, 3) := by decide +kernel
theorem dX0_unreadableOn_28 : decode cX0_unreadableOn 28 = .ok (.ifCond .eq 24, 3) := by decide +kernel
theorem dX0_unreadableOn_31 : decode cX0_unreadableOn 31 = .ok (.aload_n 0, 1) := by decide +kernel
theorem dX0_unreadableOn_32 : decode cX0_unreadableOn 32 = .ok (.iload 5, 2) := by decide +kernel
theorem dX0_unreadableOn_34 : decode cX0_unreadableOn 34 = .ok (.invokevirtual 113, 3) := by decide +kernel
theorem dX0_unreadableOn_37 : decode cX0_unreadableOn 37 = .ok (.ifCond .eq 15, 3) := by decide +kernel
theorem dX0_unreadableOn_40 : decode cX0_unreadableOn 40 = .ok (.aload_n 0, 1) := by decide +kernel
theorem dX0_unreadableOn_41 : decode cX0_unreadableOn 41 = .ok (.iload 5, 2) := by decide +kernel
theorem dX0_unreadableOn_43 : decode cX0_unreadableOn 43 = .ok (.invokevirtual 85, 3) := by decide +kernel
theorem dX0_unreadableOn_46 : decode cX0_unreadableOn 46 = .ok (.ifCond .ne 6, 3) := by decide +kernel
theorem dX0_unreadableOn_49 : decode cX0_unreadableOn 49 = .ok (.iinc 3 1, 3) := by decide +kernel
theorem dX0_unreadableOn_52 : decode cX0_unreadableOn 52 = .ok (.iinc 4 1, 3) := by decide +kernel
theorem dX0_unreadableOn_55 : decode cX0_unreadableOn 55 = .ok (.goto (-50), 3) := by decide +kernel
theorem dX0_unreadableOn_58 : decode cX0_unreadableOn 58 = .ok (.iload_n 3, 1) := by decide +kernel
theorem dX0_unreadableOn_59 : decode cX0_unreadableOn 59 = .ok (.ireturn, 1) := by decide +kernel
set_option maxRecDepth 20000 in
theorem ggX0_isWithin_X4_trackOf : GoodIn wsX0_isWithin wsX4_trackOf := goodIn_r _ [3] rfl (by decide +kernel)
theorem gX0_isWithin_X4_trackOf_n75 : GoodIn wsX0_isWithin (wsX4_trackOf) := ggX0_isWithin_X4_trackOf
theorem dX0_isWithin_0 : decode cX0_isWithin 0 = .ok (.iload_n 0, 1) := by decide +kernel
theorem dX0_isWithin_1 : decode cX0_isWithin 1 = .ok (.invokestatic 75, 3) := by decide +kernel
theorem dX0_isWithin_4 : decode cX0_isWithin 4 = .ok (.iload_n 1, 1) := by decide +kernel
theorem dX0_isWithin_5 : decode cX0_isWithin 5 = .ok (.if_icmp .lt 15, 3) := by decide +kernel
theorem dX0_isWithin_8 : decode cX0_isWithin 8 = .ok (.iload_n 0, 1) := by decide +kernel
theorem dX0_isWithin_9 : decode cX0_isWithin 9 = .ok (.invokestatic 75, 3) := by decide +kernel
theorem dX0_isWithin_12 : decode cX0_isWithin 12 = .ok (.iload_n 2, 1) := by decide +kernel
theorem dX0_isWithin_13 : decode cX0_isWithin 13 = .ok (.if_icmp .gt 7, 3) := by decide +kernel
theorem dX0_isWithin_16 : decode cX0_isWithin 16 = .ok (.iconst 1, 1) := by decide +kernel
theorem dX0_isWithin_17 : decode cX0_isWithin 17 = .ok (.goto 4, 3) := by decide +kernel
theorem dX0_isWithin_20 : decode cX0_isWithin 20 = .ok (.iconst 0, 1) := by decide +kernel
theorem dX0_isWithin_21 : decode cX0_isWithin 21 = .ok (.ireturn, 1) := by decide +kernel
set_option maxRecDepth 20000 in
theorem ggX0_blurOnTrack_X0_sumOnTrack : GoodIn wsX0_blurOnTrack wsX0_sumOnTrack := goodIn_r _ [5, 6, 7, 8] rfl (by decide +kernel)
set_option maxRecDepth 20000 in
theorem gX0_blurOnTrack_X0_sumOnTrack : GoodIn wsX0_blurOnTrack (va_wsS RX0 142 yX0_sumOnTrack wsX0_sumOnTrack) := goodIn_app (goodIn_of _ (by decide +kernel)) ggX0_blurOnTrack_X0_sumOnTrack
theorem dX0_blurOnTrack_0 : decode cX0_blurOnTrack 0 = .ok (.aload_n 0, 1) := by decide +kernel
theorem dX0_blurOnTrack_1 : decode cX0_blurOnTrack 1 = .ok (.getfield 21, 3) := by decide +kernel
theorem dX0_blurOnTrack_4 : decode cX0_blurOnTrack 4 = .ok (.iload_n 1, 1) := by decide +kernel
theorem dX0_blurOnTrack_5 : decode cX0_blurOnTrack 5 = .ok (.invokestatic 142, 3) := by decide +kernel
theorem dX0_blurOnTrack_8 : decode cX0_blurOnTrack 8 = .ok (.ireturn, 1) := by decide +kernel
set_option maxRecDepth 20000 in
theorem ggX0_writingsOnTrack_X0_sumOnTrack : GoodIn wsX0_writingsOnTrack wsX0_sumOnTrack := goodIn_r _ [5, 6, 7, 8] rfl (by decide +kernel)
set_option maxRecDepth 20000 in
theorem gX0_writingsOnTrack_X0_sumOnTrack : GoodIn wsX0_writingsOnTrack (va_wsS RX0 142 yX0_sumOnTrack wsX0_sumOnTrack) := goodIn_app (goodIn_of _ (by decide +kernel)) ggX0_writingsOnTrack_X0_sumOnTrack
theorem dX0_writingsOnTrack_0 : decode cX0_writingsOnTrack 0 = .ok (.aload_n 0, 1) := by decide +kernel
theorem dX0_writingsOnTrack_1 : decode cX0_writingsOnTrack 1 = .ok (.getfield 24, 3) := by decide +kernel
theorem dX0_writingsOnTrack_4 : decode cX0_writingsOnTrack 4 = .ok (.iload_n 1, 1) := by decide +kernel
theorem dX0_writingsOnTrack_5 : decode cX0_writingsOnTrack 5 = .ok (.invokestatic 142, 3) := by decide +kernel
theorem dX0_writingsOnTrack_8 : decode cX0_writingsOnTrack 8 = .ok (.ireturn, 1) := by decide +kernel
set_option maxRecDepth 20000 in
theorem ggX0_writingsOnTracks_X0_writingsOnTrack : GoodIn wsX0_writingsOnTracks wsX0_writingsOnTrack := goodIn_r _ [5, 6, 7, 8, 4, 9, 10, 11, 12, 13, 14, 15, 16, 17, 18, 19, 20, 21] rfl (by decide +kernel)
set_option maxRecDepth 20000 in
theorem gX0_writingsOnTracks_X0_writingsOnTrack : GoodIn wsX0_writingsOnTracks (wsV RX0 145 RX0 yX0_writingsOnTrack wsX0_writingsOnTrack) := goodIn_app (goodIn_of _ (by decide +kernel)) ggX0_writingsOnTracks_X0_writingsOnTrack
theorem dX0_writingsOnTracks_0 : decode cX0_writingsOnTracks 0 = .ok (.iconst 0, 1) := by decide +kernel
theorem dX0_writingsOnTracks_1 : decode cX0_writingsOnTracks 1 = .ok (.istore_n 3, 1) := by decide +kernel
theorem dX0_writingsOnTracks_2 : decode cX0_writingsOnTracks 2 = .ok (.iconst 0, 1) := by decide +kernel
theorem dX0_writingsOnTracks_3 : decode cX0_writingsOnTracks 3 = .ok (.istore 4, 2) := by decide +kernel
theorem dX0_writingsOnTracks_5 : decode cX0_writingsOnTracks 5 = .ok (.iload 4, 2) := by decide +kernel
theorem dX0_writingsOnTracks_7 : decode cX0_writingsOnTracks 7 = .ok (.bipush 16, 2) := by decide +kernel
theorem dX0_writingsOnTracks_9 : decode cX0_writingsOnTracks 9 = .ok (.if_icmp .ge 30, 3) := by decide +kernel
theorem dX0_writingsOnTracks_12 : decode cX0_writingsOnTracks 12 = .ok (.iload_n 2, 1) := by decide +kernel
theorem dX0_writingsOnTracks_13 : decode cX0_writingsOnTracks 13 = .ok (.ifCond .le 20, 3) := by decide +kernel
theorem dX0_writingsOnTracks_16 : decode cX0_writingsOnTracks 16 = .ok (.iload 4, 2) := by decide +kernel
theorem dX0_writingsOnTracks_18 : decode cX0_writingsOnTracks 18 = .ok (.iload_n 2, 1) := by decide +kernel
theorem dX0_writingsOnTracks_19 : decode cX0_writingsOnTracks 19 = .ok (.irem, 1) := by decide +kernel
theorem dX0_writingsOnTracks_20 : decode cX0_writingsOnTracks 20 = .ok (.iload_n 1, 1) := by decide +kernel
theorem dX0_writingsOnTracks_21 : decode cX0_writingsOnTracks 21 = .ok (.if_icmp .ne 12, 3) := by decide +kernel
theorem dX0_writingsOnTracks_24 : decode cX0_writingsOnTracks 24 = .ok (.iload_n 3, 1) := by decide +kernel
theorem dX0_writingsOnTracks_25 : decode cX0_writingsOnTracks 25 = .ok (.aload_n 0, 1) := by decide +kernel
theorem dX0_writingsOnTracks_26 : decode cX0_writingsOnTracks 26 = .ok (.iload 4, 2) := by decide +kernel
theorem dX0_writingsOnTracks_28 : decode cX0_writingsOnTracks 28 = .ok (.invokevirtual 145, 3) := by decide +kernel
theorem dX0_writingsOnTracks_31 : decode cX0_writingsOnTracks 31 = .ok (.iadd, 1) := by decide +kernel
theorem dX0_writingsOnTracks_32 : decode cX0_writingsOnTracks 32 = .ok (.istore_n 3, 1) := by decide +kernel
theorem dX0_writingsOnTracks_33 : decode cX0_writingsOnTracks 33 = .ok (.iinc 4 1, 3) := by decide +kernel
theorem dX0_writingsOnTracks_36 : decode cX0_writingsOnTracks 36 = .ok (.goto (-31), 3) := by decide +kernel
theorem dX0_writingsOnTracks_39 : decode cX0_writingsOnTracks 39 = .ok (.iload_n 3, 1) := by decide +kernel
theorem dX0_writingsOnTracks_40 : decode cX0_writingsOnTracks 40 = .ok (.ireturn, 1) := by decide +kernel
set_option maxRecDepth 20000 in
theorem ggX0_sumOnTrack_X4_at : GoodIn wsX0_sumOnTrack wsX4_at := goodIn_r _ [3] rfl (by decide +kernel)
theorem gX0_sumOnTrack_X4_at_n53 : GoodIn wsX0_sumOnTrack (wsX4_at) := ggX0_sumOnTrack_X4_at
theorem dX0_sumOnTrack_0 : decode cX0_sumOnTrack 0 = .ok (.iconst 0, 1) := by decide +kernel
theorem dX0_sumOnTrack_1 : decode cX0_sumOnTrack 1 = .ok (.istore_n 2, 1) := by decide +kernel
theorem dX0_sumOnTrack_2 : decode cX0_sumOnTrack 2 = .ok (.iconst 0, 1) := by decide +kernel
theorem dX0_sumOnTrack_3 : decode cX0_sumOnTrack 3 = .ok (.istore_n 3, 1) := by decide +kernel
theorem dX0_sumOnTrack_4 : decode cX0_sumOnTrack 4 = .ok (.iload_n 3, 1) := by decide +kernel
theorem dX0_sumOnTrack_5 : decode cX0_sumOnTrack 5 = .ok (.bipush 12, 2) := by decide +kernel
theorem dX0_sumOnTrack_7 : decode cX0_sumOnTrack 7 = .ok (.if_icmp .ge 22, 3) := by decide +kernel
theorem dX0_sumOnTrack_10 : decode cX0_sumOnTrack 10 = .ok (.iload_n 2, 1) := by decide +kernel
theorem dX0_sumOnTrack_11 : decode cX0_sumOnTrack 11 = .ok (.aload_n 0, 1) := by decide +kernel
theorem dX0_sumOnTrack_12 : decode cX0_sumOnTrack 12 = .ok (.iload_n 1, 1) := by decide +kernel
theorem dX0_sumOnTrack_13 : decode cX0_sumOnTrack 13 = .ok (.bipush 12, 2) := by decide +kernel
theorem dX0_sumOnTrack_15 : decode cX0_sumOnTrack 15 = .ok (.imul, 1) := by decide +kernel
theorem dX0_sumOnTrack_16 : decode cX0_sumOnTrack 16 = .ok (.iload_n 3, 1) := by decide +kernel
theorem dX0_sumOnTrack_17 : decode cX0_sumOnTrack 17 = .ok (.iadd, 1) := by decide +kernel
theorem dX0_sumOnTrack_18 : decode cX0_sumOnTrack 18 = .ok (.invokestatic 53, 3) := by decide +kernel
theorem dX0_sumOnTrack_21 : decode cX0_sumOnTrack 21 = .ok (.iadd, 1) := by decide +kernel
theorem dX0_sumOnTrack_22 : decode cX0_sumOnTrack 22 = .ok (.istore_n 2, 1) := by decide +kernel
theorem dX0_sumOnTrack_23 : decode cX0_sumOnTrack 23 = .ok (.iinc 3 1, 3) := by decide +kernel
theorem dX0_sumOnTrack_26 : decode cX0_sumOnTrack 26 = .ok (.goto (-22), 3) := by decide +kernel
theorem dX0_sumOnTrack_29 : decode cX0_sumOnTrack 29 = .ok (.iload_n 2, 1) := by decide +kernel
theorem dX0_sumOnTrack_30 : decode cX0_sumOnTrack 30 = .ok (.ireturn, 1) := by decide +kernel
set_option maxRecDepth 20000 in
theorem ggX0_greatestBlur_X0_sectorFor : GoodIn wsX0_greatestBlur wsX0_sectorFor := goodIn_r _ [9, 10, 11, 12, 13, 19, 20, 21, 22, 23, 24, 25, 26, 27] rfl (by decide +kernel)
set_option maxRecDepth 20000 in
theorem gX0_greatestBlur_X0_sectorFor : GoodIn wsX0_greatestBlur (wsV RX0 82 RX0 yX0_sectorFor wsX0_sectorFor) := goodIn_app (goodIn_of _ (by decide +kernel)) ggX0_greatestBlur_X0_sectorFor
set_option maxRecDepth 20000 in
theorem ggX0_greatestBlur_X0_blurOf : GoodIn wsX0_greatestBlur wsX0_blurOf := goodIn_r _ [17, 18, 11, 12, 13, 19, 20, 21, 22, 23, 24, 25, 26, 27] rfl (by decide +kernel)
set_option maxRecDepth 20000 in
theorem gX0_greatestBlur_X0_blurOf : GoodIn wsX0_greatestBlur (wsV RX0 116 RX0 yX0_blurOf wsX0_blurOf) := goodIn_app (goodIn_of _ (by decide +kernel)) ggX0_greatestBlur_X0_blurOf
theorem dX0_greatestBlur_0 : decode cX0_greatestBlur 0 = .ok (.iconst 0, 1) := by decide +kernel
theorem dX0_greatestBlur_1 : decode cX0_greatestBlur 1 = .ok (.istore_n 1, 1) := by decide +kernel
theorem dX0_greatestBlur_2 : decode cX0_greatestBlur 2 = .ok (.iconst 0, 1) := by decide +kernel
theorem dX0_greatestBlur_3 : decode cX0_greatestBlur 3 = .ok (.istore_n 2, 1) := by decide +kernel
theorem dX0_greatestBlur_4 : decode cX0_greatestBlur 4 = .ok (.iload_n 2, 1) := by decide +kernel
theorem dX0_greatestBlur_5 : decode cX0_greatestBlur 5 = .ok (.sipush 192, 3) := by decide +kernel
theorem dX0_greatestBlur_8 : decode cX0_greatestBlur 8 = .ok (.if_icmp .ge 23, 3) := by decide +kernel
theorem dX0_greatestBlur_11 : decode cX0_greatestBlur 11 = .ok (.iload_n 1, 1) := by decide +kernel
theorem dX0_greatestBlur_12 : decode cX0_greatestBlur 12 = .ok (.aload_n 0, 1) := by decide +kernel
theorem dX0_greatestBlur_13 : decode cX0_greatestBlur 13 = .ok (.aload_n 0, 1) := by decide +kernel
theorem dX0_greatestBlur_14 : decode cX0_greatestBlur 14 = .ok (.iload_n 2, 1) := by decide +kernel
theorem dX0_greatestBlur_15 : decode cX0_greatestBlur 15 = .ok (.invokevirtual 82, 3) := by decide +kernel
theorem dX0_greatestBlur_18 : decode cX0_greatestBlur 18 = .ok (.invokevirtual 116, 3) := by decide +kernel
theorem dX0_greatestBlur_21 : decode cX0_greatestBlur 21 = .ok (.invokestatic 148, 3) := by decide +kernel
theorem dX0_greatestBlur_24 : decode cX0_greatestBlur 24 = .ok (.istore_n 1, 1) := by decide +kernel
theorem dX0_greatestBlur_25 : decode cX0_greatestBlur 25 = .ok (.iinc 2 1, 3) := by decide +kernel
theorem dX0_greatestBlur_28 : decode cX0_greatestBlur 28 = .ok (.goto (-24), 3) := by decide +kernel
theorem dX0_greatestBlur_31 : decode cX0_greatestBlur 31 = .ok (.iload_n 1, 1) := by decide +kernel
theorem dX0_greatestBlur_32 : decode cX0_greatestBlur 32 = .ok (.ireturn, 1) := by decide +kernel
theorem dX1_init_0 : decode cX1_init 0 = .ok (.aload_n 0, 1) := by decide +kernel
theorem dX1_init_1 : decode cX1_init 1 = .ok (.invokespecial 3, 3) := by decide +kernel
theorem dX1_init_4 : decode cX1_init 4 = .ok (.aload_n 0, 1) := by decide +kernel
theorem dX1_init_5 : decode cX1_init 5 = .ok (.bipush 6, 2) := by decide +kernel
theorem dX1_init_7 : decode cX1_init 7 = .ok (.anewarray 9, 3) := by decide +kernel
theorem dX1_init_10 : decode cX1_init 10 = .ok (.putfield 11, 3) := by decide +kernel
theorem dX1_init_13 : decode cX1_init 13 = .ok (.aload_n 0, 1) := by decide +kernel
theorem dX1_init_14 : decode cX1_init 14 = .ok (.iconst 0, 1) := by decide +kernel
theorem dX1_init_15 : decode cX1_init 15 = .ok (.putfield 17, 3) := by decide +kernel
theorem dX1_init_18 : decode cX1_init 18 = .ok (.aload_n 0, 1) := by decide +kernel
theorem dX1_init_19 : decode cX1_init 19 = .ok (.iconst 0, 1) := by decide +kernel
theorem dX1_init_20 : decode cX1_init 20 = .ok (.putfield 21, 3) := by decide +kernel
theorem dX1_init_23 : decode cX1_init 23 = .ok (.return_, 1) := by decide +kernel
set_option maxRecDepth 20000 in
theorem ggX1_keep_X1_exchange : GoodIn wsX1_keep wsX1_exchange := goodIn_r _ [7, 8, 9, 10, 11] rfl (by decide +kernel)
set_option maxRecDepth 20000 in
theorem gX1_keep_X1_exchange : GoodIn wsX1_keep (wsV RX1 24 RX1 yX1_exchange wsX1_exchange) := goodIn_app (goodIn_of _ (by decide +kernel)) ggX1_keep_X1_exchange
theorem dX1_keep_0 : decode cX1_keep 0 = .ok (.aload_n 0, 1) := by decide +kernel
theorem dX1_keep_1 : decode cX1_keep 1 = .ok (.getfield 17, 3) := by decide +kernel
theorem dX1_keep_4 : decode cX1_keep 4 = .ok (.aload_n 0, 1) := by decide +kernel
theorem dX1_keep_5 : decode cX1_keep 5 = .ok (.getfield 21, 3) := by decide +kernel
theorem dX1_keep_8 : decode cX1_keep 8 = .ok (.iadd, 1) := by decide +kernel
theorem dX1_keep_9 : decode cX1_keep 9 = .ok (.bipush 6, 2) := by decide +kernel
theorem dX1_keep_11 : decode cX1_keep 11 = .ok (.irem, 1) := by decide +kernel
theorem dX1_keep_12 : decode cX1_keep 12 = .ok (.istore_n 2, 1) := by decide +kernel
theorem dX1_keep_13 : decode cX1_keep 13 = .ok (.aload_n 0, 1) := by decide +kernel
theorem dX1_keep_14 : decode cX1_keep 14 = .ok (.getfield 21, 3) := by decide +kernel
theorem dX1_keep_17 : decode cX1_keep 17 = .ok (.bipush 6, 2) := by decide +kernel
theorem dX1_keep_19 : decode cX1_keep 19 = .ok (.if_icmp .ge 16, 3) := by decide +kernel
theorem dX1_keep_22 : decode cX1_keep 22 = .ok (.aload_n 0, 1) := by decide +kernel
theorem dX1_keep_23 : decode cX1_keep 23 = .ok (.dup, 1) := by decide +kernel
theorem dX1_keep_24 : decode cX1_keep 24 = .ok (.getfield 21, 3) := by decide +kernel
theorem dX1_keep_27 : decode cX1_keep 27 = .ok (.iconst 1, 1) := by decide +kernel
theorem dX1_keep_28 : decode cX1_keep 28 = .ok (.iadd, 1) := by decide +kernel
theorem dX1_keep_29 : decode cX1_keep 29 = .ok (.putfield 21, 3) := by decide +kernel
theorem dX1_keep_32 : decode cX1_keep 32 = .ok (.goto 16, 3) := by decide +kernel
theorem dX1_keep_35 : decode cX1_keep 35 = .ok (.aload_n 0, 1) := by decide +kernel
theorem dX1_keep_36 : decode cX1_keep 36 = .ok (.aload_n 0, 1) := by decide +kernel
theorem dX1_keep_37 : decode cX1_keep 37 = .ok (.getfield 17, 3) := by decide +kernel
theorem dX1_keep_40 : decode cX1_keep 40 = .ok (.iconst 1, 1) := by decide +kernel
theorem dX1_keep_41 : decode cX1_keep 41 = .ok (.iadd, 1) := by decide +kernel
theorem dX1_keep_42 : decode cX1_keep 42 = .ok (.bipush 6, 2) := by decide +kernel
theorem dX1_keep_44 : decode cX1_keep 44 = .ok (.irem, 1) := by decide +kernel
theorem dX1_keep_45 : decode cX1_keep 45 = .ok (.putfield 17, 3) := by decide +kernel
theorem dX1_keep_48 : decode cX1_keep 48 = .ok (.aload_n 0, 1) := by decide +kernel
theorem dX1_keep_49 : decode cX1_keep 49 = .ok (.iload_n 2, 1) := by decide +kernel
theorem dX1_keep_50 : decode cX1_keep 50 = .ok (.aload_n 1, 1) := by decide +kernel
theorem dX1_keep_51 : decode cX1_keep 51 = .ok (.invokevirtual 24, 3) := by decide +kernel
theorem dX1_keep_54 : decode cX1_keep 54 = .ok (.areturn, 1) := by decide +kernel
set_option maxRecDepth 20000 in
theorem ggX1_takeBack_X1_exchange : GoodIn wsX1_takeBack wsX1_exchange := goodIn_r _ [7, 8, 9, 10, 11] rfl (by decide +kernel)
set_option maxRecDepth 20000 in
theorem gX1_takeBack_X1_exchange : GoodIn wsX1_takeBack (wsV RX1 24 RX1 yX1_exchange wsX1_exchange) := goodIn_app (goodIn_of _ (by decide +kernel)) ggX1_takeBack_X1_exchange
theorem dX1_takeBack_0 : decode cX1_takeBack 0 = .ok (.aload_n 0, 1) := by decide +kernel
theorem dX1_takeBack_1 : decode cX1_takeBack 1 = .ok (.getfield 21, 3) := by decide +kernel
theorem dX1_takeBack_4 : decode cX1_takeBack 4 = .ok (.iconst 1, 1) := by decide +kernel
theorem dX1_takeBack_5 : decode cX1_takeBack 5 = .ok (.if_icmp .ge 5, 3) := by decide +kernel
theorem dX1_takeBack_8 : decode cX1_takeBack 8 = .ok (.aconst_null, 1) := by decide +kernel
theorem dX1_takeBack_9 : decode cX1_takeBack 9 = .ok (.areturn, 1) := by decide +kernel
theorem dX1_takeBack_10 : decode cX1_takeBack 10 = .ok (.aload_n 0, 1) := by decide +kernel
theorem dX1_takeBack_11 : decode cX1_takeBack 11 = .ok (.dup, 1) := by decide +kernel
theorem dX1_takeBack_12 : decode cX1_takeBack 12 = .ok (.getfield 21, 3) := by decide +kernel
theorem dX1_takeBack_15 : decode cX1_takeBack 15 = .ok (.iconst 1, 1) := by decide +kernel
theorem dX1_takeBack_16 : decode cX1_takeBack 16 = .ok (.isub, 1) := by decide +kernel
theorem dX1_takeBack_17 : decode cX1_takeBack 17 = .ok (.putfield 21, 3) := by decide +kernel
theorem dX1_takeBack_20 : decode cX1_takeBack 20 = .ok (.aload_n 0, 1) := by decide +kernel
theorem dX1_takeBack_21 : decode cX1_takeBack 21 = .ok (.aload_n 0, 1) := by decide +kernel
theorem dX1_takeBack_22 : decode cX1_takeBack 22 = .ok (.getfield 17, 3) := by decide +kernel
theorem dX1_takeBack_25 : decode cX1_takeBack 25 = .ok (.aload_n 0, 1) := by decide +kernel
theorem dX1_takeBack_26 : decode cX1_takeBack 26 = .ok (.getfield 21, 3) := by decide +kernel
theorem dX1_takeBack_29 : decode cX1_takeBack 29 = .ok (.iadd, 1) := by decide +kernel
theorem dX1_takeBack_30 : decode cX1_takeBack 30 = .ok (.bipush 6, 2) := by decide +kernel
theorem dX1_takeBack_32 : decode cX1_takeBack 32 = .ok (.irem, 1) := by decide +kernel
theorem dX1_takeBack_33 : decode cX1_takeBack 33 = .ok (.aload_n 1, 1) := by decide +kernel
theorem dX1_takeBack_34 : decode cX1_takeBack 34 = .ok (.invokevirtual 24, 3) := by decide +kernel
theorem dX1_takeBack_37 : decode cX1_takeBack 37 = .ok (.areturn, 1) := by decide +kernel
theorem dX1_exchange_0 : decode cX1_exchange 0 = .ok (.iload_n 1, 1) := by decide +kernel
theorem dX1_exchange_1 : decode cX1_exchange 1 = .ok (.ifCond .lt 12, 3) := by decide +kernel
theorem dX1_exchange_4 : decode cX1_exchange 4 = .ok (.iload_n 1, 1) := by decide +kernel
theorem dX1_exchange_5 : decode cX1_exchange 5 = .ok (.aload_n 0, 1) := by decide +kernel
theorem dX1_exchange_6 : decode cX1_exchange 6 = .ok (.getfield 11, 3) := by decide +kernel
theorem dX1_exchange_9 : decode cX1_exchange 9 = .ok (.arraylength, 1) := by decide +kernel
theorem dX1_exchange_10 : decode cX1_exchange 10 = .ok (.if_icmp .lt 5, 3) := by decide +kernel
theorem dX1_exchange_13 : decode cX1_exchange 13 = .ok (.aconst_null, 1) := by decide +kernel
theorem dX1_exchange_14 : decode cX1_exchange 14 = .ok (.areturn, 1) := by decide +kernel
theorem dX1_exchange_15 : decode cX1_exchange 15 = .ok (.aload_n 0, 1) := by decide +kernel
theorem dX1_exchange_16 : decode cX1_exchange 16 = .ok (.getfield 11, 3) := by decide +kernel
theorem dX1_exchange_19 : decode cX1_exchange 19 = .ok (.iload_n 1, 1) := by decide +kernel
theorem dX1_exchange_20 : decode cX1_exchange 20 = .ok (.aaload, 1) := by decide +kernel
theorem dX1_exchange_21 : decode cX1_exchange 21 = .ok (.astore_n 3, 1) := by decide +kernel
theorem dX1_exchange_22 : decode cX1_exchange 22 = .ok (.aload_n 0, 1) := by decide +kernel
theorem dX1_exchange_23 : decode cX1_exchange 23 = .ok (.getfield 11, 3) := by decide +kernel
theorem dX1_exchange_26 : decode cX1_exchange 26 = .ok (.iload_n 1, 1) := by decide +kernel
theorem dX1_exchange_27 : decode cX1_exchange 27 = .ok (.aload_n 2, 1) := by decide +kernel
theorem dX1_exchange_28 : decode cX1_exchange 28 = .ok (.aastore, 1) := by decide +kernel
theorem dX1_exchange_29 : decode cX1_exchange 29 = .ok (.aload_n 3, 1) := by decide +kernel
theorem dX1_exchange_30 : decode cX1_exchange 30 = .ok (.areturn, 1) := by decide +kernel
theorem dX2_init_0 : decode cX2_init 0 = .ok (.aload_n 0, 1) := by decide +kernel
theorem dX2_init_1 : decode cX2_init 1 = .ok (.invokespecial 3, 3) := by decide +kernel
theorem dX2_init_4 : decode cX2_init 4 = .ok (.aload_n 0, 1) := by decide +kernel
theorem dX2_init_5 : decode cX2_init 5 = .ok (.bipush 60, 2) := by decide +kernel
theorem dX2_init_7 : decode cX2_init 7 = .ok (.newarray .int, 2) := by decide +kernel
theorem dX2_init_9 : decode cX2_init 9 = .ok (.putfield 9, 3) := by decide +kernel
theorem dX2_init_12 : decode cX2_init 12 = .ok (.aload_n 0, 1) := by decide +kernel
theorem dX2_init_13 : decode cX2_init 13 = .ok (.iconst 0, 1) := by decide +kernel
theorem dX2_init_14 : decode cX2_init 14 = .ok (.putfield 15, 3) := by decide +kernel
theorem dX2_init_17 : decode cX2_init 17 = .ok (.return_, 1) := by decide +kernel
set_option maxRecDepth 20000 in
theorem ggX2_append_X4_lay : GoodIn wsX2_append wsX4_lay := goodIn_r _ [6] rfl (by decide +kernel)
theorem gX2_append_X4_lay_n21 : GoodIn wsX2_append (wsX4_lay) := ggX2_append_X4_lay
theorem dX2_append_0 : decode cX2_append 0 = .ok (.iload_n 3, 1) := by decide +kernel
theorem dX2_append_1 : decode cX2_append 1 = .ok (.iconst 1, 1) := by decide +kernel
theorem dX2_append_2 : decode cX2_append 2 = .ok (.isub, 1) := by decide +kernel
theorem dX2_append_3 : decode cX2_append 3 = .ok (.istore 4, 2) := by decide +kernel
theorem dX2_append_5 : decode cX2_append 5 = .ok (.iload 4, 2) := by decide +kernel
theorem dX2_append_7 : decode cX2_append 7 = .ok (.ifCond .lt 42, 3) := by decide +kernel
theorem dX2_append_10 : decode cX2_append 10 = .ok (.aload_n 0, 1) := by decide +kernel
theorem dX2_append_11 : decode cX2_append 11 = .ok (.getfield 9, 3) := by decide +kernel
theorem dX2_append_14 : decode cX2_append 14 = .ok (.aload_n 0, 1) := by decide +kernel
theorem dX2_append_15 : decode cX2_append 15 = .ok (.getfield 15, 3) := by decide +kernel
theorem dX2_append_18 : decode cX2_append 18 = .ok (.lload_n 1, 1) := by decide +kernel
theorem dX2_append_19 : decode cX2_append 19 = .ok (.bipush 8, 2) := by decide +kernel
theorem dX2_append_21 : decode cX2_append 21 = .ok (.iload 4, 2) := by decide +kernel
theorem dX2_append_23 : decode cX2_append 23 = .ok (.imul, 1) := by decide +kernel
theorem dX2_append_24 : decode cX2_append 24 = .ok (.lushr, 1) := by decide +kernel
theorem dX2_append_25 : decode cX2_append 25 = .ok (.ldc2_w 19, 3) := by decide +kernel
theorem dX2_append_28 : decode cX2_append 28 = .ok (.land, 1) := by decide +kernel
theorem dX2_append_29 : decode cX2_append 29 = .ok (.l2i, 1) := by decide +kernel
theorem dX2_append_30 : decode cX2_append 30 = .ok (.invokestatic 21, 3) := by decide +kernel
theorem dX2_append_33 : decode cX2_append 33 = .ok (.aload_n 0, 1) := by decide +kernel
theorem dX2_append_34 : decode cX2_append 34 = .ok (.dup, 1) := by decide +kernel
theorem dX2_append_35 : decode cX2_append 35 = .ok (.getfield 15, 3) := by decide +kernel
theorem dX2_append_38 : decode cX2_append 38 = .ok (.iconst 1, 1) := by decide +kernel
theorem dX2_append_39 : decode cX2_append 39 = .ok (.iadd, 1) := by decide +kernel
theorem dX2_append_40 : decode cX2_append 40 = .ok (.putfield 15, 3) := by decide +kernel
theorem dX2_append_43 : decode cX2_append 43 = .ok (.iinc 4 (-1), 3) := by decide +kernel
theorem dX2_append_46 : decode cX2_append 46 = .ok (.goto (-41), 3) := by decide +kernel
theorem dX2_append_49 : decode cX2_append 49 = .ok (.return_, 1) := by decide +kernel
theorem dX2_clear_0 : decode cX2_clear 0 = .ok (.aload_n 0, 1) := by decide +kernel
theorem dX2_clear_1 : decode cX2_clear 1 = .ok (.iconst 0, 1) := by decide +kernel
theorem dX2_clear_2 : decode cX2_clear 2 = .ok (.putfield 15, 3) := by decide +kernel
theorem dX2_clear_5 : decode cX2_clear 5 = .ok (.return_, 1) := by decide +kernel
set_option maxRecDepth 20000 in
theorem ggX2_signAt_X4_at : GoodIn wsX2_signAt wsX4_at := goodIn_r _ [4] rfl (by decide +kernel)
theorem gX2_signAt_X4_at_n25 : GoodIn wsX2_signAt (wsX4_at) := ggX2_signAt_X4_at
theorem dX2_signAt_0 : decode cX2_signAt 0 = .ok (.aload_n 0, 1) := by decide +kernel
theorem dX2_signAt_1 : decode cX2_signAt 1 = .ok (.getfield 9, 3) := by decide +kernel
theorem dX2_signAt_4 : decode cX2_signAt 4 = .ok (.iload_n 1, 1) := by decide +kernel
theorem dX2_signAt_5 : decode cX2_signAt 5 = .ok (.invokestatic 25, 3) := by decide +kernel
theorem dX2_signAt_8 : decode cX2_signAt 8 = .ok (.ireturn, 1) := by decide +kernel
theorem dX3_init_0 : decode cX3_init 0 = .ok (.aload_n 0, 1) := by decide +kernel
theorem dX3_init_1 : decode cX3_init 1 = .ok (.invokespecial 3, 3) := by decide +kernel
theorem dX3_init_4 : decode cX3_init 4 = .ok (.aload_n 0, 1) := by decide +kernel
theorem dX3_init_5 : decode cX3_init 5 = .ok (.bipush 21, 2) := by decide +kernel
theorem dX3_init_7 : decode cX3_init 7 = .ok (.newarray .int, 2) := by decide +kernel
theorem dX3_init_9 : decode cX3_init 9 = .ok (.putfield 9, 3) := by decide +kernel
theorem dX3_init_12 : decode cX3_init 12 = .ok (.aload_n 0, 1) := by decide +kernel
theorem dX3_init_13 : decode cX3_init 13 = .ok (.bipush 21, 2) := by decide +kernel
theorem dX3_init_15 : decode cX3_init 15 = .ok (.newarray .int, 2) := by decide +kernel
theorem dX3_init_17 : decode cX3_init 17 = .ok (.putfield 15, 3) := by decide +kernel
theorem dX3_init_20 : decode cX3_init 20 = .ok (.aload_n 0, 1) := by decide +kernel
theorem dX3_init_21 : decode cX3_init 21 = .ok (.bipush 21, 2) := by decide +kernel
theorem dX3_init_23 : decode cX3_init 23 = .ok (.newarray .int, 2) := by decide +kernel
theorem dX3_init_25 : decode cX3_init 25 = .ok (.putfield 18, 3) := by decide +kernel
theorem dX3_init_28 : decode cX3_init 28 = .ok (.aload_n 0, 1) := by decide +kernel
theorem dX3_init_29 : decode cX3_init 29 = .ok (.iconst 0, 1) := by decide +kernel
theorem dX3_init_30 : decode cX3_init 30 = .ok (.putfield 21, 3) := by decide +kernel
theorem dX3_init_33 : decode cX3_init 33 = .ok (.aload_n 0, 1) := by decide +kernel
theorem dX3_init_34 : decode cX3_init 34 = .ok (.iconst 0, 1) := by decide +kernel
theorem dX3_init_35 : decode cX3_init 35 = .ok (.putfield 25, 3) := by decide +kernel
theorem dX3_init_38 : decode cX3_init 38 = .ok (.return_, 1) := by decide +kernel
set_option maxRecDepth 20000 in
theorem ggX3_parse_X2_signAt : GoodIn wsX3_parse wsX2_signAt := goodIn_r _ [8, 9, 10, 11, 12, 54, 55] rfl (by decide +kernel)
set_option maxRecDepth 20000 in
theorem gX3_parse_X2_signAt : GoodIn wsX3_parse (wsV RX3 33 RX2 yX2_signAt wsX2_signAt) := goodIn_app (goodIn_of _ (by decide +kernel)) ggX3_parse_X2_signAt
set_option maxRecDepth 20000 in
theorem ggX3_parse_X3_takes : GoodIn wsX3_parse wsX3_takes := goodIn_r _ [17, 2, 18, 19, 20, 21, 22, 16, 23, 1, 24, 11, 25, 26, 27, 28, 29, 30, 31, 32, 33, 34, 35, 36, 10, 12, 37, 38, 39, 40, 41, 42, 43, 44, 45, 46, 47, 48, 49, 50, 51, 52, 53] rfl (by decide +kernel)
set_option maxRecDepth 20000 in
theorem gX3_parse_X3_takes : GoodIn wsX3_parse (wsV RX3 37 RX3 yX3_takes wsX3_takes) := goodIn_app (goodIn_of _ (by decide +kernel)) ggX3_parse_X3_takes
set_option maxRecDepth 20000 in
theorem ggX3_parse_X3_isWriting : GoodIn wsX3_parse wsX3_isWriting := goodIn_r _ [44, 19, 10, 11, 12, 49, 50, 51, 52, 53] rfl (by decide +kernel)
set_option maxRecDepth 20000 in
theorem gX3_parse_X3_isWriting : GoodIn wsX3_parse (wsV RX3 41 RX3 yX3_isWriting wsX3_isWriting) := goodIn_app (goodIn_of _ (by decide +kernel)) ggX3_parse_X3_isWriting
theorem dX3_parse_0 : decode cX3_parse 0 = .ok (.aload_n 0, 1) := by decide +kernel
theorem dX3_parse_1 : decode cX3_parse 1 = .ok (.iconst 0, 1) := by decide +kernel
theorem dX3_parse_2 : decode cX3_parse 2 = .ok (.putfield 21, 3) := by decide +kernel
theorem dX3_parse_5 : decode cX3_parse 5 = .ok (.aload_n 0, 1) := by decide +kernel
theorem dX3_parse_6 : decode cX3_parse 6 = .ok (.iconst 0, 1) := by decide +kernel
theorem dX3_parse_7 : decode cX3_parse 7 = .ok (.putfield 25, 3) := by decide +kernel
theorem dX3_parse_10 : decode cX3_parse 10 = .ok (.iconst 0, 1) := by decide +kernel
theorem dX3_parse_11 : decode cX3_parse 11 = .ok (.istore_n 2, 1) := by decide +kernel
theorem dX3_parse_12 : decode cX3_parse 12 = .ok (.iload_n 2, 1) := by decide +kernel
theorem dX3_parse_13 : decode cX3_parse 13 = .ok (.aload_n 1, 1) := by decide +kernel
theorem dX3_parse_14 : decode cX3_parse 14 = .ok (.getfield 28, 3) := by decide +kernel
theorem dX3_parse_17 : decode cX3_parse 17 = .ok (.if_icmp .ge 23, 3) := by decide +kernel
theorem dX3_parse_20 : decode cX3_parse 20 = .ok (.aload_n 0, 1) := by decide +kernel
theorem dX3_parse_21 : decode cX3_parse 21 = .ok (.aload_n 1, 1) := by decide +kernel
theorem dX3_parse_22 : decode cX3_parse 22 = .ok (.iload_n 2, 1) := by decide +kernel
theorem dX3_parse_23 : decode cX3_parse 23 = .ok (.invokevirtual 33, 3) := by decide +kernel
theorem dX3_parse_26 : decode cX3_parse 26 = .ok (.invokevirtual 37, 3) := by decide +kernel
theorem dX3_parse_29 : decode cX3_parse 29 = .ok (.ifCond .ne 5, 3) := by decide +kernel
theorem dX3_parse_32 : decode cX3_parse 32 = .ok (.iload_n 2, 1) := by decide +kernel
theorem dX3_parse_33 : decode cX3_parse 33 = .ok (.ireturn, 1) := by decide +kernel
theorem dX3_parse_34 : decode cX3_parse 34 = .ok (.iinc 2 1, 3) := by decide +kernel
theorem dX3_parse_37 : decode cX3_parse 37 = .ok (.goto (-25), 3) := by decide +kernel
theorem dX3_parse_40 : decode cX3_parse 40 = .ok (.aload_n 0, 1) := by decide +kernel
theorem dX3_parse_41 : decode cX3_parse 41 = .ok (.getfield 25, 3) := by decide +kernel
theorem dX3_parse_44 : decode cX3_parse 44 = .ok (.iconst 4, 1) := by decide +kernel
theorem dX3_parse_45 : decode cX3_parse 45 = .ok (.if_icmp .eq 24, 3) := by decide +kernel
theorem dX3_parse_48 : decode cX3_parse 48 = .ok (.aload_n 0, 1) := by decide +kernel
theorem dX3_parse_49 : decode cX3_parse 49 = .ok (.getfield 25, 3) := by decide +kernel
theorem dX3_parse_52 : decode cX3_parse 52 = .ok (.iconst 2, 1) := by decide +kernel
theorem dX3_parse_53 : decode cX3_parse 53 = .ok (.if_icmp .ne 20, 3) := by decide +kernel
theorem dX3_parse_56 : decode cX3_parse 56 = .ok (.aload_n 0, 1) := by decide +kernel
theorem dX3_parse_57 : decode cX3_parse 57 = .ok (.aload_n 0, 1) := by decide +kernel
theorem dX3_parse_58 : decode cX3_parse 58 = .ok (.getfield 21, 3) := by decide +kernel
theorem dX3_parse_61 : decode cX3_parse 61 = .ok (.iconst 1, 1) := by decide +kernel
theorem dX3_parse_62 : decode cX3_parse 62 = .ok (.isub, 1) := by decide +kernel
theorem dX3_parse_63 : decode cX3_parse 63 = .ok (.invokevirtual 41, 3) := by decide +kernel
theorem dX3_parse_66 : decode cX3_parse 66 = .ok (.ifCond .ne 7, 3) := by decide +kernel
theorem dX3_parse_69 : decode cX3_parse 69 = .ok (.iconst 1, 1) := by decide +kernel
theorem dX3_parse_70 : decode cX3_parse 70 = .ok (.goto 4, 3) := by decide +kernel
theorem dX3_parse_73 : decode cX3_parse 73 = .ok (.iconst 0, 1) := by decide +kernel
theorem dX3_parse_74 : decode cX3_parse 74 = .ok (.istore_n 2, 1) := by decide +kernel
theorem dX3_parse_75 : decode cX3_parse 75 = .ok (.iload_n 2, 1) := by decide +kernel
theorem dX3_parse_76 : decode cX3_parse 76 = .ok (.ifCond .eq 8, 3) := by decide +kernel
theorem dX3_parse_79 : decode cX3_parse 79 = .ok (.bipush (-6), 2) := by decide +kernel
theorem dX3_parse_81 : decode cX3_parse 81 = .ok (.goto 7, 3) := by decide +kernel
theorem dX3_parse_84 : decode cX3_parse 84 = .ok (.aload_n 1, 1) := by decide +kernel
theorem dX3_parse_85 : decode cX3_parse 85 = .ok (.getfield 28, 3) := by decide +kernel
theorem dX3_parse_88 : decode cX3_parse 88 = .ok (.ireturn, 1) := by decide +kernel
set_option maxRecDepth 20000 in
theorem ggX3_takes_X3_takesKind : GoodIn wsX3_takes wsX3_takesKind := goodIn_r _ [8, 3, 9, 1, 10, 11, 12, 38, 39, 40, 41, 42] rfl (by decide +kernel)
set_option maxRecDepth 20000 in
theorem gX3_takes_X3_takesKind : GoodIn wsX3_takes (wsV RX3 44 RX3 yX3_takesKind wsX3_takesKind) := goodIn_app (goodIn_of _ (by decide +kernel)) ggX3_takes_X3_takesKind
set_option maxRecDepth 20000 in
theorem ggX3_takes_X3_takesFirstDigit : GoodIn wsX3_takes wsX3_takesFirstDigit := goodIn_r _ [16, 9, 1, 17, 18, 7, 19, 10, 11, 12, 38, 39, 40, 41, 42] rfl (by decide +kernel)
set_option maxRecDepth 20000 in
theorem gX3_takes_X3_takesFirstDigit : GoodIn wsX3_takes (wsV RX3 47 RX3 yX3_takesFirstDigit wsX3_takesFirstDigit) := goodIn_app (goodIn_of _ (by decide +kernel)) ggX3_takes_X3_takesFirstDigit
set_option maxRecDepth 20000 in
theorem ggX3_takes_X3_takesDigit : GoodIn wsX3_takes wsX3_takesDigit := goodIn_r _ [23, 9, 24, 11, 25, 17, 18, 7, 19, 10, 12, 38, 39, 40, 41, 42] rfl (by decide +kernel)
set_option maxRecDepth 20000 in
theorem gX3_takes_X3_takesDigit : GoodIn wsX3_takes (wsV RX3 51 RX3 yX3_takesDigit wsX3_takesDigit) := goodIn_app (goodIn_of _ (by decide +kernel)) ggX3_takes_X3_takesDigit
set_option maxRecDepth 20000 in
theorem ggX3_takes_X3_takesEndOfAddress : GoodIn wsX3_takes wsX3_takesEndOfAddress := goodIn_r _ [29, 9, 30, 31, 32, 7, 33, 3, 24, 11, 25, 34, 35, 36, 37, 1, 38, 39, 40, 41, 42] rfl (by decide +kernel)
set_option maxRecDepth 20000 in
theorem gX3_takes_X3_takesEndOfAddress : GoodIn wsX3_takes (wsV RX3 54 RX3 yX3_takesEndOfAddress wsX3_takesEndOfAddress) := goodIn_app (goodIn_of _ (by decide +kernel)) ggX3_takes_X3_takesEndOfAddress
set_option maxRecDepth 20000 in
theorem ggX3_takes_X3_takesMark : GoodIn wsX3_takes wsX3_takesMark := goodIn_r _ [37, 1, 38, 39, 40, 41, 42] rfl (by decide +kernel)
set_option maxRecDepth 20000 in
theorem gX3_takes_X3_takesMark : GoodIn wsX3_takes (wsV RX3 57 RX3 yX3_takesMark wsX3_takesMark) := goodIn_app (goodIn_of _ (by decide +kernel)) ggX3_takes_X3_takesMark
theorem dX3_takes_0 : decode cX3_takes 0 = .ok (.aload_n 0, 1) := by decide +kernel
theorem dX3_takes_1 : decode cX3_takes 1 = .ok (.getfield 25, 3) := by decide +kernel
theorem dX3_takes_4 : decode cX3_takes 4 = .ok (.tableswitch 89 0 3 #[32, 38, 49, 78], 32) := by decide +kernel
theorem dX3_takes_36 : decode cX3_takes 36 = .ok (.aload_n 0, 1) := by decide +kernel
theorem dX3_takes_37 : decode cX3_takes 37 = .ok (.iload_n 1, 1) := by decide +kernel
theorem dX3_takes_38 : decode cX3_takes 38 = .ok (.invokevirtual 44, 3) := by decide +kernel
theorem dX3_takes_41 : decode cX3_takes 41 = .ok (.ireturn, 1) := by decide +kernel
theorem dX3_takes_42 : decode cX3_takes 42 = .ok (.aload_n 0, 1) := by decide +kernel
theorem dX3_takes_43 : decode cX3_takes 43 = .ok (.iload_n 1, 1) := by decide +kernel
theorem dX3_takes_44 : decode cX3_takes 44 = .ok (.aload_n 0, 1) := by decide +kernel
theorem dX3_takes_45 : decode cX3_takes 45 = .ok (.getfield 9, 3) := by decide +kernel
theorem dX3_takes_48 : decode cX3_takes 48 = .ok (.iconst 2, 1) := by decide +kernel
theorem dX3_takes_49 : decode cX3_takes 49 = .ok (.invokevirtual 47, 3) := by decide +kernel
theorem dX3_takes_52 : decode cX3_takes 52 = .ok (.ireturn, 1) := by decide +kernel
theorem dX3_takes_53 : decode cX3_takes 53 = .ok (.aload_n 0, 1) := by decide +kernel
theorem dX3_takes_54 : decode cX3_takes 54 = .ok (.iload_n 1, 1) := by decide +kernel
theorem dX3_takes_55 : decode cX3_takes 55 = .ok (.aload_n 0, 1) := by decide +kernel
theorem dX3_takes_56 : decode cX3_takes 56 = .ok (.getfield 9, 3) := by decide +kernel
theorem dX3_takes_59 : decode cX3_takes 59 = .ok (.sipush 191, 3) := by decide +kernel
theorem dX3_takes_62 : decode cX3_takes 62 = .ok (.invokevirtual 51, 3) := by decide +kernel
theorem dX3_takes_65 : decode cX3_takes 65 = .ok (.ifCond .ne 11, 3) := by decide +kernel
theorem dX3_takes_68 : decode cX3_takes 68 = .ok (.aload_n 0, 1) := by decide +kernel
theorem dX3_takes_69 : decode cX3_takes 69 = .ok (.iload_n 1, 1) := by decide +kernel
theorem dX3_takes_70 : decode cX3_takes 70 = .ok (.invokevirtual 54, 3) := by decide +kernel
theorem dX3_takes_73 : decode cX3_takes 73 = .ok (.ifCond .eq 7, 3) := by decide +kernel
theorem dX3_takes_76 : decode cX3_takes 76 = .ok (.iconst 1, 1) := by decide +kernel
theorem dX3_takes_77 : decode cX3_takes 77 = .ok (.goto 4, 3) := by decide +kernel
theorem dX3_takes_80 : decode cX3_takes 80 = .ok (.iconst 0, 1) := by decide +kernel
theorem dX3_takes_81 : decode cX3_takes 81 = .ok (.ireturn, 1) := by decide +kernel
theorem dX3_takes_82 : decode cX3_takes 82 = .ok (.aload_n 0, 1) := by decide +kernel
theorem dX3_takes_83 : decode cX3_takes 83 = .ok (.iload_n 1, 1) := by decide +kernel
theorem dX3_takes_84 : decode cX3_takes 84 = .ok (.aload_n 0, 1) := by decide +kernel
theorem dX3_takes_85 : decode cX3_takes 85 = .ok (.getfield 15, 3) := by decide +kernel
theorem dX3_takes_88 : decode cX3_takes 88 = .ok (.iconst 4, 1) := by decide +kernel
theorem dX3_takes_89 : decode cX3_takes 89 = .ok (.invokevirtual 47, 3) := by decide +kernel
theorem dX3_takes_92 : decode cX3_takes 92 = .ok (.ireturn, 1) := by decide +kernel
theorem dX3_takes_93 : decode cX3_takes 93 = .ok (.aload_n 0, 1) := by decide +kernel
theorem dX3_takes_94 : decode cX3_takes 94 = .ok (.iload_n 1, 1) := by decide +kernel
theorem dX3_takes_95 : decode cX3_takes 95 = .ok (.aload_n 0, 1) := by decide +kernel
theorem dX3_takes_96 : decode cX3_takes 96 = .ok (.getfield 15, 3) := by decide +kernel
theorem dX3_takes_99 : decode cX3_takes 99 = .ok (.sipush 255, 3) := by decide +kernel
theorem dX3_takes_102 : decode cX3_takes 102 = .ok (.invokevirtual 51, 3) := by decide +kernel
theorem dX3_takes_105 : decode cX3_takes 105 = .ok (.ifCond .ne 14, 3) := by decide +kernel
theorem dX3_takes_108 : decode cX3_takes 108 = .ok (.aload_n 0, 1) := by decide +kernel
theorem dX3_takes_109 : decode cX3_takes 109 = .ok (.iload_n 1, 1) := by decide +kernel
theorem dX3_takes_110 : decode cX3_takes 110 = .ok (.bipush 59, 2) := by decide +kernel
theorem dX3_takes_112 : decode cX3_takes 112 = .ok (.iconst 0, 1) := by decide +kernel
theorem dX3_takes_113 : decode cX3_takes 113 = .ok (.invokevirtual 57, 3) := by decide +kernel
theorem dX3_takes_116 : decode cX3_takes 116 = .ok (.ifCond .eq 7, 3) := by decide +kernel
theorem dX3_takes_119 : decode cX3_takes 119 = .ok (.iconst 1, 1) := by decide +kernel
theorem dX3_takes_120 : decode cX3_takes 120 = .ok (.goto 4, 3) := by decide +kernel
theorem dX3_takes_123 : decode cX3_takes 123 = .ok (.iconst 0, 1) := by decide +kernel
theorem dX3_takes_124 : decode cX3_takes 124 = .ok (.ireturn, 1) := by decide +kernel
set_option maxRecDepth 20000 in
theorem ggX3_takesKind_X4_lay : GoodIn wsX3_takesKind wsX4_lay := goodIn_r _ [6] rfl (by decide +kernel)
theorem gX3_takesKind_X4_lay_n61 : GoodIn wsX3_takesKind (wsX4_lay) := ggX3_takesKind_X4_lay
theorem dX3_takesKind_0 : decode cX3_takesKind 0 = .ok (.iload_n 1, 1) := by decide +kernel
theorem dX3_takesKind_1 : decode cX3_takesKind 1 = .ok (.bipush 119, 2) := by decide +kernel
theorem dX3_takesKind_3 : decode cX3_takesKind 3 = .ok (.if_icmp .eq 11, 3) := by decide +kernel
theorem dX3_takesKind_6 : decode cX3_takesKind 6 = .ok (.iload_n 1, 1) := by decide +kernel
theorem dX3_takesKind_7 : decode cX3_takesKind 7 = .ok (.bipush 114, 2) := by decide +kernel
theorem dX3_takesKind_9 : decode cX3_takesKind 9 = .ok (.if_icmp .eq 5, 3) := by decide +kernel
theorem dX3_takesKind_12 : decode cX3_takesKind 12 = .ok (.iconst 0, 1) := by decide +kernel
theorem dX3_takesKind_13 : decode cX3_takesKind 13 = .ok (.ireturn, 1) := by decide +kernel
theorem dX3_takesKind_14 : decode cX3_takesKind 14 = .ok (.aload_n 0, 1) := by decide +kernel
theorem dX3_takesKind_15 : decode cX3_takesKind 15 = .ok (.getfield 15, 3) := by decide +kernel
theorem dX3_takesKind_18 : decode cX3_takesKind 18 = .ok (.aload_n 0, 1) := by decide +kernel
theorem dX3_takesKind_19 : decode cX3_takesKind 19 = .ok (.getfield 21, 3) := by decide +kernel
theorem dX3_takesKind_22 : decode cX3_takesKind 22 = .ok (.iload_n 1, 1) := by decide +kernel
theorem dX3_takesKind_23 : decode cX3_takesKind 23 = .ok (.bipush 119, 2) := by decide +kernel
theorem dX3_takesKind_25 : decode cX3_takesKind 25 = .ok (.if_icmp .ne 7, 3) := by decide +kernel
theorem dX3_takesKind_28 : decode cX3_takesKind 28 = .ok (.iconst 0, 1) := by decide +kernel
theorem dX3_takesKind_29 : decode cX3_takesKind 29 = .ok (.goto 5, 3) := by decide +kernel
theorem dX3_takesKind_32 : decode cX3_takesKind 32 = .ok (.bipush (-6), 2) := by decide +kernel
theorem dX3_takesKind_34 : decode cX3_takesKind 34 = .ok (.invokestatic 61, 3) := by decide +kernel
theorem dX3_takesKind_37 : decode cX3_takesKind 37 = .ok (.aload_n 0, 1) := by decide +kernel
theorem dX3_takesKind_38 : decode cX3_takesKind 38 = .ok (.dup, 1) := by decide +kernel
theorem dX3_takesKind_39 : decode cX3_takesKind 39 = .ok (.getfield 21, 3) := by decide +kernel
theorem dX3_takesKind_42 : decode cX3_takesKind 42 = .ok (.iconst 1, 1) := by decide +kernel
theorem dX3_takesKind_43 : decode cX3_takesKind 43 = .ok (.iadd, 1) := by decide +kernel
theorem dX3_takesKind_44 : decode cX3_takesKind 44 = .ok (.putfield 21, 3) := by decide +kernel
theorem dX3_takesKind_47 : decode cX3_takesKind 47 = .ok (.aload_n 0, 1) := by decide +kernel
theorem dX3_takesKind_48 : decode cX3_takesKind 48 = .ok (.iconst 1, 1) := by decide +kernel
theorem dX3_takesKind_49 : decode cX3_takesKind 49 = .ok (.putfield 25, 3) := by decide +kernel
theorem dX3_takesKind_52 : decode cX3_takesKind 52 = .ok (.iconst 1, 1) := by decide +kernel
theorem dX3_takesKind_53 : decode cX3_takesKind 53 = .ok (.ireturn, 1) := by decide +kernel
set_option maxRecDepth 20000 in
theorem ggX3_takesFirstDigit_X3_isDigit : GoodIn wsX3_takesFirstDigit wsX3_isDigit := goodIn_r _ [6] rfl (by decide +kernel)
set_option maxRecDepth 20000 in
theorem gX3_takesFirstDigit_X3_isDigit : GoodIn wsX3_takesFirstDigit (va_wsS RX3 65 yX3_isDigit wsX3_isDigit) := goodIn_app (goodIn_of _ (by decide +kernel)) ggX3_takesFirstDigit_X3_isDigit
set_option maxRecDepth 20000 in
theorem ggX3_takesFirstDigit_X4_lay : GoodIn wsX3_takesFirstDigit wsX4_lay := goodIn_r _ [9] rfl (by decide +kernel)
theorem gX3_takesFirstDigit_X4_lay_n61 : GoodIn wsX3_takesFirstDigit (wsX4_lay) := ggX3_takesFirstDigit_X4_lay
theorem dX3_takesFirstDigit_0 : decode cX3_takesFirstDigit 0 = .ok (.iload_n 1, 1) := by decide +kernel
theorem dX3_takesFirstDigit_1 : decode cX3_takesFirstDigit 1 = .ok (.invokestatic 65, 3) := by decide +kernel
theorem dX3_takesFirstDigit_4 : decode cX3_takesFirstDigit 4 = .ok (.ifCond .ne 5, 3) := by decide +kernel
theorem dX3_takesFirstDigit_7 : decode cX3_takesFirstDigit 7 = .ok (.iconst 0, 1) := by decide +kernel
theorem dX3_takesFirstDigit_8 : decode cX3_takesFirstDigit 8 = .ok (.ireturn, 1) := by decide +kernel
theorem dX3_takesFirstDigit_9 : decode cX3_takesFirstDigit 9 = .ok (.aload_n 2, 1) := by decide +kernel
theorem dX3_takesFirstDigit_10 : decode cX3_takesFirstDigit 10 = .ok (.aload_n 0, 1) := by decide +kernel
theorem dX3_takesFirstDigit_11 : decode cX3_takesFirstDigit 11 = .ok (.getfield 21, 3) := by decide +kernel
theorem dX3_takesFirstDigit_14 : decode cX3_takesFirstDigit 14 = .ok (.iconst 1, 1) := by decide +kernel
theorem dX3_takesFirstDigit_15 : decode cX3_takesFirstDigit 15 = .ok (.isub, 1) := by decide +kernel
theorem dX3_takesFirstDigit_16 : decode cX3_takesFirstDigit 16 = .ok (.iload_n 1, 1) := by decide +kernel
theorem dX3_takesFirstDigit_17 : decode cX3_takesFirstDigit 17 = .ok (.bipush 48, 2) := by decide +kernel
theorem dX3_takesFirstDigit_19 : decode cX3_takesFirstDigit 19 = .ok (.isub, 1) := by decide +kernel
theorem dX3_takesFirstDigit_20 : decode cX3_takesFirstDigit 20 = .ok (.invokestatic 61, 3) := by decide +kernel
theorem dX3_takesFirstDigit_23 : decode cX3_takesFirstDigit 23 = .ok (.aload_n 0, 1) := by decide +kernel
theorem dX3_takesFirstDigit_24 : decode cX3_takesFirstDigit 24 = .ok (.iload_n 3, 1) := by decide +kernel
theorem dX3_takesFirstDigit_25 : decode cX3_takesFirstDigit 25 = .ok (.putfield 25, 3) := by decide +kernel
theorem dX3_takesFirstDigit_28 : decode cX3_takesFirstDigit 28 = .ok (.iconst 1, 1) := by decide +kernel
theorem dX3_takesFirstDigit_29 : decode cX3_takesFirstDigit 29 = .ok (.ireturn, 1) := by decide +kernel
set_option maxRecDepth 20000 in
theorem ggX3_takesDigit_X4_at : GoodIn wsX3_takesDigit wsX4_at := goodIn_r _ [4] rfl (by decide +kernel)
theorem gX3_takesDigit_X4_at_n68 : GoodIn wsX3_takesDigit (wsX4_at) := ggX3_takesDigit_X4_at
set_option maxRecDepth 20000 in
theorem ggX3_takesDigit_X3_isDigit : GoodIn wsX3_takesDigit wsX3_isDigit := goodIn_r _ [8] rfl (by decide +kernel)
set_option maxRecDepth 20000 in
theorem gX3_takesDigit_X3_isDigit : GoodIn wsX3_takesDigit (va_wsS RX3 65 yX3_isDigit wsX3_isDigit) := goodIn_app (goodIn_of _ (by decide +kernel)) ggX3_takesDigit_X3_isDigit
set_option maxRecDepth 20000 in
theorem ggX3_takesDigit_X4_lay : GoodIn wsX3_takesDigit wsX4_lay := goodIn_r _ [10] rfl (by decide +kernel)
theorem gX3_takesDigit_X4_lay_n61 : GoodIn wsX3_takesDigit (wsX4_lay) := ggX3_takesDigit_X4_lay
theorem dX3_takesDigit_0 : decode cX3_takesDigit 0 = .ok (.aload_n 2, 1) := by decide +kernel
theorem dX3_takesDigit_1 : decode cX3_takesDigit 1 = .ok (.aload_n 0, 1) := by decide +kernel
theorem dX3_takesDigit_2 : decode cX3_takesDigit 2 = .ok (.getfield 21, 3) := by decide +kernel
theorem dX3_takesDigit_5 : decode cX3_takesDigit 5 = .ok (.iconst 1, 1) := by decide +kernel
theorem dX3_takesDigit_6 : decode cX3_takesDigit 6 = .ok (.isub, 1) := by decide +kernel
theorem dX3_takesDigit_7 : decode cX3_takesDigit 7 = .ok (.invokestatic 68, 3) := by decide +kernel
theorem dX3_takesDigit_10 : decode cX3_takesDigit 10 = .ok (.istore 4, 2) := by decide +kernel
theorem dX3_takesDigit_12 : decode cX3_takesDigit 12 = .ok (.iload 4, 2) := by decide +kernel
theorem dX3_takesDigit_14 : decode cX3_takesDigit 14 = .ok (.bipush 10, 2) := by decide +kernel
theorem dX3_takesDigit_16 : decode cX3_takesDigit 16 = .ok (.imul, 1) := by decide +kernel
theorem dX3_takesDigit_17 : decode cX3_takesDigit 17 = .ok (.iload_n 1, 1) := by decide +kernel
theorem dX3_takesDigit_18 : decode cX3_takesDigit 18 = .ok (.bipush 48, 2) := by decide +kernel
theorem dX3_takesDigit_20 : decode cX3_takesDigit 20 = .ok (.isub, 1) := by decide +kernel
theorem dX3_takesDigit_21 : decode cX3_takesDigit 21 = .ok (.iadd, 1) := by decide +kernel
theorem dX3_takesDigit_22 : decode cX3_takesDigit 22 = .ok (.istore 5, 2) := by decide +kernel
theorem dX3_takesDigit_24 : decode cX3_takesDigit 24 = .ok (.iload_n 1, 1) := by decide +kernel
theorem dX3_takesDigit_25 : decode cX3_takesDigit 25 = .ok (.invokestatic 65, 3) := by decide +kernel
theorem dX3_takesDigit_28 : decode cX3_takesDigit 28 = .ok (.ifCond .eq 14, 3) := by decide +kernel
theorem dX3_takesDigit_31 : decode cX3_takesDigit 31 = .ok (.iload 4, 2) := by decide +kernel
theorem dX3_takesDigit_33 : decode cX3_takesDigit 33 = .ok (.ifCond .eq 9, 3) := by decide +kernel
theorem dX3_takesDigit_36 : decode cX3_takesDigit 36 = .ok (.iload 5, 2) := by decide +kernel
theorem dX3_takesDigit_38 : decode cX3_takesDigit 38 = .ok (.iload_n 3, 1) := by decide +kernel
theorem dX3_takesDigit_39 : decode cX3_takesDigit 39 = .ok (.if_icmp .le 5, 3) := by decide +kernel
theorem dX3_takesDigit_42 : decode cX3_takesDigit 42 = .ok (.iconst 0, 1) := by decide +kernel
theorem dX3_takesDigit_43 : decode cX3_takesDigit 43 = .ok (.ireturn, 1) := by decide +kernel
theorem dX3_takesDigit_44 : decode cX3_takesDigit 44 = .ok (.aload_n 2, 1) := by decide +kernel
theorem dX3_takesDigit_45 : decode cX3_takesDigit 45 = .ok (.aload_n 0, 1) := by decide +kernel
theorem dX3_takesDigit_46 : decode cX3_takesDigit 46 = .ok (.getfield 21, 3) := by decide +kernel
theorem dX3_takesDigit_49 : decode cX3_takesDigit 49 = .ok (.iconst 1, 1) := by decide +kernel
theorem dX3_takesDigit_50 : decode cX3_takesDigit 50 = .ok (.isub, 1) := by decide +kernel
theorem dX3_takesDigit_51 : decode cX3_takesDigit 51 = .ok (.iload 5, 2) := by decide +kernel
theorem dX3_takesDigit_53 : decode cX3_takesDigit 53 = .ok (.invokestatic 61, 3) := by decide +kernel
theorem dX3_takesDigit_56 : decode cX3_takesDigit 56 = .ok (.iconst 1, 1) := by decide +kernel
theorem dX3_takesDigit_57 : decode cX3_takesDigit 57 = .ok (.ireturn, 1) := by decide +kernel
set_option maxRecDepth 20000 in
theorem ggX3_takesEndOfAddress_X3_isWriting : GoodIn wsX3_takesEndOfAddress wsX3_isWriting := goodIn_r _ [6, 7, 8, 9, 10, 16, 17, 18, 19, 20] rfl (by decide +kernel)
set_option maxRecDepth 20000 in
theorem gX3_takesEndOfAddress_X3_isWriting : GoodIn wsX3_takesEndOfAddress (wsV RX3 41 RX3 yX3_isWriting wsX3_isWriting) := goodIn_app (goodIn_of _ (by decide +kernel)) ggX3_takesEndOfAddress_X3_isWriting
set_option maxRecDepth 20000 in
theorem ggX3_takesEndOfAddress_X3_takesMark : GoodIn wsX3_takesEndOfAddress wsX3_takesMark := goodIn_r _ [14, 15, 16, 17, 18, 19, 20] rfl (by decide +kernel)
set_option maxRecDepth 20000 in
theorem gX3_takesEndOfAddress_X3_takesMark : GoodIn wsX3_takesEndOfAddress (wsV RX3 57 RX3 yX3_takesMark wsX3_takesMark) := goodIn_app (goodIn_of _ (by decide +kernel)) ggX3_takesEndOfAddress_X3_takesMark
theorem dX3_takesEndOfAddress_0 : decode cX3_takesEndOfAddress 0 = .ok (.aload_n 0, 1) := by decide +kernel
theorem dX3_takesEndOfAddress_1 : decode cX3_takesEndOfAddress 1 = .ok (.aload_n 0, 1) := by decide +kernel
theorem dX3_takesEndOfAddress_2 : decode cX3_takesEndOfAddress 2 = .ok (.getfield 21, 3) := by decide +kernel
theorem dX3_takesEndOfAddress_5 : decode cX3_takesEndOfAddress 5 = .ok (.iconst 1, 1) := by decide +kernel
theorem dX3_takesEndOfAddress_6 : decode cX3_takesEndOfAddress 6 = .ok (.isub, 1) := by decide +kernel
theorem dX3_takesEndOfAddress_7 : decode cX3_takesEndOfAddress 7 = .ok (.invokevirtual 41, 3) := by decide +kernel
theorem dX3_takesEndOfAddress_10 : decode cX3_takesEndOfAddress 10 = .ok (.ifCond .eq 14, 3) := by decide +kernel
theorem dX3_takesEndOfAddress_13 : decode cX3_takesEndOfAddress 13 = .ok (.aload_n 0, 1) := by decide +kernel
theorem dX3_takesEndOfAddress_14 : decode cX3_takesEndOfAddress 14 = .ok (.iload_n 1, 1) := by decide +kernel
theorem dX3_takesEndOfAddress_15 : decode cX3_takesEndOfAddress 15 = .ok (.bipush 61, 2) := by decide +kernel
theorem dX3_takesEndOfAddress_17 : decode cX3_takesEndOfAddress 17 = .ok (.iconst 3, 1) := by decide +kernel
theorem dX3_takesEndOfAddress_18 : decode cX3_takesEndOfAddress 18 = .ok (.invokevirtual 57, 3) := by decide +kernel
theorem dX3_takesEndOfAddress_21 : decode cX3_takesEndOfAddress 21 = .ok (.goto 11, 3) := by decide +kernel
theorem dX3_takesEndOfAddress_24 : decode cX3_takesEndOfAddress 24 = .ok (.aload_n 0, 1) := by decide +kernel
theorem dX3_takesEndOfAddress_25 : decode cX3_takesEndOfAddress 25 = .ok (.iload_n 1, 1) := by decide +kernel
theorem dX3_takesEndOfAddress_26 : decode cX3_takesEndOfAddress 26 = .ok (.bipush 59, 2) := by decide +kernel
theorem dX3_takesEndOfAddress_28 : decode cX3_takesEndOfAddress 28 = .ok (.iconst 0, 1) := by decide +kernel
theorem dX3_takesEndOfAddress_29 : decode cX3_takesEndOfAddress 29 = .ok (.invokevirtual 57, 3) := by decide +kernel
theorem dX3_takesEndOfAddress_32 : decode cX3_takesEndOfAddress 32 = .ok (.ireturn, 1) := by decide +kernel
theorem dX3_takesMark_0 : decode cX3_takesMark 0 = .ok (.iload_n 1, 1) := by decide +kernel
theorem dX3_takesMark_1 : decode cX3_takesMark 1 = .ok (.iload_n 2, 1) := by decide +kernel
theorem dX3_takesMark_2 : decode cX3_takesMark 2 = .ok (.if_icmp .eq 5, 3) := by decide +kernel
theorem dX3_takesMark_5 : decode cX3_takesMark 5 = .ok (.iconst 0, 1) := by decide +kernel
theorem dX3_takesMark_6 : decode cX3_takesMark 6 = .ok (.ireturn, 1) := by decide +kernel
theorem dX3_takesMark_7 : decode cX3_takesMark 7 = .ok (.aload_n 0, 1) := by decide +kernel
theorem dX3_takesMark_8 : decode cX3_takesMark 8 = .ok (.iload_n 3, 1) := by decide +kernel
theorem dX3_takesMark_9 : decode cX3_takesMark 9 = .ok (.putfield 25, 3) := by decide +kernel
theorem dX3_takesMark_12 : decode cX3_takesMark 12 = .ok (.iconst 1, 1) := by decide +kernel
theorem dX3_takesMark_13 : decode cX3_takesMark 13 = .ok (.ireturn, 1) := by decide +kernel
theorem dX3_isDigit_0 : decode cX3_isDigit 0 = .ok (.iload_n 0, 1) := by decide +kernel
theorem dX3_isDigit_1 : decode cX3_isDigit 1 = .ok (.bipush 48, 2) := by decide +kernel
theorem dX3_isDigit_3 : decode cX3_isDigit 3 = .ok (.if_icmp .lt 13, 3) := by decide +kernel
theorem dX3_isDigit_6 : decode cX3_isDigit 6 = .ok (.iload_n 0, 1) := by decide +kernel
theorem dX3_isDigit_7 : decode cX3_isDigit 7 = .ok (.bipush 57, 2) := by decide +kernel
theorem dX3_isDigit_9 : decode cX3_isDigit 9 = .ok (.if_icmp .gt 7, 3) := by decide +kernel
theorem dX3_isDigit_12 : decode cX3_isDigit 12 = .ok (.iconst 1, 1) := by decide +kernel
theorem dX3_isDigit_13 : decode cX3_isDigit 13 = .ok (.goto 4, 3) := by decide +kernel
theorem dX3_isDigit_16 : decode cX3_isDigit 16 = .ok (.iconst 0, 1) := by decide +kernel
theorem dX3_isDigit_17 : decode cX3_isDigit 17 = .ok (.ireturn, 1) := by decide +kernel
set_option maxRecDepth 20000 in
theorem ggX3_isWriting_X4_at : GoodIn wsX3_isWriting wsX4_at := goodIn_r _ [4] rfl (by decide +kernel)
theorem gX3_isWriting_X4_at_n68 : GoodIn wsX3_isWriting (wsX4_at) := ggX3_isWriting_X4_at
theorem dX3_isWriting_0 : decode cX3_isWriting 0 = .ok (.aload_n 0, 1) := by decide +kernel
theorem dX3_isWriting_1 : decode cX3_isWriting 1 = .ok (.getfield 15, 3) := by decide +kernel
theorem dX3_isWriting_4 : decode cX3_isWriting 4 = .ok (.iload_n 1, 1) := by decide +kernel
theorem dX3_isWriting_5 : decode cX3_isWriting 5 = .ok (.invokestatic 68, 3) := by decide +kernel
theorem dX3_isWriting_8 : decode cX3_isWriting 8 = .ok (.bipush (-6), 2) := by decide +kernel
theorem dX3_isWriting_10 : decode cX3_isWriting 10 = .ok (.if_icmp .eq 7, 3) := by decide +kernel
theorem dX3_isWriting_13 : decode cX3_isWriting 13 = .ok (.iconst 1, 1) := by decide +kernel
theorem dX3_isWriting_14 : decode cX3_isWriting 14 = .ok (.goto 4, 3) := by decide +kernel
theorem dX3_isWriting_17 : decode cX3_isWriting 17 = .ok (.iconst 0, 1) := by decide +kernel
theorem dX3_isWriting_18 : decode cX3_isWriting 18 = .ok (.ireturn, 1) := by decide +kernel
set_option maxRecDepth 20000 in
theorem ggX3_doOn_X3_noteTracks : GoodIn wsX3_doOn wsX3_noteTracks := goodIn_r _ [7, 1, 8, 2, 9, 10, 11, 12, 13, 14, 15, 16, 17, 18, 19, 20, 21, 124, 125, 126, 127, 128, 129, 130, 131, 132, 133, 134, 135, 136, 137] rfl (by decide +kernel)
set_option maxRecDepth 20000 in
theorem gX3_doOn_X3_noteTracks : GoodIn wsX3_doOn (wsV RX3 72 RX3 yX3_noteTracks wsX3_noteTracks) := goodIn_app (goodIn_of _ (by decide +kernel)) ggX3_doOn_X3_noteTracks
set_option maxRecDepth 20000 in
theorem ggX3_doOn_X4_at : GoodIn wsX3_doOn wsX4_at := goodIn_r _ [11] rfl (by decide +kernel)
theorem gX3_doOn_X4_at_n68 : GoodIn wsX3_doOn (wsX4_at) := ggX3_doOn_X4_at
set_option maxRecDepth 20000 in
theorem ggX3_doOn_X3_doOne : GoodIn wsX3_doOn wsX3_doOne := goodIn_r _ [25, 8, 26, 9, 10, 11, 27, 28, 29, 6, 30, 31, 32, 33, 15, 34, 35, 36, 37, 38, 39, 40, 13, 14, 16, 17, 41, 42, 43, 44, 45, 46, 47, 48, 49, 50, 51, 52, 53, 54, 55, 56, 57, 58, 59, 18, 19, 60, 61, 62, 63, 64, 65, 66, 67, 68, 69, 70, 71, 72, 73, 74, 75, 76, 77, 78, 79, 80, 81, 82, 83, 20, 21, 84, 85, 86, 87, 88, 89, 90, 91, 92, 93, 94, 95, 96, 97, 98, 99, 100, 101, 102, 103, 104, 105, 106, 107, 108, 109, 110, 111, 112, 113, 114, 115, 116, 117, 118, 119, 120, 121, 122, 123, 124, 125, 126, 127, 128, 129, 130, 131, 132, 133, 134, 135, 136, 137] rfl (by decide +kernel)
set_option maxRecDepth 20000 in
theorem gX3_doOn_X3_doOne : GoodIn wsX3_doOn (wsV RX3 76 RX3 yX3_doOne wsX3_doOne) := goodIn_app (goodIn_of _ (by decide +kernel)) ggX3_doOn_X3_doOne
theorem dX3_doOn_0 : decode cX3_doOn 0 = .ok (.aload_n 0, 1) := by decide +kernel
theorem dX3_doOn_1 : decode cX3_doOn 1 = .ok (.aload_n 1, 1) := by decide +kernel
theorem dX3_doOn_2 : decode cX3_doOn 2 = .ok (.iload_n 2, 1) := by decide +kernel
theorem dX3_doOn_3 : decode cX3_doOn 3 = .ok (.invokevirtual 72, 3) := by decide +kernel
theorem dX3_doOn_6 : decode cX3_doOn 6 = .ok (.iconst 0, 1) := by decide +kernel
theorem dX3_doOn_7 : decode cX3_doOn 7 = .ok (.istore_n 3, 1) := by decide +kernel
theorem dX3_doOn_8 : decode cX3_doOn 8 = .ok (.iconst 0, 1) := by decide +kernel
theorem dX3_doOn_9 : decode cX3_doOn 9 = .ok (.istore 4, 2) := by decide +kernel
theorem dX3_doOn_11 : decode cX3_doOn 11 = .ok (.iload 4, 2) := by decide +kernel
theorem dX3_doOn_13 : decode cX3_doOn 13 = .ok (.bipush 16, 2) := by decide +kernel
theorem dX3_doOn_15 : decode cX3_doOn 15 = .ok (.if_icmp .gt 51, 3) := by decide +kernel
theorem dX3_doOn_18 : decode cX3_doOn 18 = .ok (.iconst 0, 1) := by decide +kernel
theorem dX3_doOn_19 : decode cX3_doOn 19 = .ok (.istore 5, 2) := by decide +kernel
theorem dX3_doOn_21 : decode cX3_doOn 21 = .ok (.iload 5, 2) := by decide +kernel
theorem dX3_doOn_23 : decode cX3_doOn 23 = .ok (.aload_n 0, 1) := by decide +kernel
theorem dX3_doOn_24 : decode cX3_doOn 24 = .ok (.getfield 21, 3) := by decide +kernel
theorem dX3_doOn_27 : decode cX3_doOn 27 = .ok (.if_icmp .ge 33, 3) := by decide +kernel
theorem dX3_doOn_30 : decode cX3_doOn 30 = .ok (.aload_n 0, 1) := by decide +kernel
theorem dX3_doOn_31 : decode cX3_doOn 31 = .ok (.getfield 18, 3) := by decide +kernel
theorem dX3_doOn_34 : decode cX3_doOn 34 = .ok (.iload 5, 2) := by decide +kernel
theorem dX3_doOn_36 : decode cX3_doOn 36 = .ok (.invokestatic 68, 3) := by decide +kernel
theorem dX3_doOn_39 : decode cX3_doOn 39 = .ok (.iload 4, 2) := by decide +kernel
theorem dX3_doOn_41 : decode cX3_doOn 41 = .ok (.if_icmp .ne 13, 3) := by decide +kernel
theorem dX3_doOn_44 : decode cX3_doOn 44 = .ok (.iload_n 3, 1) := by decide +kernel
theorem dX3_doOn_45 : decode cX3_doOn 45 = .ok (.aload_n 0, 1) := by decide +kernel
theorem dX3_doOn_46 : decode cX3_doOn 46 = .ok (.aload_n 1, 1) := by decide +kernel
theorem dX3_doOn_47 : decode cX3_doOn 47 = .ok (.iload 5, 2) := by decide +kernel
theorem dX3_doOn_49 : decode cX3_doOn 49 = .ok (.invokevirtual 76, 3) := by decide +kernel
theorem dX3_doOn_52 : decode cX3_doOn 52 = .ok (.iadd, 1) := by decide +kernel
theorem dX3_doOn_53 : decode cX3_doOn 53 = .ok (.istore_n 3, 1) := by decide +kernel
theorem dX3_doOn_54 : decode cX3_doOn 54 = .ok (.iinc 5 1, 3) := by decide +kernel
theorem dX3_doOn_57 : decode cX3_doOn 57 = .ok (.goto (-36), 3) := by decide +kernel
theorem dX3_doOn_60 : decode cX3_doOn 60 = .ok (.iinc 4 1, 3) := by decide +kernel
theorem dX3_doOn_63 : decode cX3_doOn 63 = .ok (.goto (-52), 3) := by decide +kernel
theorem dX3_doOn_66 : decode cX3_doOn 66 = .ok (.iload_n 3, 1) := by decide +kernel
theorem dX3_doOn_67 : decode cX3_doOn 67 = .ok (.ireturn, 1) := by decide +kernel
set_option maxRecDepth 20000 in
theorem ggX3_noteTracks_X4_at : GoodIn wsX3_noteTracks wsX4_at := goodIn_r _ [6] rfl (by decide +kernel)
theorem gX3_noteTracks_X4_at_n68 : GoodIn wsX3_noteTracks (wsX4_at) := ggX3_noteTracks_X4_at
set_option maxRecDepth 20000 in
theorem ggX3_noteTracks_X0_sectorFor : GoodIn wsX3_noteTracks wsX0_sectorFor := goodIn_r _ [11, 12, 4, 5, 6, 22, 23, 24, 25, 26, 27, 28, 29, 30] rfl (by decide +kernel)
set_option maxRecDepth 20000 in
theorem gX3_noteTracks_X0_sectorFor : GoodIn wsX3_noteTracks (wsV RX3 80 RX0 yX0_sectorFor wsX0_sectorFor) := goodIn_app (goodIn_of _ (by decide +kernel)) ggX3_noteTracks_X0_sectorFor
set_option maxRecDepth 20000 in
theorem ggX3_noteTracks_X4_trackOf : GoodIn wsX3_noteTracks wsX4_trackOf := goodIn_r _ [14] rfl (by decide +kernel)
theorem gX3_noteTracks_X4_trackOf_n85 : GoodIn wsX3_noteTracks (wsX4_trackOf) := ggX3_noteTracks_X4_trackOf
set_option maxRecDepth 20000 in
theorem ggX3_noteTracks_X4_lay : GoodIn wsX3_noteTracks wsX4_lay := goodIn_r _ [16] rfl (by decide +kernel)
theorem gX3_noteTracks_X4_lay_n61 : GoodIn wsX3_noteTracks (wsX4_lay) := ggX3_noteTracks_X4_lay
theorem dX3_noteTracks_0 : decode cX3_noteTracks 0 = .ok (.iconst 0, 1) := by decide +kernel
theorem dX3_noteTracks_1 : decode cX3_noteTracks 1 = .ok (.istore_n 3, 1) := by decide +kernel
theorem dX3_noteTracks_2 : decode cX3_noteTracks 2 = .ok (.iload_n 3, 1) := by decide +kernel
theorem dX3_noteTracks_3 : decode cX3_noteTracks 3 = .ok (.aload_n 0, 1) := by decide +kernel
theorem dX3_noteTracks_4 : decode cX3_noteTracks 4 = .ok (.getfield 21, 3) := by decide +kernel
theorem dX3_noteTracks_7 : decode cX3_noteTracks 7 = .ok (.if_icmp .ge 44, 3) := by decide +kernel
theorem dX3_noteTracks_10 : decode cX3_noteTracks 10 = .ok (.aload_n 1, 1) := by decide +kernel
theorem dX3_noteTracks_11 : decode cX3_noteTracks 11 = .ok (.aload_n 0, 1) := by decide +kernel
theorem dX3_noteTracks_12 : decode cX3_noteTracks 12 = .ok (.getfield 9, 3) := by decide +kernel
theorem dX3_noteTracks_15 : decode cX3_noteTracks 15 = .ok (.iload_n 3, 1) := by decide +kernel
theorem dX3_noteTracks_16 : decode cX3_noteTracks 16 = .ok (.invokestatic 68, 3) := by decide +kernel
theorem dX3_noteTracks_19 : decode cX3_noteTracks 19 = .ok (.invokevirtual 80, 3) := by decide +kernel
theorem dX3_noteTracks_22 : decode cX3_noteTracks 22 = .ok (.invokestatic 85, 3) := by decide +kernel
theorem dX3_noteTracks_25 : decode cX3_noteTracks 25 = .ok (.istore 4, 2) := by decide +kernel
theorem dX3_noteTracks_27 : decode cX3_noteTracks 27 = .ok (.aload_n 0, 1) := by decide +kernel
theorem dX3_noteTracks_28 : decode cX3_noteTracks 28 = .ok (.getfield 18, 3) := by decide +kernel
theorem dX3_noteTracks_31 : decode cX3_noteTracks 31 = .ok (.iload_n 3, 1) := by decide +kernel
theorem dX3_noteTracks_32 : decode cX3_noteTracks 32 = .ok (.iload_n 2, 1) := by decide +kernel
theorem dX3_noteTracks_33 : decode cX3_noteTracks 33 = .ok (.ifCond .eq 8, 3) := by decide +kernel
theorem dX3_noteTracks_36 : decode cX3_noteTracks 36 = .ok (.iload 4, 2) := by decide +kernel
theorem dX3_noteTracks_38 : decode cX3_noteTracks 38 = .ok (.goto 4, 3) := by decide +kernel
theorem dX3_noteTracks_41 : decode cX3_noteTracks 41 = .ok (.iconst 0, 1) := by decide +kernel
theorem dX3_noteTracks_42 : decode cX3_noteTracks 42 = .ok (.invokestatic 61, 3) := by decide +kernel
theorem dX3_noteTracks_45 : decode cX3_noteTracks 45 = .ok (.iinc 3 1, 3) := by decide +kernel
theorem dX3_noteTracks_48 : decode cX3_noteTracks 48 = .ok (.goto (-46), 3) := by decide +kernel
theorem dX3_noteTracks_51 : decode cX3_noteTracks 51 = .ok (.return_, 1) := by decide +kernel
set_option maxRecDepth 20000 in
theorem ggX3_doOne_X4_at : GoodIn wsX3_doOne wsX4_at := goodIn_r _ [5] rfl (by decide +kernel)
theorem gX3_doOne_X4_at_n68 : GoodIn wsX3_doOne (wsX4_at) := ggX3_doOne_X4_at
set_option maxRecDepth 20000 in
theorem ggX3_doOne_X3_isWriting : GoodIn wsX3_doOne wsX3_isWriting := goodIn_r _ [10, 2, 3, 4, 5, 113, 114, 115, 116, 117] rfl (by decide +kernel)
set_option maxRecDepth 20000 in
theorem gX3_doOne_X3_isWriting : GoodIn wsX3_doOne (wsV RX3 41 RX3 yX3_isWriting wsX3_isWriting) := goodIn_app (goodIn_of _ (by decide +kernel)) ggX3_doOne_X3_isWriting
set_option maxRecDepth 20000 in
theorem ggX3_doOne_X0_writeTo : GoodIn wsX3_doOne wsX0_writeTo := goodIn_r _ [15, 16, 17, 18, 14, 19, 20, 21, 22, 23, 24, 25, 3, 4, 5, 26, 27, 28, 29, 30, 31, 32, 33, 34, 35, 36, 37, 38, 39, 40, 41, 42, 43, 44, 45, 46, 47, 48, 49, 50, 51, 52, 53, 54, 55, 56, 57, 58, 59, 60, 61, 62, 63, 64, 65, 66, 67, 68, 69, 70, 71, 72, 73, 74, 75, 76, 77, 78, 79, 80, 81, 82, 83, 84, 85, 86, 87, 88, 89, 90, 91, 92, 93, 94, 95, 96, 97, 98, 99, 118, 119, 120, 121, 122, 123, 124, 125, 126] rfl (by decide +kernel)
set_option maxRecDepth 20000 in
theorem gX3_doOne_X0_writeTo : GoodIn wsX3_doOne (wsV RX3 88 RX0 yX0_writeTo wsX0_writeTo) := goodIn_app (goodIn_of _ (by decide +kernel)) ggX3_doOne_X0_writeTo
set_option maxRecDepth 20000 in
theorem ggX3_doOne_X0_readFrom : GoodIn wsX3_doOne wsX0_readFrom := goodIn_r _ [103, 104, 21, 22, 23, 14, 24, 25, 3, 4, 5, 105, 106, 107, 108, 88, 89, 90, 91, 69, 92, 93, 94, 95, 70, 31, 32, 33, 34, 35, 40, 41, 42, 43, 44, 45, 46, 47, 48, 49, 50, 51, 52, 53, 54, 55, 56, 57, 58, 59, 60, 61, 62, 63, 64, 96, 97, 98, 99, 109, 110, 111, 112, 118, 119, 120, 121, 122, 123, 124, 125, 126] rfl (by decide +kernel)
set_option maxRecDepth 20000 in
theorem gX3_doOne_X0_readFrom : GoodIn wsX3_doOne (wsV RX3 92 RX0 yX0_readFrom wsX0_readFrom) := goodIn_app (goodIn_of _ (by decide +kernel)) ggX3_doOne_X0_readFrom
theorem dX3_doOne_0 : decode cX3_doOne 0 = .ok (.aload_n 0, 1) := by decide +kernel
theorem dX3_doOne_1 : decode cX3_doOne 1 = .ok (.getfield 9, 3) := by decide +kernel
theorem dX3_doOne_4 : decode cX3_doOne 4 = .ok (.iload_n 2, 1) := by decide +kernel
theorem dX3_doOne_5 : decode cX3_doOne 5 = .ok (.invokestatic 68, 3) := by decide +kernel
theorem dX3_doOne_8 : decode cX3_doOne 8 = .ok (.istore_n 3, 1) := by decide +kernel
theorem dX3_doOne_9 : decode cX3_doOne 9 = .ok (.aload_n 0, 1) := by decide +kernel
theorem dX3_doOne_10 : decode cX3_doOne 10 = .ok (.iload_n 2, 1) := by decide +kernel
theorem dX3_doOne_11 : decode cX3_doOne 11 = .ok (.invokevirtual 41, 3) := by decide +kernel
theorem dX3_doOne_14 : decode cX3_doOne 14 = .ok (.ifCond .eq 19, 3) := by decide +kernel
theorem dX3_doOne_17 : decode cX3_doOne 17 = .ok (.aload_n 1, 1) := by decide +kernel
theorem dX3_doOne_18 : decode cX3_doOne 18 = .ok (.iload_n 3, 1) := by decide +kernel
theorem dX3_doOne_19 : decode cX3_doOne 19 = .ok (.aload_n 0, 1) := by decide +kernel
theorem dX3_doOne_20 : decode cX3_doOne 20 = .ok (.getfield 15, 3) := by decide +kernel
theorem dX3_doOne_23 : decode cX3_doOne 23 = .ok (.iload_n 2, 1) := by decide +kernel
theorem dX3_doOne_24 : decode cX3_doOne 24 = .ok (.invokestatic 68, 3) := by decide +kernel
theorem dX3_doOne_27 : decode cX3_doOne 27 = .ok (.invokevirtual 88, 3) := by decide +kernel
theorem dX3_doOne_30 : decode cX3_doOne 30 = .ok (.goto 8, 3) := by decide +kernel
theorem dX3_doOne_33 : decode cX3_doOne 33 = .ok (.aload_n 1, 1) := by decide +kernel
theorem dX3_doOne_34 : decode cX3_doOne 34 = .ok (.iload_n 3, 1) := by decide +kernel
theorem dX3_doOne_35 : decode cX3_doOne 35 = .ok (.invokevirtual 92, 3) := by decide +kernel
theorem dX3_doOne_38 : decode cX3_doOne 38 = .ok (.istore 4, 2) := by decide +kernel
theorem dX3_doOne_40 : decode cX3_doOne 40 = .ok (.iload 4, 2) := by decide +kernel
theorem dX3_doOne_42 : decode cX3_doOne 42 = .ok (.ifCond .ge 7, 3) := by decide +kernel
theorem dX3_doOne_45 : decode cX3_doOne 45 = .ok (.iconst 0, 1) := by decide +kernel
theorem dX3_doOne_46 : decode cX3_doOne 46 = .ok (.goto 4, 3) := by decide +kernel
theorem dX3_doOne_49 : decode cX3_doOne 49 = .ok (.iconst 1, 1) := by decide +kernel
theorem dX3_doOne_50 : decode cX3_doOne 50 = .ok (.ireturn, 1) := by decide +kernel
set_option maxRecDepth 20000 in
theorem ggX4_init_X0_init : GoodIn wsX4_init wsX0_init := goodIn_r _ [24, 25, 2, 3, 26, 27, 28, 29, 30, 31, 32, 33, 34, 35, 36, 37, 38, 39, 40, 41, 42, 43, 44, 45, 46, 47, 48, 49, 50, 71, 72, 73, 74, 75, 76, 77, 78, 79] rfl (by decide +kernel)
theorem gX4_init_X0_init : GoodIn wsX4_init (wsX0_init) := ggX4_init_X0_init
set_option maxRecDepth 20000 in
theorem ggX4_init_X2_init : GoodIn wsX4_init wsX2_init := goodIn_r _ [52, 53, 2, 3, 26, 54, 55, 86, 87] rfl (by decide +kernel)
theorem gX4_init_X2_init_n21 : GoodIn wsX4_init (wsX2_init) := ggX4_init_X2_init
set_option maxRecDepth 20000 in
theorem ggX4_init_X3_init : GoodIn wsX4_init wsX3_init := goodIn_r _ [57, 58, 2, 3, 26, 59, 60, 61, 62, 63, 88, 89, 90, 91, 92] rfl (by decide +kernel)
theorem gX4_init_X3_init_n28 : GoodIn wsX4_init (wsX3_init) := ggX4_init_X3_init
set_option maxRecDepth 20000 in
theorem ggX4_init_X1_init : GoodIn wsX4_init wsX1_init := goodIn_r _ [65, 66, 2, 3, 67, 68, 69, 70, 93, 94, 95] rfl (by decide +kernel)
theorem gX4_init_X1_init_n35 : GoodIn wsX4_init (wsX1_init) := ggX4_init_X1_init
theorem dX4_init_0 : decode cX4_init 0 = .ok (.aload_n 0, 1) := by decide +kernel
theorem dX4_init_1 : decode cX4_init 1 = .ok (.invokespecial 3, 3) := by decide +kernel
theorem dX4_init_4 : decode cX4_init 4 = .ok (.aload_n 0, 1) := by decide +kernel
theorem dX4_init_5 : decode cX4_init 5 = .ok (.new 9, 3) := by decide +kernel
theorem dX4_init_8 : decode cX4_init 8 = .ok (.dup, 1) := by decide +kernel
theorem dX4_init_9 : decode cX4_init 9 = .ok (.invokespecial 11, 3) := by decide +kernel
theorem dX4_init_12 : decode cX4_init 12 = .ok (.putfield 12, 3) := by decide +kernel
theorem dX4_init_15 : decode cX4_init 15 = .ok (.aload_n 0, 1) := by decide +kernel
theorem dX4_init_16 : decode cX4_init 16 = .ok (.new 9, 3) := by decide +kernel
theorem dX4_init_19 : decode cX4_init 19 = .ok (.dup, 1) := by decide +kernel
theorem dX4_init_20 : decode cX4_init 20 = .ok (.invokespecial 11, 3) := by decide +kernel
theorem dX4_init_23 : decode cX4_init 23 = .ok (.putfield 16, 3) := by decide +kernel
theorem dX4_init_26 : decode cX4_init 26 = .ok (.aload_n 0, 1) := by decide +kernel
theorem dX4_init_27 : decode cX4_init 27 = .ok (.new 19, 3) := by decide +kernel
theorem dX4_init_30 : decode cX4_init 30 = .ok (.dup, 1) := by decide +kernel
theorem dX4_init_31 : decode cX4_init 31 = .ok (.invokespecial 21, 3) := by decide +kernel
theorem dX4_init_34 : decode cX4_init 34 = .ok (.putfield 22, 3) := by decide +kernel
theorem dX4_init_37 : decode cX4_init 37 = .ok (.aload_n 0, 1) := by decide +kernel
theorem dX4_init_38 : decode cX4_init 38 = .ok (.new 26, 3) := by decide +kernel
theorem dX4_init_41 : decode cX4_init 41 = .ok (.dup, 1) := by decide +kernel
theorem dX4_init_42 : decode cX4_init 42 = .ok (.invokespecial 28, 3) := by decide +kernel
theorem dX4_init_45 : decode cX4_init 45 = .ok (.putfield 29, 3) := by decide +kernel
theorem dX4_init_48 : decode cX4_init 48 = .ok (.aload_n 0, 1) := by decide +kernel
theorem dX4_init_49 : decode cX4_init 49 = .ok (.new 33, 3) := by decide +kernel
theorem dX4_init_52 : decode cX4_init 52 = .ok (.dup, 1) := by decide +kernel
theorem dX4_init_53 : decode cX4_init 53 = .ok (.invokespecial 35, 3) := by decide +kernel
theorem dX4_init_56 : decode cX4_init 56 = .ok (.putfield 36, 3) := by decide +kernel
theorem dX4_init_59 : decode cX4_init 59 = .ok (.aload_n 0, 1) := by decide +kernel
theorem dX4_init_60 : decode cX4_init 60 = .ok (.iconst 2, 1) := by decide +kernel
theorem dX4_init_61 : decode cX4_init 61 = .ok (.anewarray 9, 3) := by decide +kernel
theorem dX4_init_64 : decode cX4_init 64 = .ok (.putfield 40, 3) := by decide +kernel
theorem dX4_init_67 : decode cX4_init 67 = .ok (.return_, 1) := by decide +kernel
set_option maxRecDepth 20000 in
theorem ggX4_set_X4_at : GoodIn wsX4_set wsX4_at := goodIn_r _ [7] rfl (by decide +kernel)
set_option maxRecDepth 20000 in
theorem gX4_set_X4_at : GoodIn wsX4_set (va_wsS RX4 51 yX4_at wsX4_at) := goodIn_app (goodIn_of _ (by decide +kernel)) ggX4_set_X4_at
set_option maxRecDepth 20000 in
theorem ggX4_set_X4_freshTrial : GoodIn wsX4_set wsX4_freshTrial := goodIn_r _ [11, 12, 13, 14, 15, 16, 17, 18, 19, 20, 21, 22, 23, 24, 25, 26, 27, 28, 6, 29, 30, 31, 32, 33, 34, 35, 36, 37, 74, 75, 76, 77, 78, 79, 80, 81, 82, 83, 84, 85, 86, 87, 88] rfl (by decide +kernel)
set_option maxRecDepth 20000 in
theorem gX4_set_X4_freshTrial : GoodIn wsX4_set (wsV RX4 58 RX4 yX4_freshTrial wsX4_freshTrial) := goodIn_app (goodIn_of _ (by decide +kernel)) ggX4_set_X4_freshTrial
set_option maxRecDepth 20000 in
theorem ggX4_set_X0_exchangeSetting : GoodIn wsX4_set wsX0_exchangeSetting := goodIn_r _ [41, 19, 5, 6, 7, 42, 43, 80, 81, 82, 83, 84, 85, 86, 87, 88] rfl (by decide +kernel)
set_option maxRecDepth 20000 in
theorem gX4_set_X0_exchangeSetting : GoodIn wsX4_set (wsV RX4 62 RX0 yX0_exchangeSetting wsX0_exchangeSetting) := goodIn_app (goodIn_of _ (by decide +kernel)) ggX4_set_X0_exchangeSetting
set_option maxRecDepth 20000 in
theorem ggX4_set_X4_adopt : GoodIn wsX4_set wsX4_adopt := goodIn_r _ [47, 48, 13, 12, 49, 50, 17, 51, 52, 53, 54, 55, 56, 57, 58, 59, 60, 61, 62, 63, 64, 65, 66, 67, 68, 69, 19, 20, 21, 22, 23, 24, 25, 26, 27, 28, 6, 29, 30, 31, 32, 33, 34, 35, 36, 37, 70, 71, 72, 73, 74, 75, 76, 77, 78, 79, 80, 81, 82, 83, 84, 85, 86, 87, 88, 89, 90, 91] rfl (by decide +kernel)
set_option maxRecDepth 20000 in
theorem gX4_set_X4_adopt : GoodIn wsX4_set (wsV RX4 66 RX4 yX4_adopt wsX4_adopt) := goodIn_app (goodIn_of _ (by decide +kernel)) ggX4_set_X4_adopt
theorem dX4_set_0 : decode cX4_set 0 = .ok (.iload_n 1, 1) := by decide +kernel
theorem dX4_set_1 : decode cX4_set 1 = .ok (.ifCond .lt 11, 3) := by decide +kernel
theorem dX4_set_4 : decode cX4_set 4 = .ok (.iload_n 1, 1) := by decide +kernel
theorem dX4_set_5 : decode cX4_set 5 = .ok (.getstatic 44, 3) := by decide +kernel
theorem dX4_set_8 : decode cX4_set 8 = .ok (.arraylength, 1) := by decide +kernel
theorem dX4_set_9 : decode cX4_set 9 = .ok (.if_icmp .lt 6, 3) := by decide +kernel
theorem dX4_set_12 : decode cX4_set 12 = .ok (.bipush (-2), 2) := by decide +kernel
theorem dX4_set_14 : decode cX4_set 14 = .ok (.ireturn, 1) := by decide +kernel
theorem dX4_set_15 : decode cX4_set 15 = .ok (.iload_n 2, 1) := by decide +kernel
theorem dX4_set_16 : decode cX4_set 16 = .ok (.getstatic 48, 3) := by decide +kernel
theorem dX4_set_19 : decode cX4_set 19 = .ok (.iload_n 1, 1) := by decide +kernel
theorem dX4_set_20 : decode cX4_set 20 = .ok (.invokestatic 51, 3) := by decide +kernel
theorem dX4_set_23 : decode cX4_set 23 = .ok (.if_icmp .lt 14, 3) := by decide +kernel
theorem dX4_set_26 : decode cX4_set 26 = .ok (.iload_n 2, 1) := by decide +kernel
theorem dX4_set_27 : decode cX4_set 27 = .ok (.getstatic 55, 3) := by decide +kernel
theorem dX4_set_30 : decode cX4_set 30 = .ok (.iload_n 1, 1) := by decide +kernel
theorem dX4_set_31 : decode cX4_set 31 = .ok (.invokestatic 51, 3) := by decide +kernel
theorem dX4_set_34 : decode cX4_set 34 = .ok (.if_icmp .le 6, 3) := by decide +kernel
theorem dX4_set_37 : decode cX4_set 37 = .ok (.bipush (-2), 2) := by decide +kernel
theorem dX4_set_39 : decode cX4_set 39 = .ok (.ireturn, 1) := by decide +kernel
theorem dX4_set_40 : decode cX4_set 40 = .ok (.aload_n 0, 1) := by decide +kernel
theorem dX4_set_41 : decode cX4_set 41 = .ok (.aload_n 0, 1) := by decide +kernel
theorem dX4_set_42 : decode cX4_set 42 = .ok (.invokevirtual 58, 3) := by decide +kernel
theorem dX4_set_45 : decode cX4_set 45 = .ok (.iload_n 1, 1) := by decide +kernel
theorem dX4_set_46 : decode cX4_set 46 = .ok (.iload_n 2, 1) := by decide +kernel
theorem dX4_set_47 : decode cX4_set 47 = .ok (.invokevirtual 62, 3) := by decide +kernel
theorem dX4_set_50 : decode cX4_set 50 = .ok (.invokevirtual 66, 3) := by decide +kernel
theorem dX4_set_53 : decode cX4_set 53 = .ok (.ireturn, 1) := by decide +kernel
set_option maxRecDepth 20000 in
theorem ggX4_write_X4_isAddress : GoodIn wsX4_write wsX4_isAddress := goodIn_r _ [4] rfl (by decide +kernel)
set_option maxRecDepth 20000 in
theorem gX4_write_X4_isAddress : GoodIn wsX4_write (va_wsS RX4 70 yX4_isAddress wsX4_isAddress) := goodIn_app (goodIn_of _ (by decide +kernel)) ggX4_write_X4_isAddress
set_option maxRecDepth 20000 in
theorem ggX4_write_X4_freshTrial : GoodIn wsX4_write wsX4_freshTrial := goodIn_r _ [8, 9, 10, 11, 12, 13, 14, 15, 16, 17, 18, 19, 20, 21, 22, 23, 24, 25, 3, 26, 27, 28, 29, 30, 31, 32, 33, 34, 142, 143, 144, 145, 146, 147, 148, 149, 150, 151, 152, 153, 154, 155, 156] rfl (by decide +kernel)
set_option maxRecDepth 20000 in
theorem gX4_write_X4_freshTrial : GoodIn wsX4_write (wsV RX4 58 RX4 yX4_freshTrial wsX4_freshTrial) := goodIn_app (goodIn_of _ (by decide +kernel)) ggX4_write_X4_freshTrial
set_option maxRecDepth 20000 in
theorem ggX4_write_X0_writeTo : GoodIn wsX4_write wsX0_writeTo := goodIn_r _ [38, 39, 40, 41, 14, 42, 21, 43, 44, 45, 46, 20, 47, 3, 48, 49, 50, 51, 52, 19, 53, 54, 55, 56, 16, 57, 58, 59, 60, 61, 62, 63, 64, 23, 65, 66, 67, 68, 69, 70, 24, 71, 72, 29, 73, 74, 75, 76, 77, 78, 79, 80, 81, 82, 83, 84, 85, 86, 17, 18, 87, 88, 89, 90, 91, 92, 93, 94, 95, 28, 30, 96, 97, 98, 99, 2, 4, 100, 101, 102, 103, 104, 105, 106, 107, 108, 109, 110, 111, 148, 149, 150, 151, 152, 153, 154, 155, 156] rfl (by decide +kernel)
set_option maxRecDepth 20000 in
theorem gX4_write_X0_writeTo : GoodIn wsX4_write (wsV RX4 74 RX0 yX0_writeTo wsX0_writeTo) := goodIn_app (goodIn_of _ (by decide +kernel)) ggX4_write_X0_writeTo
set_option maxRecDepth 20000 in
theorem ggX4_write_X4_adopt : GoodIn wsX4_write wsX4_adopt := goodIn_r _ [115, 116, 10, 9, 117, 118, 14, 119, 120, 121, 122, 123, 124, 125, 126, 127, 128, 129, 130, 131, 132, 133, 134, 135, 136, 137, 16, 17, 18, 19, 20, 21, 22, 23, 24, 25, 3, 26, 27, 28, 29, 30, 31, 32, 33, 34, 138, 139, 140, 141, 142, 143, 144, 145, 146, 147, 148, 149, 150, 151, 152, 153, 154, 155, 156, 157, 158, 159] rfl (by decide +kernel)
set_option maxRecDepth 20000 in
theorem gX4_write_X4_adopt : GoodIn wsX4_write (wsV RX4 66 RX4 yX4_adopt wsX4_adopt) := goodIn_app (goodIn_of _ (by decide +kernel)) ggX4_write_X4_adopt
theorem dX4_write_0 : decode cX4_write 0 = .ok (.iload_n 1, 1) := by decide +kernel
theorem dX4_write_1 : decode cX4_write 1 = .ok (.invokestatic 70, 3) := by decide +kernel
theorem dX4_write_4 : decode cX4_write 4 = .ok (.ifCond .ne 5, 3) := by decide +kernel
theorem dX4_write_7 : decode cX4_write 7 = .ok (.iconst (-1), 1) := by decide +kernel
theorem dX4_write_8 : decode cX4_write 8 = .ok (.ireturn, 1) := by decide +kernel
theorem dX4_write_9 : decode cX4_write 9 = .ok (.iload_n 2, 1) := by decide +kernel
theorem dX4_write_10 : decode cX4_write 10 = .ok (.ifCond .lt 10, 3) := by decide +kernel
theorem dX4_write_13 : decode cX4_write 13 = .ok (.iload_n 2, 1) := by decide +kernel
theorem dX4_write_14 : decode cX4_write 14 = .ok (.sipush 255, 3) := by decide +kernel
theorem dX4_write_17 : decode cX4_write 17 = .ok (.if_icmp .le 6, 3) := by decide +kernel
theorem dX4_write_20 : decode cX4_write 20 = .ok (.bipush (-2), 2) := by decide +kernel
theorem dX4_write_22 : decode cX4_write 22 = .ok (.ireturn, 1) := by decide +kernel
theorem dX4_write_23 : decode cX4_write 23 = .ok (.aload_n 0, 1) := by decide +kernel
theorem dX4_write_24 : decode cX4_write 24 = .ok (.aload_n 0, 1) := by decide +kernel
theorem dX4_write_25 : decode cX4_write 25 = .ok (.invokevirtual 58, 3) := by decide +kernel
theorem dX4_write_28 : decode cX4_write 28 = .ok (.iload_n 1, 1) := by decide +kernel
theorem dX4_write_29 : decode cX4_write 29 = .ok (.iload_n 2, 1) := by decide +kernel
theorem dX4_write_30 : decode cX4_write 30 = .ok (.invokevirtual 74, 3) := by decide +kernel
theorem dX4_write_33 : decode cX4_write 33 = .ok (.invokevirtual 66, 3) := by decide +kernel
theorem dX4_write_36 : decode cX4_write 36 = .ok (.ireturn, 1) := by decide +kernel
set_option maxRecDepth 20000 in
theorem ggX4_read_X4_isAddress : GoodIn wsX4_read wsX4_isAddress := goodIn_r _ [4] rfl (by decide +kernel)
set_option maxRecDepth 20000 in
theorem gX4_read_X4_isAddress : GoodIn wsX4_read (va_wsS RX4 70 yX4_isAddress wsX4_isAddress) := goodIn_app (goodIn_of _ (by decide +kernel)) ggX4_read_X4_isAddress
set_option maxRecDepth 20000 in
theorem ggX4_read_X4_freshTrial : GoodIn wsX4_read wsX4_freshTrial := goodIn_r _ [8, 9, 10, 11, 12, 13, 14, 15, 16, 17, 18, 19, 20, 21, 22, 23, 24, 25, 3, 26, 27, 28, 29, 30, 31, 32, 33, 34, 121, 122, 123, 124, 125, 126, 127, 128, 129, 130, 131, 132, 133, 134, 135] rfl (by decide +kernel)
set_option maxRecDepth 20000 in
theorem gX4_read_X4_freshTrial : GoodIn wsX4_read (wsV RX4 58 RX4 yX4_freshTrial wsX4_freshTrial) := goodIn_app (goodIn_of _ (by decide +kernel)) ggX4_read_X4_freshTrial
set_option maxRecDepth 20000 in
theorem ggX4_read_X0_readFrom : GoodIn wsX4_read wsX0_readFrom := goodIn_r _ [38, 22, 39, 40, 41, 14, 42, 20, 43, 3, 44, 45, 46, 47, 48, 49, 50, 51, 52, 17, 53, 54, 55, 56, 18, 57, 58, 59, 60, 16, 61, 62, 63, 64, 23, 65, 66, 67, 68, 69, 70, 24, 71, 72, 29, 73, 74, 75, 76, 77, 78, 79, 80, 81, 82, 83, 84, 85, 86, 87, 88, 89, 90, 127, 128, 129, 130, 131, 132, 133, 134, 135] rfl (by decide +kernel)
set_option maxRecDepth 20000 in
theorem gX4_read_X0_readFrom : GoodIn wsX4_read (wsV RX4 77 RX0 yX0_readFrom wsX0_readFrom) := goodIn_app (goodIn_of _ (by decide +kernel)) ggX4_read_X0_readFrom
set_option maxRecDepth 20000 in
theorem ggX4_read_X4_adopt : GoodIn wsX4_read wsX4_adopt := goodIn_r _ [94, 95, 10, 9, 96, 97, 14, 98, 99, 100, 101, 102, 103, 104, 105, 106, 107, 108, 109, 110, 111, 112, 113, 114, 115, 116, 16, 17, 18, 19, 20, 21, 22, 23, 24, 25, 3, 26, 27, 28, 29, 30, 31, 32, 33, 34, 117, 118, 119, 120, 121, 122, 123, 124, 125, 126, 127, 128, 129, 130, 131, 132, 133, 134, 135, 136, 137, 138] rfl (by decide +kernel)
set_option maxRecDepth 20000 in
theorem gX4_read_X4_adopt : GoodIn wsX4_read (wsV RX4 66 RX4 yX4_adopt wsX4_adopt) := goodIn_app (goodIn_of _ (by decide +kernel)) ggX4_read_X4_adopt
theorem dX4_read_0 : decode cX4_read 0 = .ok (.iload_n 1, 1) := by decide +kernel
theorem dX4_read_1 : decode cX4_read 1 = .ok (.invokestatic 70, 3) := by decide +kernel
theorem dX4_read_4 : decode cX4_read 4 = .ok (.ifCond .ne 5, 3) := by decide +kernel
theorem dX4_read_7 : decode cX4_read 7 = .ok (.iconst (-1), 1) := by decide +kernel
theorem dX4_read_8 : decode cX4_read 8 = .ok (.ireturn, 1) := by decide +kernel
theorem dX4_read_9 : decode cX4_read 9 = .ok (.aload_n 0, 1) := by decide +kernel
theorem dX4_read_10 : decode cX4_read 10 = .ok (.aload_n 0, 1) := by decide +kernel
theorem dX4_read_11 : decode cX4_read 11 = .ok (.invokevirtual 58, 3) := by decide +kernel
theorem dX4_read_14 : decode cX4_read 14 = .ok (.iload_n 1, 1) := by decide +kernel
theorem dX4_read_15 : decode cX4_read 15 = .ok (.invokevirtual 77, 3) := by decide +kernel
theorem dX4_read_18 : decode cX4_read 18 = .ok (.invokevirtual 66, 3) := by decide +kernel
theorem dX4_read_21 : decode cX4_read 21 = .ok (.ireturn, 1) := by decide +kernel
set_option maxRecDepth 20000 in
theorem ggX4_refresh_X4_isAddress : GoodIn wsX4_refresh wsX4_isAddress := goodIn_r _ [5] rfl (by decide +kernel)
set_option maxRecDepth 20000 in
theorem gX4_refresh_X4_isAddress : GoodIn wsX4_refresh (va_wsS RX4 70 yX4_isAddress wsX4_isAddress) := goodIn_app (goodIn_of _ (by decide +kernel)) ggX4_refresh_X4_isAddress
set_option maxRecDepth 20000 in
theorem ggX4_refresh_X0_sectorFor : GoodIn wsX4_refresh wsX0_sectorFor := goodIn_r _ [10, 11, 12, 4, 13, 162, 163, 164, 165, 166, 167, 168, 169, 170] rfl (by decide +kernel)
set_option maxRecDepth 20000 in
theorem gX4_refresh_X0_sectorFor : GoodIn wsX4_refresh (wsV RX4 80 RX0 yX0_sectorFor wsX0_sectorFor) := goodIn_app (goodIn_of _ (by decide +kernel)) ggX4_refresh_X0_sectorFor
set_option maxRecDepth 20000 in
theorem ggX4_refresh_X0_blurOf : GoodIn wsX4_refresh wsX0_blurOf := goodIn_r _ [17, 18, 12, 4, 13, 162, 163, 164, 165, 166, 167, 168, 169, 170] rfl (by decide +kernel)
set_option maxRecDepth 20000 in
theorem gX4_refresh_X0_blurOf : GoodIn wsX4_refresh (wsV RX4 83 RX0 yX0_blurOf wsX0_blurOf) := goodIn_app (goodIn_of _ (by decide +kernel)) ggX4_refresh_X0_blurOf
set_option maxRecDepth 20000 in
theorem ggX4_refresh_X4_freshTrial : GoodIn wsX4_refresh wsX4_freshTrial := goodIn_r _ [22, 23, 1, 24, 25, 26, 9, 27, 28, 29, 18, 30, 11, 31, 32, 33, 34, 35, 4, 36, 37, 38, 39, 40, 41, 42, 43, 44, 156, 157, 158, 159, 160, 161, 162, 163, 164, 165, 166, 167, 168, 169, 170] rfl (by decide +kernel)
set_option maxRecDepth 20000 in
theorem gX4_refresh_X4_freshTrial : GoodIn wsX4_refresh (wsV RX4 58 RX4 yX4_freshTrial wsX4_freshTrial) := goodIn_app (goodIn_of _ (by decide +kernel)) ggX4_refresh_X4_freshTrial
set_option maxRecDepth 20000 in
theorem ggX4_refresh_X0_readFrom : GoodIn wsX4_refresh wsX0_readFrom := goodIn_r _ [48, 32, 49, 7, 8, 9, 10, 11, 12, 4, 13, 50, 51, 52, 53, 54, 55, 56, 57, 29, 58, 15, 16, 17, 18, 59, 60, 61, 62, 28, 63, 64, 65, 66, 33, 67, 68, 69, 70, 71, 72, 34, 73, 74, 39, 75, 76, 77, 78, 79, 80, 81, 82, 83, 84, 85, 86, 87, 88, 89, 90, 91, 92, 162, 163, 164, 165, 166, 167, 168, 169, 170] rfl (by decide +kernel)
set_option maxRecDepth 20000 in
theorem gX4_refresh_X0_readFrom : GoodIn wsX4_refresh (wsV RX4 77 RX0 yX0_readFrom wsX0_readFrom) := goodIn_app (goodIn_of _ (by decide +kernel)) ggX4_refresh_X0_readFrom
set_option maxRecDepth 20000 in
theorem ggX4_refresh_X0_writeTo : GoodIn wsX4_refresh wsX0_writeTo := goodIn_r _ [96, 97, 98, 99, 9, 100, 31, 49, 7, 8, 10, 11, 12, 4, 13, 101, 102, 103, 104, 30, 59, 60, 61, 62, 28, 105, 106, 107, 108, 63, 64, 65, 66, 33, 67, 68, 69, 70, 71, 72, 34, 73, 74, 39, 75, 76, 77, 78, 79, 80, 81, 82, 83, 84, 109, 110, 111, 112, 29, 18, 113, 114, 115, 116, 117, 118, 119, 120, 121, 38, 40, 122, 123, 124, 125, 3, 5, 54, 55, 56, 57, 58, 15, 16, 17, 85, 86, 87, 88, 162, 163, 164, 165, 166, 167, 168, 169, 170] rfl (by decide +kernel)
set_option maxRecDepth 20000 in
theorem gX4_refresh_X0_writeTo : GoodIn wsX4_refresh (wsV RX4 74 RX0 yX0_writeTo wsX0_writeTo) := goodIn_app (goodIn_of _ (by decide +kernel)) ggX4_refresh_X0_writeTo
set_option maxRecDepth 20000 in
theorem ggX4_refresh_X4_adopt : GoodIn wsX4_refresh wsX4_adopt := goodIn_r _ [129, 130, 1, 23, 131, 132, 9, 133, 134, 135, 136, 137, 138, 139, 140, 141, 142, 143, 144, 145, 146, 147, 148, 149, 150, 151, 28, 29, 18, 30, 11, 31, 32, 33, 34, 35, 4, 36, 37, 38, 39, 40, 41, 42, 43, 44, 152, 153, 154, 155, 156, 157, 158, 159, 160, 161, 162, 163, 164, 165, 166, 167, 168, 169, 170, 171, 172, 173] rfl (by decide +kernel)
set_option maxRecDepth 20000 in
theorem gX4_refresh_X4_adopt : GoodIn wsX4_refresh (wsV RX4 66 RX4 yX4_adopt wsX4_adopt) := goodIn_app (goodIn_of _ (by decide +kernel)) ggX4_refresh_X4_adopt
theorem dX4_refresh_0 : decode cX4_refresh 0 = .ok (.iload_n 1, 1) := by decide +kernel
theorem dX4_refresh_1 : decode cX4_refresh 1 = .ok (.invokestatic 70, 3) := by decide +kernel
theorem dX4_refresh_4 : decode cX4_refresh 4 = .ok (.ifCond .ne 5, 3) := by decide +kernel
theorem dX4_refresh_7 : decode cX4_refresh 7 = .ok (.iconst (-1), 1) := by decide +kernel
theorem dX4_refresh_8 : decode cX4_refresh 8 = .ok (.ireturn, 1) := by decide +kernel
theorem dX4_refresh_9 : decode cX4_refresh 9 = .ok (.aload_n 0, 1) := by decide +kernel
theorem dX4_refresh_10 : decode cX4_refresh 10 = .ok (.getfield 12, 3) := by decide +kernel
theorem dX4_refresh_13 : decode cX4_refresh 13 = .ok (.aload_n 0, 1) := by decide +kernel
theorem dX4_refresh_14 : decode cX4_refresh 14 = .ok (.getfield 12, 3) := by decide +kernel
theorem dX4_refresh_17 : decode cX4_refresh 17 = .ok (.iload_n 1, 1) := by decide +kernel
theorem dX4_refresh_18 : decode cX4_refresh 18 = .ok (.invokevirtual 80, 3) := by decide +kernel
theorem dX4_refresh_21 : decode cX4_refresh 21 = .ok (.invokevirtual 83, 3) := by decide +kernel
theorem dX4_refresh_24 : decode cX4_refresh 24 = .ok (.istore_n 2, 1) := by decide +kernel
theorem dX4_refresh_25 : decode cX4_refresh 25 = .ok (.aload_n 0, 1) := by decide +kernel
theorem dX4_refresh_26 : decode cX4_refresh 26 = .ok (.invokevirtual 58, 3) := by decide +kernel
theorem dX4_refresh_29 : decode cX4_refresh 29 = .ok (.astore_n 3, 1) := by decide +kernel
theorem dX4_refresh_30 : decode cX4_refresh 30 = .ok (.aload_n 3, 1) := by decide +kernel
theorem dX4_refresh_31 : decode cX4_refresh 31 = .ok (.iload_n 1, 1) := by decide +kernel
theorem dX4_refresh_32 : decode cX4_refresh 32 = .ok (.invokevirtual 77, 3) := by decide +kernel
theorem dX4_refresh_35 : decode cX4_refresh 35 = .ok (.istore 4, 2) := by decide +kernel
theorem dX4_refresh_37 : decode cX4_refresh 37 = .ok (.iload 4, 2) := by decide +kernel
theorem dX4_refresh_39 : decode cX4_refresh 39 = .ok (.ifCond .ge 6, 3) := by decide +kernel
theorem dX4_refresh_42 : decode cX4_refresh 42 = .ok (.iload 4, 2) := by decide +kernel
theorem dX4_refresh_44 : decode cX4_refresh 44 = .ok (.ireturn, 1) := by decide +kernel
theorem dX4_refresh_45 : decode cX4_refresh 45 = .ok (.aload_n 3, 1) := by decide +kernel
theorem dX4_refresh_46 : decode cX4_refresh 46 = .ok (.iload_n 1, 1) := by decide +kernel
theorem dX4_refresh_47 : decode cX4_refresh 47 = .ok (.iload 4, 2) := by decide +kernel
theorem dX4_refresh_49 : decode cX4_refresh 49 = .ok (.invokevirtual 74, 3) := by decide +kernel
theorem dX4_refresh_52 : decode cX4_refresh 52 = .ok (.istore 5, 2) := by decide +kernel
theorem dX4_refresh_54 : decode cX4_refresh 54 = .ok (.iload 5, 2) := by decide +kernel
theorem dX4_refresh_56 : decode cX4_refresh 56 = .ok (.ifCond .ge 8, 3) := by decide +kernel
theorem dX4_refresh_59 : decode cX4_refresh 59 = .ok (.iload 5, 2) := by decide +kernel
theorem dX4_refresh_61 : decode cX4_refresh 61 = .ok (.goto 8, 3) := by decide +kernel
theorem dX4_refresh_64 : decode cX4_refresh 64 = .ok (.aload_n 0, 1) := by decide +kernel
theorem dX4_refresh_65 : decode cX4_refresh 65 = .ok (.iload_n 2, 1) := by decide +kernel
theorem dX4_refresh_66 : decode cX4_refresh 66 = .ok (.invokevirtual 66, 3) := by decide +kernel
theorem dX4_refresh_69 : decode cX4_refresh 69 = .ok (.ireturn, 1) := by decide +kernel
set_option maxRecDepth 20000 in
theorem ggX4_seek_X4_isTrack : GoodIn wsX4_seek wsX4_isTrack := goodIn_r _ [4] rfl (by decide +kernel)
set_option maxRecDepth 20000 in
theorem gX4_seek_X4_isTrack : GoodIn wsX4_seek (va_wsS RX4 86 yX4_isTrack wsX4_isTrack) := goodIn_app (goodIn_of _ (by decide +kernel)) ggX4_seek_X4_isTrack
set_option maxRecDepth 20000 in
theorem ggX4_seek_X4_freshTrial : GoodIn wsX4_seek wsX4_freshTrial := goodIn_r _ [8, 9, 10, 11, 12, 13, 14, 15, 16, 17, 18, 19, 20, 21, 22, 23, 24, 25, 3, 26, 27, 28, 29, 30, 31, 32, 33, 34, 91, 92, 93, 94, 95, 96, 97, 98, 99, 100, 101, 102, 103, 104, 105] rfl (by decide +kernel)
set_option maxRecDepth 20000 in
theorem gX4_seek_X4_freshTrial : GoodIn wsX4_seek (wsV RX4 58 RX4 yX4_freshTrial wsX4_freshTrial) := goodIn_app (goodIn_of _ (by decide +kernel)) ggX4_seek_X4_freshTrial
set_option maxRecDepth 20000 in
theorem ggX4_seek_X0_moveHead : GoodIn wsX4_seek wsX0_moveHead := goodIn_r _ [38, 39, 40, 41, 14, 42, 24, 43, 44, 29, 45, 46, 47, 48, 49, 16, 50, 3, 51, 52, 53, 54, 55, 56, 23, 57, 58, 59, 60, 97, 98, 99, 100, 101, 102, 103, 104, 105] rfl (by decide +kernel)
set_option maxRecDepth 20000 in
theorem gX4_seek_X0_moveHead : GoodIn wsX4_seek (wsV RX4 89 RX0 yX0_moveHead wsX0_moveHead) := goodIn_app (goodIn_of _ (by decide +kernel)) ggX4_seek_X0_moveHead
set_option maxRecDepth 20000 in
theorem ggX4_seek_X4_adopt : GoodIn wsX4_seek wsX4_adopt := goodIn_r _ [64, 65, 10, 9, 66, 67, 14, 68, 69, 70, 71, 72, 73, 74, 75, 76, 77, 78, 79, 80, 81, 82, 83, 84, 85, 86, 16, 17, 18, 19, 20, 21, 22, 23, 24, 25, 3, 26, 27, 28, 29, 30, 31, 32, 33, 34, 87, 88, 89, 90, 91, 92, 93, 94, 95, 96, 97, 98, 99, 100, 101, 102, 103, 104, 105, 106, 107, 108] rfl (by decide +kernel)
set_option maxRecDepth 20000 in
theorem gX4_seek_X4_adopt : GoodIn wsX4_seek (wsV RX4 66 RX4 yX4_adopt wsX4_adopt) := goodIn_app (goodIn_of _ (by decide +kernel)) ggX4_seek_X4_adopt
theorem dX4_seek_0 : decode cX4_seek 0 = .ok (.iload_n 1, 1) := by decide +kernel
theorem dX4_seek_1 : decode cX4_seek 1 = .ok (.invokestatic 86, 3) := by decide +kernel
theorem dX4_seek_4 : decode cX4_seek 4 = .ok (.ifCond .ne 5, 3) := by decide +kernel
theorem dX4_seek_7 : decode cX4_seek 7 = .ok (.iconst (-1), 1) := by decide +kernel
theorem dX4_seek_8 : decode cX4_seek 8 = .ok (.ireturn, 1) := by decide +kernel
theorem dX4_seek_9 : decode cX4_seek 9 = .ok (.aload_n 0, 1) := by decide +kernel
theorem dX4_seek_10 : decode cX4_seek 10 = .ok (.aload_n 0, 1) := by decide +kernel
theorem dX4_seek_11 : decode cX4_seek 11 = .ok (.invokevirtual 58, 3) := by decide +kernel
theorem dX4_seek_14 : decode cX4_seek 14 = .ok (.iload_n 1, 1) := by decide +kernel
theorem dX4_seek_15 : decode cX4_seek 15 = .ok (.invokevirtual 89, 3) := by decide +kernel
theorem dX4_seek_18 : decode cX4_seek 18 = .ok (.invokevirtual 66, 3) := by decide +kernel
theorem dX4_seek_21 : decode cX4_seek 21 = .ok (.ireturn, 1) := by decide +kernel
set_option maxRecDepth 20000 in
theorem ggX4_idle_X4_freshTrial : GoodIn wsX4_idle wsX4_freshTrial := goodIn_r _ [5, 6, 7, 8, 9, 10, 11, 12, 13, 14, 15, 16, 17, 18, 19, 20, 21, 22, 4, 23, 24, 25, 26, 27, 28, 29, 30, 31, 79, 80, 81, 82, 83, 84, 85, 86, 87, 88, 89, 90, 91, 92, 93] rfl (by decide +kernel)
set_option maxRecDepth 20000 in
theorem gX4_idle_X4_freshTrial : GoodIn wsX4_idle (wsV RX4 58 RX4 yX4_freshTrial wsX4_freshTrial) := goodIn_app (goodIn_of _ (by decide +kernel)) ggX4_idle_X4_freshTrial
set_option maxRecDepth 20000 in
theorem ggX4_idle_X0_waitFor : GoodIn wsX4_idle wsX0_waitFor := goodIn_r _ [35, 21, 36, 37, 38, 11, 39, 40, 20, 41, 42, 43, 44, 45, 46, 47, 48, 85, 86, 87, 88, 89, 90, 91, 92, 93] rfl (by decide +kernel)
set_option maxRecDepth 20000 in
theorem gX4_idle_X0_waitFor : GoodIn wsX4_idle (wsV RX4 92 RX0 yX0_waitFor wsX0_waitFor) := goodIn_app (goodIn_of _ (by decide +kernel)) ggX4_idle_X0_waitFor
set_option maxRecDepth 20000 in
theorem ggX4_idle_X4_adopt : GoodIn wsX4_idle wsX4_adopt := goodIn_r _ [52, 53, 7, 6, 54, 55, 11, 56, 57, 58, 59, 60, 61, 62, 63, 64, 65, 66, 67, 68, 69, 70, 71, 72, 73, 74, 13, 14, 15, 16, 17, 18, 19, 20, 21, 22, 4, 23, 24, 25, 26, 27, 28, 29, 30, 31, 75, 76, 77, 78, 79, 80, 81, 82, 83, 84, 85, 86, 87, 88, 89, 90, 91, 92, 93, 94, 95, 96] rfl (by decide +kernel)
set_option maxRecDepth 20000 in
theorem gX4_idle_X4_adopt : GoodIn wsX4_idle (wsV RX4 66 RX4 yX4_adopt wsX4_adopt) := goodIn_app (goodIn_of _ (by decide +kernel)) ggX4_idle_X4_adopt
theorem dX4_idle_0 : decode cX4_idle 0 = .ok (.iload_n 1, 1) := by decide +kernel
theorem dX4_idle_1 : decode cX4_idle 1 = .ok (.iconst 1, 1) := by decide +kernel
theorem dX4_idle_2 : decode cX4_idle 2 = .ok (.if_icmp .lt 10, 3) := by decide +kernel
theorem dX4_idle_5 : decode cX4_idle 5 = .ok (.iload_n 1, 1) := by decide +kernel
theorem dX4_idle_6 : decode cX4_idle 6 = .ok (.sipush 9999, 3) := by decide +kernel
theorem dX4_idle_9 : decode cX4_idle 9 = .ok (.if_icmp .le 6, 3) := by decide +kernel
theorem dX4_idle_12 : decode cX4_idle 12 = .ok (.bipush (-2), 2) := by decide +kernel
theorem dX4_idle_14 : decode cX4_idle 14 = .ok (.ireturn, 1) := by decide +kernel
theorem dX4_idle_15 : decode cX4_idle 15 = .ok (.aload_n 0, 1) := by decide +kernel
theorem dX4_idle_16 : decode cX4_idle 16 = .ok (.aload_n 0, 1) := by decide +kernel
theorem dX4_idle_17 : decode cX4_idle 17 = .ok (.invokevirtual 58, 3) := by decide +kernel
theorem dX4_idle_20 : decode cX4_idle 20 = .ok (.iload_n 1, 1) := by decide +kernel
theorem dX4_idle_21 : decode cX4_idle 21 = .ok (.invokevirtual 92, 3) := by decide +kernel
theorem dX4_idle_24 : decode cX4_idle 24 = .ok (.invokevirtual 66, 3) := by decide +kernel
theorem dX4_idle_27 : decode cX4_idle 27 = .ok (.ireturn, 1) := by decide +kernel
set_option maxRecDepth 20000 in
theorem ggX4_run_X3_parse : GoodIn wsX4_run wsX3_parse := goodIn_r _ [7, 8, 9, 10, 11, 12, 13, 14, 15, 16, 17, 18, 19, 20, 21, 22, 6, 23, 24, 25, 26, 27, 28, 29, 30, 31, 32, 33, 34, 35, 36, 37, 38, 39, 40, 41, 42, 43, 44, 45, 46, 47, 48, 49, 50, 51, 52, 53, 54, 227, 228, 229, 230, 231, 232, 233] rfl (by decide +kernel)
set_option maxRecDepth 20000 in
theorem gX4_run_X3_parse : GoodIn wsX4_run (wsV RX4 95 RX3 yX3_parse wsX3_parse) := goodIn_app (goodIn_of _ (by decide +kernel)) ggX4_run_X3_parse
set_option maxRecDepth 20000 in
theorem ggX4_run_X4_freshTrial : GoodIn wsX4_run wsX4_freshTrial := goodIn_r _ [58, 59, 60, 61, 62, 63, 64, 65, 66, 67, 68, 69, 70, 71, 72, 73, 74, 75, 18, 76, 77, 78, 79, 80, 81, 82, 83, 84, 221, 222, 223, 224, 225, 226, 234, 235, 236, 237, 238, 239, 240, 241, 242] rfl (by decide +kernel)
set_option maxRecDepth 20000 in
theorem gX4_run_X4_freshTrial : GoodIn wsX4_run (wsV RX4 58 RX4 yX4_freshTrial wsX4_freshTrial) := goodIn_app (goodIn_of _ (by decide +kernel)) ggX4_run_X4_freshTrial
set_option maxRecDepth 20000 in
theorem ggX4_run_X3_doOn : GoodIn wsX4_run wsX3_doOn := goodIn_r _ [88, 8, 89, 90, 91, 92, 6, 93, 24, 17, 18, 19, 94, 95, 96, 64, 97, 70, 98, 99, 30, 31, 100, 101, 102, 103, 25, 47, 48, 49, 50, 104, 105, 106, 107, 108, 109, 110, 111, 71, 112, 113, 114, 115, 116, 69, 117, 118, 119, 120, 66, 121, 122, 123, 124, 125, 126, 127, 128, 73, 129, 130, 131, 132, 74, 133, 134, 79, 135, 136, 137, 138, 139, 140, 141, 142, 143, 144, 145, 146, 147, 148, 67, 68, 149, 150, 151, 152, 153, 154, 155, 78, 80, 156, 157, 158, 159, 160, 161, 162, 163, 164, 165, 166, 167, 168, 169, 170, 171, 172, 173, 174, 175, 176, 177, 72, 178, 179, 180, 181, 182, 183, 184, 185, 227, 228, 229, 230, 231, 234, 235, 236, 237, 238, 239, 240, 241, 242] rfl (by decide +kernel)
set_option maxRecDepth 20000 in
theorem gX4_run_X3_doOn : GoodIn wsX4_run (wsV RX4 99 RX3 yX3_doOn wsX3_doOn) := goodIn_app (goodIn_of _ (by decide +kernel)) ggX4_run_X3_doOn
set_option maxRecDepth 20000 in
theorem ggX4_run_X2_clear : GoodIn wsX4_run wsX2_clear := goodIn_r _ [189, 190, 232, 233] rfl (by decide +kernel)
set_option maxRecDepth 20000 in
theorem gX4_run_X2_clear : GoodIn wsX4_run (wsV RX4 103 RX2 yX2_clear wsX2_clear) := goodIn_app (goodIn_of _ (by decide +kernel)) ggX4_run_X2_clear
set_option maxRecDepth 20000 in
theorem ggX4_run_X4_adopt : GoodIn wsX4_run wsX4_adopt := goodIn_r _ [194, 195, 60, 59, 196, 197, 64, 198, 199, 200, 201, 202, 203, 204, 205, 206, 207, 208, 209, 210, 211, 212, 213, 214, 215, 216, 66, 67, 68, 69, 70, 71, 72, 73, 74, 75, 18, 76, 77, 78, 79, 80, 81, 82, 83, 84, 217, 218, 219, 220, 221, 222, 223, 224, 225, 226, 234, 235, 236, 237, 238, 239, 240, 241, 242, 243, 244, 245] rfl (by decide +kernel)
set_option maxRecDepth 20000 in
theorem gX4_run_X4_adopt : GoodIn wsX4_run (wsV RX4 66 RX4 yX4_adopt wsX4_adopt) := goodIn_app (goodIn_of _ (by decide +kernel)) ggX4_run_X4_adopt
theorem dX4_run_0 : decode cX4_run 0 = .ok (.aload_n 0, 1) := by decide +kernel
theorem dX4_run_1 : decode cX4_run 1 = .ok (.getfield 29, 3) := by decide +kernel
theorem dX4_run_4 : decode cX4_run 4 = .ok (.aload_n 0, 1) := by decide +kernel
theorem dX4_run_5 : decode cX4_run 5 = .ok (.getfield 22, 3) := by decide +kernel
theorem dX4_run_8 : decode cX4_run 8 = .ok (.invokevirtual 95, 3) := by decide +kernel
theorem dX4_run_11 : decode cX4_run 11 = .ok (.bipush (-6), 2) := by decide +kernel
theorem dX4_run_13 : decode cX4_run 13 = .ok (.if_icmp .eq 6, 3) := by decide +kernel
theorem dX4_run_16 : decode cX4_run 16 = .ok (.bipush (-3), 2) := by decide +kernel
theorem dX4_run_18 : decode cX4_run 18 = .ok (.ireturn, 1) := by decide +kernel
theorem dX4_run_19 : decode cX4_run 19 = .ok (.aload_n 0, 1) := by decide +kernel
theorem dX4_run_20 : decode cX4_run 20 = .ok (.getfield 29, 3) := by decide +kernel
theorem dX4_run_23 : decode cX4_run 23 = .ok (.aload_n 0, 1) := by decide +kernel
theorem dX4_run_24 : decode cX4_run 24 = .ok (.invokevirtual 58, 3) := by decide +kernel
theorem dX4_run_27 : decode cX4_run 27 = .ok (.iload_n 1, 1) := by decide +kernel
theorem dX4_run_28 : decode cX4_run 28 = .ok (.invokevirtual 99, 3) := by decide +kernel
theorem dX4_run_31 : decode cX4_run 31 = .ok (.istore_n 2, 1) := by decide +kernel
theorem dX4_run_32 : decode cX4_run 32 = .ok (.aload_n 0, 1) := by decide +kernel
theorem dX4_run_33 : decode cX4_run 33 = .ok (.getfield 22, 3) := by decide +kernel
theorem dX4_run_36 : decode cX4_run 36 = .ok (.invokevirtual 103, 3) := by decide +kernel
theorem dX4_run_39 : decode cX4_run 39 = .ok (.aload_n 0, 1) := by decide +kernel
theorem dX4_run_40 : decode cX4_run 40 = .ok (.iload_n 2, 1) := by decide +kernel
theorem dX4_run_41 : decode cX4_run 41 = .ok (.invokevirtual 66, 3) := by decide +kernel
theorem dX4_run_44 : decode cX4_run 44 = .ok (.ireturn, 1) := by decide +kernel
set_option maxRecDepth 20000 in
theorem ggX4_sector_X4_isAddress : GoodIn wsX4_sector wsX4_isAddress := goodIn_r _ [5] rfl (by decide +kernel)
set_option maxRecDepth 20000 in
theorem gX4_sector_X4_isAddress : GoodIn wsX4_sector (va_wsS RX4 70 yX4_isAddress wsX4_isAddress) := goodIn_app (goodIn_of _ (by decide +kernel)) ggX4_sector_X4_isAddress
set_option maxRecDepth 20000 in
theorem ggX4_sector_X0_sectorFor : GoodIn wsX4_sector wsX0_sectorFor := goodIn_r _ [10, 11, 12, 4, 13, 55, 56, 57, 58, 59, 60, 61, 62, 63] rfl (by decide +kernel)
set_option maxRecDepth 20000 in
theorem gX4_sector_X0_sectorFor : GoodIn wsX4_sector (wsV RX4 80 RX0 yX0_sectorFor wsX0_sectorFor) := goodIn_app (goodIn_of _ (by decide +kernel)) ggX4_sector_X0_sectorFor
set_option maxRecDepth 20000 in
theorem ggX4_sector_X4_trackOf : GoodIn wsX4_sector wsX4_trackOf := goodIn_r _ [16] rfl (by decide +kernel)
set_option maxRecDepth 20000 in
theorem gX4_sector_X4_trackOf : GoodIn wsX4_sector (va_wsS RX4 106 yX4_trackOf wsX4_trackOf) := goodIn_app (goodIn_of _ (by decide +kernel)) ggX4_sector_X4_trackOf
set_option maxRecDepth 20000 in
theorem ggX4_sector_X0_numberIn : GoodIn wsX4_sector wsX0_numberIn := goodIn_r _ [20, 21, 12, 4, 13, 55, 56, 57, 58, 59, 60, 61, 62, 63] rfl (by decide +kernel)
set_option maxRecDepth 20000 in
theorem gX4_sector_X0_numberIn : GoodIn wsX4_sector (wsV RX4 109 RX0 yX0_numberIn wsX0_numberIn) := goodIn_app (goodIn_of _ (by decide +kernel)) ggX4_sector_X0_numberIn
set_option maxRecDepth 20000 in
theorem ggX4_sector_X0_blurOf : GoodIn wsX4_sector wsX0_blurOf := goodIn_r _ [25, 26, 12, 4, 13, 55, 56, 57, 58, 59, 60, 61, 62, 63] rfl (by decide +kernel)
set_option maxRecDepth 20000 in
theorem gX4_sector_X0_blurOf : GoodIn wsX4_sector (wsV RX4 83 RX0 yX0_blurOf wsX0_blurOf) := goodIn_app (goodIn_of _ (by decide +kernel)) ggX4_sector_X0_blurOf
set_option maxRecDepth 20000 in
theorem ggX4_sector_X0_writingsOf : GoodIn wsX4_sector wsX0_writingsOf := goodIn_r _ [30, 31, 12, 4, 13, 55, 56, 57, 58, 59, 60, 61, 62, 63] rfl (by decide +kernel)
set_option maxRecDepth 20000 in
theorem gX4_sector_X0_writingsOf : GoodIn wsX4_sector (wsV RX4 112 RX0 yX0_writingsOf wsX0_writingsOf) := goodIn_app (goodIn_of _ (by decide +kernel)) ggX4_sector_X0_writingsOf
set_option maxRecDepth 20000 in
theorem ggX4_sector_X4_isSpare : GoodIn wsX4_sector wsX4_isSpare := goodIn_r _ [34] rfl (by decide +kernel)
set_option maxRecDepth 20000 in
theorem gX4_sector_X4_isSpare : GoodIn wsX4_sector (va_wsS RX4 115 yX4_isSpare wsX4_isSpare) := goodIn_app (goodIn_of _ (by decide +kernel)) ggX4_sector_X4_isSpare
set_option maxRecDepth 20000 in
theorem ggX4_sector_X0_isReadable : GoodIn wsX4_sector wsX0_isReadable := goodIn_r _ [38, 39, 40, 41, 9, 42, 21, 12, 4, 13, 43, 23, 24, 25, 26, 44, 45, 46, 47, 48, 55, 56, 57, 58, 59, 60, 61, 62, 63] rfl (by decide +kernel)
set_option maxRecDepth 20000 in
theorem gX4_sector_X0_isReadable : GoodIn wsX4_sector (wsV RX4 118 RX0 yX0_isReadable wsX0_isReadable) := goodIn_app (goodIn_of _ (by decide +kernel)) ggX4_sector_X0_isReadable
theorem dX4_sector_0 : decode cX4_sector 0 = .ok (.iload_n 1, 1) := by decide +kernel
theorem dX4_sector_1 : decode cX4_sector 1 = .ok (.invokestatic 70, 3) := by decide +kernel
theorem dX4_sector_4 : decode cX4_sector 4 = .ok (.ifCond .ne 5, 3) := by decide +kernel
theorem dX4_sector_7 : decode cX4_sector 7 = .ok (.iconst (-1), 1) := by decide +kernel
theorem dX4_sector_8 : decode cX4_sector 8 = .ok (.ireturn, 1) := by decide +kernel
theorem dX4_sector_9 : decode cX4_sector 9 = .ok (.aload_n 0, 1) := by decide +kernel
theorem dX4_sector_10 : decode cX4_sector 10 = .ok (.getfield 12, 3) := by decide +kernel
theorem dX4_sector_13 : decode cX4_sector 13 = .ok (.iload_n 1, 1) := by decide +kernel
theorem dX4_sector_14 : decode cX4_sector 14 = .ok (.invokevirtual 80, 3) := by decide +kernel
theorem dX4_sector_17 : decode cX4_sector 17 = .ok (.istore_n 3, 1) := by decide +kernel
theorem dX4_sector_18 : decode cX4_sector 18 = .ok (.iload_n 2, 1) := by decide +kernel
theorem dX4_sector_19 : decode cX4_sector 19 = .ok (.tableswitch 108 0 6 #[41, 46, 51, 60, 69, 78, 91], 41) := by decide +kernel
theorem dX4_sector_60 : decode cX4_sector 60 = .ok (.iload_n 3, 1) := by decide +kernel
theorem dX4_sector_61 : decode cX4_sector 61 = .ok (.invokestatic 106, 3) := by decide +kernel
theorem dX4_sector_64 : decode cX4_sector 64 = .ok (.ireturn, 1) := by decide +kernel
theorem dX4_sector_65 : decode cX4_sector 65 = .ok (.iload_n 3, 1) := by decide +kernel
theorem dX4_sector_66 : decode cX4_sector 66 = .ok (.bipush 12, 2) := by decide +kernel
theorem dX4_sector_68 : decode cX4_sector 68 = .ok (.irem, 1) := by decide +kernel
theorem dX4_sector_69 : decode cX4_sector 69 = .ok (.ireturn, 1) := by decide +kernel
theorem dX4_sector_70 : decode cX4_sector 70 = .ok (.aload_n 0, 1) := by decide +kernel
theorem dX4_sector_71 : decode cX4_sector 71 = .ok (.getfield 12, 3) := by decide +kernel
theorem dX4_sector_74 : decode cX4_sector 74 = .ok (.iload_n 3, 1) := by decide +kernel
theorem dX4_sector_75 : decode cX4_sector 75 = .ok (.invokevirtual 109, 3) := by decide +kernel
theorem dX4_sector_78 : decode cX4_sector 78 = .ok (.ireturn, 1) := by decide +kernel
theorem dX4_sector_79 : decode cX4_sector 79 = .ok (.aload_n 0, 1) := by decide +kernel
theorem dX4_sector_80 : decode cX4_sector 80 = .ok (.getfield 12, 3) := by decide +kernel
theorem dX4_sector_83 : decode cX4_sector 83 = .ok (.iload_n 3, 1) := by decide +kernel
theorem dX4_sector_84 : decode cX4_sector 84 = .ok (.invokevirtual 83, 3) := by decide +kernel
theorem dX4_sector_87 : decode cX4_sector 87 = .ok (.ireturn, 1) := by decide +kernel
theorem dX4_sector_88 : decode cX4_sector 88 = .ok (.aload_n 0, 1) := by decide +kernel
theorem dX4_sector_89 : decode cX4_sector 89 = .ok (.getfield 12, 3) := by decide +kernel
theorem dX4_sector_92 : decode cX4_sector 92 = .ok (.iload_n 3, 1) := by decide +kernel
theorem dX4_sector_93 : decode cX4_sector 93 = .ok (.invokevirtual 112, 3) := by decide +kernel
theorem dX4_sector_96 : decode cX4_sector 96 = .ok (.ireturn, 1) := by decide +kernel
theorem dX4_sector_97 : decode cX4_sector 97 = .ok (.iload_n 3, 1) := by decide +kernel
theorem dX4_sector_98 : decode cX4_sector 98 = .ok (.invokestatic 115, 3) := by decide +kernel
theorem dX4_sector_101 : decode cX4_sector 101 = .ok (.ifCond .eq 7, 3) := by decide +kernel
theorem dX4_sector_104 : decode cX4_sector 104 = .ok (.iconst 1, 1) := by decide +kernel
theorem dX4_sector_105 : decode cX4_sector 105 = .ok (.goto 4, 3) := by decide +kernel
theorem dX4_sector_108 : decode cX4_sector 108 = .ok (.iconst 0, 1) := by decide +kernel
theorem dX4_sector_109 : decode cX4_sector 109 = .ok (.ireturn, 1) := by decide +kernel
theorem dX4_sector_110 : decode cX4_sector 110 = .ok (.aload_n 0, 1) := by decide +kernel
theorem dX4_sector_111 : decode cX4_sector 111 = .ok (.getfield 12, 3) := by decide +kernel
theorem dX4_sector_114 : decode cX4_sector 114 = .ok (.iload_n 3, 1) := by decide +kernel
theorem dX4_sector_115 : decode cX4_sector 115 = .ok (.invokevirtual 118, 3) := by decide +kernel
theorem dX4_sector_118 : decode cX4_sector 118 = .ok (.ifCond .eq 7, 3) := by decide +kernel
theorem dX4_sector_121 : decode cX4_sector 121 = .ok (.iconst 1, 1) := by decide +kernel
theorem dX4_sector_122 : decode cX4_sector 122 = .ok (.goto 4, 3) := by decide +kernel
theorem dX4_sector_125 : decode cX4_sector 125 = .ok (.iconst 0, 1) := by decide +kernel
theorem dX4_sector_126 : decode cX4_sector 126 = .ok (.ireturn, 1) := by decide +kernel
theorem dX4_sector_127 : decode cX4_sector 127 = .ok (.bipush (-2), 2) := by decide +kernel
theorem dX4_sector_129 : decode cX4_sector 129 = .ok (.ireturn, 1) := by decide +kernel
set_option maxRecDepth 20000 in
theorem ggX4_track_X4_isTrack : GoodIn wsX4_track wsX4_isTrack := goodIn_r _ [5] rfl (by decide +kernel)
set_option maxRecDepth 20000 in
theorem gX4_track_X4_isTrack : GoodIn wsX4_track (va_wsS RX4 86 yX4_isTrack wsX4_isTrack) := goodIn_app (goodIn_of _ (by decide +kernel)) ggX4_track_X4_isTrack
set_option maxRecDepth 20000 in
theorem ggX4_track_X0_filledOn : GoodIn wsX4_track wsX0_filledOn := goodIn_r _ [10, 11, 12, 13, 9, 14, 15, 16, 4, 17, 18, 19, 20, 21, 22, 23, 24, 25, 26, 27, 64, 65, 66, 67, 68, 69, 70, 71, 72] rfl (by decide +kernel)
set_option maxRecDepth 20000 in
theorem gX4_track_X0_filledOn : GoodIn wsX4_track (wsV RX4 121 RX0 yX0_filledOn wsX0_filledOn) := goodIn_app (goodIn_of _ (by decide +kernel)) ggX4_track_X0_filledOn
set_option maxRecDepth 20000 in
theorem ggX4_track_X0_unreadableOn : GoodIn wsX4_track wsX0_unreadableOn := goodIn_r _ [31, 11, 12, 13, 9, 14, 15, 16, 4, 17, 18, 19, 20, 21, 22, 23, 24, 25, 26, 27, 32, 33, 34, 35, 36, 37, 38, 39, 40, 41, 42, 43, 44, 45, 64, 65, 66, 67, 68, 69, 70, 71, 72] rfl (by decide +kernel)
set_option maxRecDepth 20000 in
theorem gX4_track_X0_unreadableOn : GoodIn wsX4_track (wsV RX4 124 RX0 yX0_unreadableOn wsX0_unreadableOn) := goodIn_app (goodIn_of _ (by decide +kernel)) ggX4_track_X0_unreadableOn
set_option maxRecDepth 20000 in
theorem ggX4_track_X0_blurOnTrack : GoodIn wsX4_track wsX0_blurOnTrack := goodIn_r _ [49, 40, 50, 51, 9, 52, 16, 4, 17, 64, 65, 66, 67, 68, 69, 70, 71, 72] rfl (by decide +kernel)
set_option maxRecDepth 20000 in
theorem gX4_track_X0_blurOnTrack : GoodIn wsX4_track (wsV RX4 127 RX0 yX0_blurOnTrack wsX0_blurOnTrack) := goodIn_app (goodIn_of _ (by decide +kernel)) ggX4_track_X0_blurOnTrack
set_option maxRecDepth 20000 in
theorem ggX4_track_X0_writingsOnTrack : GoodIn wsX4_track wsX0_writingsOnTrack := goodIn_r _ [56, 57, 50, 51, 9, 52, 16, 4, 17, 64, 65, 66, 67, 68, 69, 70, 71, 72] rfl (by decide +kernel)
set_option maxRecDepth 20000 in
theorem gX4_track_X0_writingsOnTrack : GoodIn wsX4_track (wsV RX4 130 RX0 yX0_writingsOnTrack wsX0_writingsOnTrack) := goodIn_app (goodIn_of _ (by decide +kernel)) ggX4_track_X0_writingsOnTrack
theorem dX4_track_0 : decode cX4_track 0 = .ok (.iload_n 1, 1) := by decide +kernel
theorem dX4_track_1 : decode cX4_track 1 = .ok (.invokestatic 86, 3) := by decide +kernel
theorem dX4_track_4 : decode cX4_track 4 = .ok (.ifCond .ne 5, 3) := by decide +kernel
theorem dX4_track_7 : decode cX4_track 7 = .ok (.iconst (-1), 1) := by decide +kernel
theorem dX4_track_8 : decode cX4_track 8 = .ok (.ireturn, 1) := by decide +kernel
theorem dX4_track_9 : decode cX4_track 9 = .ok (.iload_n 2, 1) := by decide +kernel
theorem dX4_track_10 : decode cX4_track 10 = .ok (.tableswitch 68 0 3 #[30, 40, 50, 59], 30) := by decide +kernel
theorem dX4_track_40 : decode cX4_track 40 = .ok (.aload_n 0, 1) := by decide +kernel
theorem dX4_track_41 : decode cX4_track 41 = .ok (.getfield 12, 3) := by decide +kernel
theorem dX4_track_44 : decode cX4_track 44 = .ok (.iload_n 1, 1) := by decide +kernel
theorem dX4_track_45 : decode cX4_track 45 = .ok (.iload_n 1, 1) := by decide +kernel
theorem dX4_track_46 : decode cX4_track 46 = .ok (.invokevirtual 121, 3) := by decide +kernel
theorem dX4_track_49 : decode cX4_track 49 = .ok (.ireturn, 1) := by decide +kernel
theorem dX4_track_50 : decode cX4_track 50 = .ok (.aload_n 0, 1) := by decide +kernel
theorem dX4_track_51 : decode cX4_track 51 = .ok (.getfield 12, 3) := by decide +kernel
theorem dX4_track_54 : decode cX4_track 54 = .ok (.iload_n 1, 1) := by decide +kernel
theorem dX4_track_55 : decode cX4_track 55 = .ok (.iload_n 1, 1) := by decide +kernel
theorem dX4_track_56 : decode cX4_track 56 = .ok (.invokevirtual 124, 3) := by decide +kernel
theorem dX4_track_59 : decode cX4_track 59 = .ok (.ireturn, 1) := by decide +kernel
theorem dX4_track_60 : decode cX4_track 60 = .ok (.aload_n 0, 1) := by decide +kernel
theorem dX4_track_61 : decode cX4_track 61 = .ok (.getfield 12, 3) := by decide +kernel
theorem dX4_track_64 : decode cX4_track 64 = .ok (.iload_n 1, 1) := by decide +kernel
theorem dX4_track_65 : decode cX4_track 65 = .ok (.invokevirtual 127, 3) := by decide +kernel
theorem dX4_track_68 : decode cX4_track 68 = .ok (.ireturn, 1) := by decide +kernel
theorem dX4_track_69 : decode cX4_track 69 = .ok (.aload_n 0, 1) := by decide +kernel
theorem dX4_track_70 : decode cX4_track 70 = .ok (.getfield 12, 3) := by decide +kernel
theorem dX4_track_73 : decode cX4_track 73 = .ok (.iload_n 1, 1) := by decide +kernel
theorem dX4_track_74 : decode cX4_track 74 = .ok (.invokevirtual 130, 3) := by decide +kernel
theorem dX4_track_77 : decode cX4_track 77 = .ok (.ireturn, 1) := by decide +kernel
theorem dX4_track_78 : decode cX4_track 78 = .ok (.bipush (-2), 2) := by decide +kernel
theorem dX4_track_80 : decode cX4_track 80 = .ok (.ireturn, 1) := by decide +kernel
set_option maxRecDepth 20000 in
theorem ggX4_count_X0_settingOf : GoodIn wsX4_count wsX0_settingOf := goodIn_r _ [14, 15, 16, 17, 18, 89, 90, 91, 92, 93, 94, 95, 96, 97] rfl (by decide +kernel)
set_option maxRecDepth 20000 in
theorem gX4_count_X0_settingOf : GoodIn wsX4_count (wsV RX4 133 RX0 yX0_settingOf wsX0_settingOf) := goodIn_app (goodIn_of _ (by decide +kernel)) ggX4_count_X0_settingOf
set_option maxRecDepth 20000 in
theorem ggX4_count_X0_sectorUnderHead : GoodIn wsX4_count wsX0_sectorUnderHead := goodIn_r _ [22, 23, 89, 90, 91, 92, 93, 94, 95, 96, 97] rfl (by decide +kernel)
set_option maxRecDepth 20000 in
theorem gX4_count_X0_sectorUnderHead : GoodIn wsX4_count (wsV RX4 143 RX0 yX0_sectorUnderHead wsX0_sectorUnderHead) := goodIn_app (goodIn_of _ (by decide +kernel)) ggX4_count_X0_sectorUnderHead
set_option maxRecDepth 20000 in
theorem ggX4_count_X0_sparesLeft : GoodIn wsX4_count wsX0_sparesLeft := goodIn_r _ [27, 28, 89, 90, 91, 92, 93, 94, 95, 96, 97] rfl (by decide +kernel)
set_option maxRecDepth 20000 in
theorem gX4_count_X0_sparesLeft : GoodIn wsX4_count (wsV RX4 147 RX0 yX0_sparesLeft wsX0_sparesLeft) := goodIn_app (goodIn_of _ (by decide +kernel)) ggX4_count_X0_sparesLeft
set_option maxRecDepth 20000 in
theorem ggX4_count_X0_filledOn : GoodIn wsX4_count wsX0_filledOn := goodIn_r _ [32, 33, 34, 35, 13, 36, 37, 16, 17, 18, 38, 39, 40, 41, 42, 43, 44, 45, 46, 47, 89, 90, 91, 92, 93, 94, 95, 96, 97] rfl (by decide +kernel)
set_option maxRecDepth 20000 in
theorem gX4_count_X0_filledOn : GoodIn wsX4_count (wsV RX4 121 RX0 yX0_filledOn wsX0_filledOn) := goodIn_app (goodIn_of _ (by decide +kernel)) ggX4_count_X0_filledOn
set_option maxRecDepth 20000 in
theorem ggX4_count_X0_unreadableOn : GoodIn wsX4_count wsX0_unreadableOn := goodIn_r _ [51, 33, 34, 35, 13, 36, 37, 16, 17, 18, 38, 39, 40, 41, 42, 43, 44, 45, 46, 47, 52, 53, 54, 55, 56, 57, 58, 59, 60, 61, 11, 12, 14, 15, 89, 90, 91, 92, 93, 94, 95, 96, 97] rfl (by decide +kernel)
set_option maxRecDepth 20000 in
theorem gX4_count_X0_unreadableOn : GoodIn wsX4_count (wsV RX4 124 RX0 yX0_unreadableOn wsX0_unreadableOn) := goodIn_app (goodIn_of _ (by decide +kernel)) ggX4_count_X0_unreadableOn
set_option maxRecDepth 20000 in
theorem ggX4_count_X0_writingsOnTracks : GoodIn wsX4_count wsX0_writingsOnTracks := goodIn_r _ [65, 66, 67, 68, 13, 69, 70, 71, 72, 73, 16, 17, 18, 89, 90, 91, 92, 93, 94, 95, 96, 97] rfl (by decide +kernel)
set_option maxRecDepth 20000 in
theorem gX4_count_X0_writingsOnTracks : GoodIn wsX4_count (wsV RX4 150 RX0 yX0_writingsOnTracks wsX0_writingsOnTracks) := goodIn_app (goodIn_of _ (by decide +kernel)) ggX4_count_X0_writingsOnTracks
set_option maxRecDepth 20000 in
theorem ggX4_count_X0_writingsOnTrack : GoodIn wsX4_count wsX0_writingsOnTrack := goodIn_r _ [69, 70, 71, 72, 13, 73, 16, 17, 18, 89, 90, 91, 92, 93, 94, 95, 96, 97] rfl (by decide +kernel)
set_option maxRecDepth 20000 in
theorem gX4_count_X0_writingsOnTrack : GoodIn wsX4_count (wsV RX4 130 RX0 yX0_writingsOnTrack wsX0_writingsOnTrack) := goodIn_app (goodIn_of _ (by decide +kernel)) ggX4_count_X0_writingsOnTrack
set_option maxRecDepth 20000 in
theorem ggX4_count_X0_greatestBlur : GoodIn wsX4_count wsX0_greatestBlur := goodIn_r _ [78, 79, 80, 81, 82, 33, 34, 35, 13, 36, 37, 16, 17, 18, 56, 57, 58, 59, 60, 89, 90, 91, 92, 93, 94, 95, 96, 97] rfl (by decide +kernel)
set_option maxRecDepth 20000 in
theorem gX4_count_X0_greatestBlur : GoodIn wsX4_count (wsV RX4 156 RX0 yX0_greatestBlur wsX0_greatestBlur) := goodIn_app (goodIn_of _ (by decide +kernel)) ggX4_count_X0_greatestBlur
theorem dX4_count_0 : decode cX4_count 0 = .ok (.iload_n 1, 1) := by decide +kernel
theorem dX4_count_1 : decode cX4_count 1 = .ok (.ifCond .lt 20, 3) := by decide +kernel
theorem dX4_count_4 : decode cX4_count 4 = .ok (.iload_n 1, 1) := by decide +kernel
theorem dX4_count_5 : decode cX4_count 5 = .ok (.getstatic 44, 3) := by decide +kernel
theorem dX4_count_8 : decode cX4_count 8 = .ok (.arraylength, 1) := by decide +kernel
theorem dX4_count_9 : decode cX4_count 9 = .ok (.if_icmp .ge 12, 3) := by decide +kernel
theorem dX4_count_12 : decode cX4_count 12 = .ok (.aload_n 0, 1) := by decide +kernel
theorem dX4_count_13 : decode cX4_count 13 = .ok (.getfield 12, 3) := by decide +kernel
theorem dX4_count_16 : decode cX4_count 16 = .ok (.iload_n 1, 1) := by decide +kernel
theorem dX4_count_17 : decode cX4_count 17 = .ok (.invokevirtual 133, 3) := by decide +kernel
theorem dX4_count_20 : decode cX4_count 20 = .ok (.ireturn, 1) := by decide +kernel
theorem dX4_count_21 : decode cX4_count 21 = .ok (.iload_n 1, 1) := by decide +kernel
theorem dX4_count_22 : decode cX4_count 22 = .ok (.tableswitch 192 5 17 #[66, 74, 82, 90, 98, 109, 120, 140, 148, 158, 168, 176, 184], 66) := by decide +kernel
theorem dX4_count_88 : decode cX4_count 88 = .ok (.aload_n 0, 1) := by decide +kernel
theorem dX4_count_89 : decode cX4_count 89 = .ok (.getfield 12, 3) := by decide +kernel
theorem dX4_count_92 : decode cX4_count 92 = .ok (.getfield 136, 3) := by decide +kernel
theorem dX4_count_95 : decode cX4_count 95 = .ok (.ireturn, 1) := by decide +kernel
theorem dX4_count_96 : decode cX4_count 96 = .ok (.aload_n 0, 1) := by decide +kernel
theorem dX4_count_97 : decode cX4_count 97 = .ok (.getfield 12, 3) := by decide +kernel
theorem dX4_count_100 : decode cX4_count 100 = .ok (.getfield 140, 3) := by decide +kernel
theorem dX4_count_103 : decode cX4_count 103 = .ok (.ireturn, 1) := by decide +kernel
theorem dX4_count_104 : decode cX4_count 104 = .ok (.aload_n 0, 1) := by decide +kernel
theorem dX4_count_105 : decode cX4_count 105 = .ok (.getfield 12, 3) := by decide +kernel
theorem dX4_count_108 : decode cX4_count 108 = .ok (.invokevirtual 143, 3) := by decide +kernel
theorem dX4_count_111 : decode cX4_count 111 = .ok (.ireturn, 1) := by decide +kernel
theorem dX4_count_112 : decode cX4_count 112 = .ok (.aload_n 0, 1) := by decide +kernel
theorem dX4_count_113 : decode cX4_count 113 = .ok (.getfield 12, 3) := by decide +kernel
theorem dX4_count_116 : decode cX4_count 116 = .ok (.invokevirtual 147, 3) := by decide +kernel
theorem dX4_count_119 : decode cX4_count 119 = .ok (.ireturn, 1) := by decide +kernel
theorem dX4_count_120 : decode cX4_count 120 = .ok (.aload_n 0, 1) := by decide +kernel
theorem dX4_count_121 : decode cX4_count 121 = .ok (.getfield 12, 3) := by decide +kernel
theorem dX4_count_124 : decode cX4_count 124 = .ok (.iconst 0, 1) := by decide +kernel
theorem dX4_count_125 : decode cX4_count 125 = .ok (.bipush 16, 2) := by decide +kernel
theorem dX4_count_127 : decode cX4_count 127 = .ok (.invokevirtual 121, 3) := by decide +kernel
theorem dX4_count_130 : decode cX4_count 130 = .ok (.ireturn, 1) := by decide +kernel
theorem dX4_count_131 : decode cX4_count 131 = .ok (.aload_n 0, 1) := by decide +kernel
theorem dX4_count_132 : decode cX4_count 132 = .ok (.getfield 12, 3) := by decide +kernel
theorem dX4_count_135 : decode cX4_count 135 = .ok (.iconst 0, 1) := by decide +kernel
theorem dX4_count_136 : decode cX4_count 136 = .ok (.bipush 16, 2) := by decide +kernel
theorem dX4_count_138 : decode cX4_count 138 = .ok (.invokevirtual 124, 3) := by decide +kernel
theorem dX4_count_141 : decode cX4_count 141 = .ok (.ireturn, 1) := by decide +kernel
theorem dX4_count_142 : decode cX4_count 142 = .ok (.aload_n 0, 1) := by decide +kernel
theorem dX4_count_143 : decode cX4_count 143 = .ok (.getfield 12, 3) := by decide +kernel
theorem dX4_count_146 : decode cX4_count 146 = .ok (.iconst 0, 1) := by decide +kernel
theorem dX4_count_147 : decode cX4_count 147 = .ok (.iconst 1, 1) := by decide +kernel
theorem dX4_count_148 : decode cX4_count 148 = .ok (.invokevirtual 150, 3) := by decide +kernel
theorem dX4_count_151 : decode cX4_count 151 = .ok (.aload_n 0, 1) := by decide +kernel
theorem dX4_count_152 : decode cX4_count 152 = .ok (.getfield 12, 3) := by decide +kernel
theorem dX4_count_155 : decode cX4_count 155 = .ok (.bipush 16, 2) := by decide +kernel
theorem dX4_count_157 : decode cX4_count 157 = .ok (.invokevirtual 130, 3) := by decide +kernel
theorem dX4_count_160 : decode cX4_count 160 = .ok (.iadd, 1) := by decide +kernel
theorem dX4_count_161 : decode cX4_count 161 = .ok (.ireturn, 1) := by decide +kernel
theorem dX4_count_162 : decode cX4_count 162 = .ok (.aload_n 0, 1) := by decide +kernel
theorem dX4_count_163 : decode cX4_count 163 = .ok (.getfield 12, 3) := by decide +kernel
theorem dX4_count_166 : decode cX4_count 166 = .ok (.getfield 153, 3) := by decide +kernel
theorem dX4_count_169 : decode cX4_count 169 = .ok (.ireturn, 1) := by decide +kernel
theorem dX4_count_170 : decode cX4_count 170 = .ok (.aload_n 0, 1) := by decide +kernel
theorem dX4_count_171 : decode cX4_count 171 = .ok (.getfield 12, 3) := by decide +kernel
theorem dX4_count_174 : decode cX4_count 174 = .ok (.iconst 0, 1) := by decide +kernel
theorem dX4_count_175 : decode cX4_count 175 = .ok (.iconst 2, 1) := by decide +kernel
theorem dX4_count_176 : decode cX4_count 176 = .ok (.invokevirtual 150, 3) := by decide +kernel
theorem dX4_count_179 : decode cX4_count 179 = .ok (.ireturn, 1) := by decide +kernel
theorem dX4_count_180 : decode cX4_count 180 = .ok (.aload_n 0, 1) := by decide +kernel
theorem dX4_count_181 : decode cX4_count 181 = .ok (.getfield 12, 3) := by decide +kernel
theorem dX4_count_184 : decode cX4_count 184 = .ok (.iconst 1, 1) := by decide +kernel
theorem dX4_count_185 : decode cX4_count 185 = .ok (.iconst 2, 1) := by decide +kernel
theorem dX4_count_186 : decode cX4_count 186 = .ok (.invokevirtual 150, 3) := by decide +kernel
theorem dX4_count_189 : decode cX4_count 189 = .ok (.ireturn, 1) := by decide +kernel
theorem dX4_count_190 : decode cX4_count 190 = .ok (.aload_n 0, 1) := by decide +kernel
theorem dX4_count_191 : decode cX4_count 191 = .ok (.getfield 12, 3) := by decide +kernel
theorem dX4_count_194 : decode cX4_count 194 = .ok (.invokevirtual 156, 3) := by decide +kernel
theorem dX4_count_197 : decode cX4_count 197 = .ok (.ireturn, 1) := by decide +kernel
theorem dX4_count_198 : decode cX4_count 198 = .ok (.aload_n 0, 1) := by decide +kernel
theorem dX4_count_199 : decode cX4_count 199 = .ok (.getfield 22, 3) := by decide +kernel
theorem dX4_count_202 : decode cX4_count 202 = .ok (.getfield 159, 3) := by decide +kernel
theorem dX4_count_205 : decode cX4_count 205 = .ok (.ireturn, 1) := by decide +kernel
theorem dX4_count_206 : decode cX4_count 206 = .ok (.aload_n 0, 1) := by decide +kernel
theorem dX4_count_207 : decode cX4_count 207 = .ok (.getfield 36, 3) := by decide +kernel
theorem dX4_count_210 : decode cX4_count 210 = .ok (.getfield 162, 3) := by decide +kernel
theorem dX4_count_213 : decode cX4_count 213 = .ok (.ireturn, 1) := by decide +kernel
theorem dX4_count_214 : decode cX4_count 214 = .ok (.bipush (-2), 2) := by decide +kernel
theorem dX4_count_216 : decode cX4_count 216 = .ok (.ireturn, 1) := by decide +kernel
set_option maxRecDepth 20000 in
theorem ggX4_ticksFor_X4_isAddress : GoodIn wsX4_ticksFor wsX4_isAddress := goodIn_r _ [5] rfl (by decide +kernel)
set_option maxRecDepth 20000 in
theorem gX4_ticksFor_X4_isAddress : GoodIn wsX4_ticksFor (va_wsS RX4 70 yX4_isAddress wsX4_isAddress) := goodIn_app (goodIn_of _ (by decide +kernel)) ggX4_ticksFor_X4_isAddress
set_option maxRecDepth 20000 in
theorem ggX4_ticksFor_X0_sectorToWrite : GoodIn wsX4_ticksFor wsX0_sectorToWrite := goodIn_r _ [10, 11, 12, 13, 14, 9, 15, 16, 17, 4, 18, 19, 20, 21, 22, 23, 24, 25, 26, 27, 28, 29, 30, 31, 32, 60, 61, 62, 63, 64, 65, 66, 67, 68] rfl (by decide +kernel)
set_option maxRecDepth 20000 in
theorem gX4_ticksFor_X0_sectorToWrite : GoodIn wsX4_ticksFor (wsV RX4 165 RX0 yX0_sectorToWrite wsX0_sectorToWrite) := goodIn_app (goodIn_of _ (by decide +kernel)) ggX4_ticksFor_X0_sectorToWrite
set_option maxRecDepth 20000 in
theorem ggX4_ticksFor_X0_sectorFor : GoodIn wsX4_ticksFor wsX0_sectorFor := goodIn_r _ [15, 16, 17, 4, 18, 60, 61, 62, 63, 64, 65, 66, 67, 68] rfl (by decide +kernel)
set_option maxRecDepth 20000 in
theorem gX4_ticksFor_X0_sectorFor : GoodIn wsX4_ticksFor (wsV RX4 80 RX0 yX0_sectorFor wsX0_sectorFor) := goodIn_app (goodIn_of _ (by decide +kernel)) ggX4_ticksFor_X0_sectorFor
set_option maxRecDepth 20000 in
theorem ggX4_ticksFor_X0_ticksTo : GoodIn wsX4_ticksFor wsX0_ticksTo := goodIn_r _ [37, 38, 39, 4, 40, 41, 42, 43, 9, 44, 45, 46, 47, 48, 49, 24, 25, 26, 27, 28, 17, 18, 50, 51, 52, 53, 60, 61, 62, 63, 64, 65, 66, 67, 68] rfl (by decide +kernel)
set_option maxRecDepth 20000 in
theorem gX4_ticksFor_X0_ticksTo : GoodIn wsX4_ticksFor (wsV RX4 168 RX0 yX0_ticksTo wsX0_ticksTo) := goodIn_app (goodIn_of _ (by decide +kernel)) ggX4_ticksFor_X0_ticksTo
theorem dX4_ticksFor_0 : decode cX4_ticksFor 0 = .ok (.iload_n 1, 1) := by decide +kernel
theorem dX4_ticksFor_1 : decode cX4_ticksFor 1 = .ok (.invokestatic 70, 3) := by decide +kernel
theorem dX4_ticksFor_4 : decode cX4_ticksFor 4 = .ok (.ifCond .ne 5, 3) := by decide +kernel
theorem dX4_ticksFor_7 : decode cX4_ticksFor 7 = .ok (.iconst (-1), 1) := by decide +kernel
theorem dX4_ticksFor_8 : decode cX4_ticksFor 8 = .ok (.ireturn, 1) := by decide +kernel
theorem dX4_ticksFor_9 : decode cX4_ticksFor 9 = .ok (.aload_n 0, 1) := by decide +kernel
theorem dX4_ticksFor_10 : decode cX4_ticksFor 10 = .ok (.getfield 12, 3) := by decide +kernel
theorem dX4_ticksFor_13 : decode cX4_ticksFor 13 = .ok (.iload_n 2, 1) := by decide +kernel
theorem dX4_ticksFor_14 : decode cX4_ticksFor 14 = .ok (.ifCond .eq 14, 3) := by decide +kernel
theorem dX4_ticksFor_17 : decode cX4_ticksFor 17 = .ok (.aload_n 0, 1) := by decide +kernel
theorem dX4_ticksFor_18 : decode cX4_ticksFor 18 = .ok (.getfield 12, 3) := by decide +kernel
theorem dX4_ticksFor_21 : decode cX4_ticksFor 21 = .ok (.iload_n 1, 1) := by decide +kernel
theorem dX4_ticksFor_22 : decode cX4_ticksFor 22 = .ok (.invokevirtual 165, 3) := by decide +kernel
theorem dX4_ticksFor_25 : decode cX4_ticksFor 25 = .ok (.goto 11, 3) := by decide +kernel
theorem dX4_ticksFor_28 : decode cX4_ticksFor 28 = .ok (.aload_n 0, 1) := by decide +kernel
theorem dX4_ticksFor_29 : decode cX4_ticksFor 29 = .ok (.getfield 12, 3) := by decide +kernel
theorem dX4_ticksFor_32 : decode cX4_ticksFor 32 = .ok (.iload_n 1, 1) := by decide +kernel
theorem dX4_ticksFor_33 : decode cX4_ticksFor 33 = .ok (.invokevirtual 80, 3) := by decide +kernel
theorem dX4_ticksFor_36 : decode cX4_ticksFor 36 = .ok (.invokevirtual 168, 3) := by decide +kernel
theorem dX4_ticksFor_39 : decode cX4_ticksFor 39 = .ok (.ireturn, 1) := by decide +kernel
set_option maxRecDepth 20000 in
theorem ggX4_ifRun_X3_parse : GoodIn wsX4_ifRun wsX3_parse := goodIn_r _ [9, 10, 11, 12, 13, 14, 15, 16, 17, 18, 19, 20, 21, 22, 23, 24, 8, 25, 26, 27, 28, 29, 30, 31, 32, 33, 34, 35, 36, 37, 38, 39, 40, 41, 42, 43, 44, 45, 46, 47, 48, 49, 50, 51, 52, 53, 54, 55, 56, 202, 203, 204, 205, 206, 207, 208] rfl (by decide +kernel)
set_option maxRecDepth 20000 in
theorem gX4_ifRun_X3_parse : GoodIn wsX4_ifRun (wsV RX4 95 RX3 yX3_parse wsX3_parse) := goodIn_app (goodIn_of _ (by decide +kernel)) ggX4_ifRun_X3_parse
set_option maxRecDepth 20000 in
theorem ggX4_ifRun_X4_freshTrial : GoodIn wsX4_ifRun wsX4_freshTrial := goodIn_r _ [60, 61, 4, 62, 63, 64, 65, 66, 67, 68, 69, 70, 71, 72, 73, 74, 75, 76, 20, 77, 78, 79, 80, 81, 82, 83, 84, 85, 187, 188, 189, 190, 191, 192, 193, 194, 195, 196, 197, 198, 199, 200, 201] rfl (by decide +kernel)
set_option maxRecDepth 20000 in
theorem gX4_ifRun_X4_freshTrial : GoodIn wsX4_ifRun (wsV RX4 58 RX4 yX4_freshTrial wsX4_freshTrial) := goodIn_app (goodIn_of _ (by decide +kernel)) ggX4_ifRun_X4_freshTrial
set_option maxRecDepth 20000 in
theorem ggX4_ifRun_X3_doOn : GoodIn wsX4_ifRun wsX3_doOn := goodIn_r _ [89, 10, 90, 91, 92, 93, 8, 94, 26, 19, 20, 21, 95, 96, 97, 65, 98, 71, 99, 100, 32, 33, 101, 102, 103, 104, 27, 49, 50, 51, 52, 105, 106, 107, 108, 109, 110, 111, 112, 72, 113, 114, 115, 116, 117, 70, 118, 119, 120, 121, 67, 122, 123, 124, 125, 126, 127, 128, 129, 74, 130, 131, 132, 133, 75, 134, 135, 80, 136, 137, 138, 139, 140, 141, 142, 143, 144, 145, 146, 147, 148, 149, 68, 69, 150, 151, 152, 153, 154, 155, 156, 79, 81, 157, 158, 159, 160, 161, 162, 163, 164, 165, 166, 167, 168, 169, 170, 171, 172, 173, 174, 175, 176, 177, 178, 73, 179, 180, 181, 182, 183, 184, 185, 186, 202, 203, 204, 205, 206, 193, 194, 195, 196, 197, 198, 199, 200, 201] rfl (by decide +kernel)
set_option maxRecDepth 20000 in
theorem gX4_ifRun_X3_doOn : GoodIn wsX4_ifRun (wsV RX4 99 RX3 yX3_doOn wsX3_doOn) := goodIn_app (goodIn_of _ (by decide +kernel)) ggX4_ifRun_X3_doOn
theorem dX4_ifRun_0 : decode cX4_ifRun 0 = .ok (.aload_n 0, 1) := by decide +kernel
theorem dX4_ifRun_1 : decode cX4_ifRun 1 = .ok (.getfield 29, 3) := by decide +kernel
theorem dX4_ifRun_4 : decode cX4_ifRun 4 = .ok (.aload_n 0, 1) := by decide +kernel
theorem dX4_ifRun_5 : decode cX4_ifRun 5 = .ok (.getfield 22, 3) := by decide +kernel
theorem dX4_ifRun_8 : decode cX4_ifRun 8 = .ok (.invokevirtual 95, 3) := by decide +kernel
theorem dX4_ifRun_11 : decode cX4_ifRun 11 = .ok (.bipush (-6), 2) := by decide +kernel
theorem dX4_ifRun_13 : decode cX4_ifRun 13 = .ok (.if_icmp .eq 6, 3) := by decide +kernel
theorem dX4_ifRun_16 : decode cX4_ifRun 16 = .ok (.bipush (-3), 2) := by decide +kernel
theorem dX4_ifRun_18 : decode cX4_ifRun 18 = .ok (.ireturn, 1) := by decide +kernel
theorem dX4_ifRun_19 : decode cX4_ifRun 19 = .ok (.aload_n 0, 1) := by decide +kernel
theorem dX4_ifRun_20 : decode cX4_ifRun 20 = .ok (.invokevirtual 58, 3) := by decide +kernel
theorem dX4_ifRun_23 : decode cX4_ifRun 23 = .ok (.astore_n 2, 1) := by decide +kernel
theorem dX4_ifRun_24 : decode cX4_ifRun 24 = .ok (.aload_n 0, 1) := by decide +kernel
theorem dX4_ifRun_25 : decode cX4_ifRun 25 = .ok (.getfield 29, 3) := by decide +kernel
theorem dX4_ifRun_28 : decode cX4_ifRun 28 = .ok (.aload_n 2, 1) := by decide +kernel
theorem dX4_ifRun_29 : decode cX4_ifRun 29 = .ok (.iload_n 1, 1) := by decide +kernel
theorem dX4_ifRun_30 : decode cX4_ifRun 30 = .ok (.invokevirtual 99, 3) := by decide +kernel
theorem dX4_ifRun_33 : decode cX4_ifRun 33 = .ok (.pop, 1) := by decide +kernel
theorem dX4_ifRun_34 : decode cX4_ifRun 34 = .ok (.aload_n 2, 1) := by decide +kernel
theorem dX4_ifRun_35 : decode cX4_ifRun 35 = .ok (.getfield 136, 3) := by decide +kernel
theorem dX4_ifRun_38 : decode cX4_ifRun 38 = .ok (.aload_n 0, 1) := by decide +kernel
theorem dX4_ifRun_39 : decode cX4_ifRun 39 = .ok (.getfield 12, 3) := by decide +kernel
theorem dX4_ifRun_42 : decode cX4_ifRun 42 = .ok (.getfield 136, 3) := by decide +kernel
theorem dX4_ifRun_45 : decode cX4_ifRun 45 = .ok (.isub, 1) := by decide +kernel
theorem dX4_ifRun_46 : decode cX4_ifRun 46 = .ok (.ireturn, 1) := by decide +kernel
set_option maxRecDepth 20000 in
theorem ggX4_untilLost_X4_isAddress : GoodIn wsX4_untilLost wsX4_isAddress := goodIn_r _ [5] rfl (by decide +kernel)
set_option maxRecDepth 20000 in
theorem gX4_untilLost_X4_isAddress : GoodIn wsX4_untilLost (va_wsS RX4 70 yX4_isAddress wsX4_isAddress) := goodIn_app (goodIn_of _ (by decide +kernel)) ggX4_untilLost_X4_isAddress
set_option maxRecDepth 20000 in
theorem ggX4_untilLost_X0_sectorFor : GoodIn wsX4_untilLost wsX0_sectorFor := goodIn_r _ [10, 11, 12, 4, 13, 93, 94, 95, 96, 97, 98, 99, 100, 101] rfl (by decide +kernel)
set_option maxRecDepth 20000 in
theorem gX4_untilLost_X0_sectorFor : GoodIn wsX4_untilLost (wsV RX4 80 RX0 yX0_sectorFor wsX0_sectorFor) := goodIn_app (goodIn_of _ (by decide +kernel)) ggX4_untilLost_X0_sectorFor
set_option maxRecDepth 20000 in
theorem ggX4_untilLost_X0_isReadable : GoodIn wsX4_untilLost wsX0_isReadable := goodIn_r _ [17, 18, 19, 20, 9, 21, 22, 12, 4, 13, 23, 24, 25, 26, 27, 28, 29, 30, 31, 32, 93, 94, 95, 96, 97, 98, 99, 100, 101] rfl (by decide +kernel)
set_option maxRecDepth 20000 in
theorem gX4_untilLost_X0_isReadable : GoodIn wsX4_untilLost (wsV RX4 118 RX0 yX0_isReadable wsX0_isReadable) := goodIn_app (goodIn_of _ (by decide +kernel)) ggX4_untilLost_X0_isReadable
set_option maxRecDepth 20000 in
theorem ggX4_untilLost_X4_freshTrial : GoodIn wsX4_untilLost wsX4_freshTrial := goodIn_r _ [36, 37, 1, 38, 39, 40, 9, 41, 32, 22, 27, 42, 11, 43, 44, 45, 46, 47, 4, 48, 49, 50, 51, 52, 53, 54, 55, 56, 87, 88, 89, 90, 91, 92, 93, 94, 95, 96, 97, 98, 99, 100, 101] rfl (by decide +kernel)
set_option maxRecDepth 20000 in
theorem gX4_untilLost_X4_freshTrial : GoodIn wsX4_untilLost (wsV RX4 58 RX4 yX4_freshTrial wsX4_freshTrial) := goodIn_app (goodIn_of _ (by decide +kernel)) ggX4_untilLost_X4_freshTrial
set_option maxRecDepth 20000 in
theorem ggX4_untilLost_X0_sectorToWrite : GoodIn wsX4_untilLost wsX0_sectorToWrite := goodIn_r _ [60, 43, 61, 7, 8, 9, 10, 11, 12, 4, 13, 62, 63, 64, 65, 42, 28, 29, 30, 31, 32, 66, 67, 68, 69, 93, 94, 95, 96, 97, 98, 99, 100, 101] rfl (by decide +kernel)
set_option maxRecDepth 20000 in
theorem gX4_untilLost_X0_sectorToWrite : GoodIn wsX4_untilLost (wsV RX4 165 RX0 yX0_sectorToWrite wsX0_sectorToWrite) := goodIn_app (goodIn_of _ (by decide +kernel)) ggX4_untilLost_X0_sectorToWrite
set_option maxRecDepth 20000 in
theorem ggX4_untilLost_X0_fill : GoodIn wsX4_untilLost wsX0_fill := goodIn_r _ [73, 11, 43, 22, 27, 42, 61, 7, 8, 9, 10, 12, 4, 13, 74, 75, 62, 63, 64, 65, 76, 77, 28, 29, 30, 31, 32, 78, 79, 80, 81, 82, 50, 51, 52, 83, 84, 85, 86, 3, 5, 18, 19, 20, 21, 23, 24, 25, 26, 93, 94, 95, 96, 97, 98, 99, 100, 101] rfl (by decide +kernel)
set_option maxRecDepth 20000 in
theorem gX4_untilLost_X0_fill : GoodIn wsX4_untilLost (wsV RX4 171 RX0 yX0_fill wsX0_fill) := goodIn_app (goodIn_of _ (by decide +kernel)) ggX4_untilLost_X0_fill
theorem dX4_untilLost_0 : decode cX4_untilLost 0 = .ok (.iload_n 1, 1) := by decide +kernel
theorem dX4_untilLost_1 : decode cX4_untilLost 1 = .ok (.invokestatic 70, 3) := by decide +kernel
theorem dX4_untilLost_4 : decode cX4_untilLost 4 = .ok (.ifCond .eq 10, 3) := by decide +kernel
theorem dX4_untilLost_7 : decode cX4_untilLost 7 = .ok (.iload_n 2, 1) := by decide +kernel
theorem dX4_untilLost_8 : decode cX4_untilLost 8 = .ok (.invokestatic 70, 3) := by decide +kernel
theorem dX4_untilLost_11 : decode cX4_untilLost 11 = .ok (.ifCond .ne 5, 3) := by decide +kernel
theorem dX4_untilLost_14 : decode cX4_untilLost 14 = .ok (.iconst (-1), 1) := by decide +kernel
theorem dX4_untilLost_15 : decode cX4_untilLost 15 = .ok (.ireturn, 1) := by decide +kernel
theorem dX4_untilLost_16 : decode cX4_untilLost 16 = .ok (.iload_n 1, 1) := by decide +kernel
theorem dX4_untilLost_17 : decode cX4_untilLost 17 = .ok (.iload_n 2, 1) := by decide +kernel
theorem dX4_untilLost_18 : decode cX4_untilLost 18 = .ok (.if_icmp .ne 6, 3) := by decide +kernel
theorem dX4_untilLost_21 : decode cX4_untilLost 21 = .ok (.bipush (-2), 2) := by decide +kernel
theorem dX4_untilLost_23 : decode cX4_untilLost 23 = .ok (.ireturn, 1) := by decide +kernel
theorem dX4_untilLost_24 : decode cX4_untilLost 24 = .ok (.aload_n 0, 1) := by decide +kernel
theorem dX4_untilLost_25 : decode cX4_untilLost 25 = .ok (.getfield 12, 3) := by decide +kernel
theorem dX4_untilLost_28 : decode cX4_untilLost 28 = .ok (.iload_n 2, 1) := by decide +kernel
theorem dX4_untilLost_29 : decode cX4_untilLost 29 = .ok (.invokevirtual 80, 3) := by decide +kernel
theorem dX4_untilLost_32 : decode cX4_untilLost 32 = .ok (.istore_n 3, 1) := by decide +kernel
theorem dX4_untilLost_33 : decode cX4_untilLost 33 = .ok (.aload_n 0, 1) := by decide +kernel
theorem dX4_untilLost_34 : decode cX4_untilLost 34 = .ok (.getfield 12, 3) := by decide +kernel
theorem dX4_untilLost_37 : decode cX4_untilLost 37 = .ok (.iload_n 3, 1) := by decide +kernel
theorem dX4_untilLost_38 : decode cX4_untilLost 38 = .ok (.invokevirtual 118, 3) := by decide +kernel
theorem dX4_untilLost_41 : decode cX4_untilLost 41 = .ok (.ifCond .ne 6, 3) := by decide +kernel
theorem dX4_untilLost_44 : decode cX4_untilLost 44 = .ok (.bipush (-5), 2) := by decide +kernel
theorem dX4_untilLost_46 : decode cX4_untilLost 46 = .ok (.ireturn, 1) := by decide +kernel
theorem dX4_untilLost_47 : decode cX4_untilLost 47 = .ok (.aload_n 0, 1) := by decide +kernel
theorem dX4_untilLost_48 : decode cX4_untilLost 48 = .ok (.invokevirtual 58, 3) := by decide +kernel
theorem dX4_untilLost_51 : decode cX4_untilLost 51 = .ok (.astore 4, 2) := by decide +kernel
theorem dX4_untilLost_53 : decode cX4_untilLost 53 = .ok (.iconst 1, 1) := by decide +kernel
theorem dX4_untilLost_54 : decode cX4_untilLost 54 = .ok (.istore 5, 2) := by decide +kernel
theorem dX4_untilLost_56 : decode cX4_untilLost 56 = .ok (.iload 5, 2) := by decide +kernel
theorem dX4_untilLost_58 : decode cX4_untilLost 58 = .ok (.sipush 500, 3) := by decide +kernel
theorem dX4_untilLost_61 : decode cX4_untilLost 61 = .ok (.if_icmp .gt 34, 3) := by decide +kernel
theorem dX4_untilLost_64 : decode cX4_untilLost 64 = .ok (.aload 4, 2) := by decide +kernel
theorem dX4_untilLost_66 : decode cX4_untilLost 66 = .ok (.aload 4, 2) := by decide +kernel
theorem dX4_untilLost_68 : decode cX4_untilLost 68 = .ok (.iload_n 1, 1) := by decide +kernel
theorem dX4_untilLost_69 : decode cX4_untilLost 69 = .ok (.invokevirtual 165, 3) := by decide +kernel
theorem dX4_untilLost_72 : decode cX4_untilLost 72 = .ok (.iload_n 1, 1) := by decide +kernel
theorem dX4_untilLost_73 : decode cX4_untilLost 73 = .ok (.iconst 0, 1) := by decide +kernel
theorem dX4_untilLost_74 : decode cX4_untilLost 74 = .ok (.invokevirtual 171, 3) := by decide +kernel
theorem dX4_untilLost_77 : decode cX4_untilLost 77 = .ok (.aload 4, 2) := by decide +kernel
theorem dX4_untilLost_79 : decode cX4_untilLost 79 = .ok (.iload_n 3, 1) := by decide +kernel
theorem dX4_untilLost_80 : decode cX4_untilLost 80 = .ok (.invokevirtual 118, 3) := by decide +kernel
theorem dX4_untilLost_83 : decode cX4_untilLost 83 = .ok (.ifCond .ne 6, 3) := by decide +kernel
theorem dX4_untilLost_86 : decode cX4_untilLost 86 = .ok (.iload 5, 2) := by decide +kernel
theorem dX4_untilLost_88 : decode cX4_untilLost 88 = .ok (.ireturn, 1) := by decide +kernel
theorem dX4_untilLost_89 : decode cX4_untilLost 89 = .ok (.iinc 5 1, 3) := by decide +kernel
theorem dX4_untilLost_92 : decode cX4_untilLost 92 = .ok (.goto (-36), 3) := by decide +kernel
theorem dX4_untilLost_95 : decode cX4_untilLost 95 = .ok (.bipush (-6), 2) := by decide +kernel
theorem dX4_untilLost_97 : decode cX4_untilLost 97 = .ok (.ireturn, 1) := by decide +kernel
set_option maxRecDepth 20000 in
theorem ggX4_worst_X0_sectorFor : GoodIn wsX4_worst wsX0_sectorFor := goodIn_r _ [6, 7, 8, 9, 10, 37, 38, 39, 40, 41, 42, 43, 44, 45] rfl (by decide +kernel)
set_option maxRecDepth 20000 in
theorem gX4_worst_X0_sectorFor : GoodIn wsX4_worst (wsV RX4 80 RX0 yX0_sectorFor wsX0_sectorFor) := goodIn_app (goodIn_of _ (by decide +kernel)) ggX4_worst_X0_sectorFor
set_option maxRecDepth 20000 in
theorem ggX4_worst_X0_isReadable : GoodIn wsX4_worst wsX0_isReadable := goodIn_r _ [14, 15, 16, 17, 5, 18, 19, 8, 9, 10, 20, 21, 22, 23, 24, 25, 26, 27, 28, 29, 37, 38, 39, 40, 41, 42, 43, 44, 45] rfl (by decide +kernel)
set_option maxRecDepth 20000 in
theorem gX4_worst_X0_isReadable : GoodIn wsX4_worst (wsV RX4 118 RX0 yX0_isReadable wsX0_isReadable) := goodIn_app (goodIn_of _ (by decide +kernel)) ggX4_worst_X0_isReadable
set_option maxRecDepth 20000 in
theorem ggX4_worst_X0_blurOf : GoodIn wsX4_worst wsX0_blurOf := goodIn_r _ [23, 24, 8, 9, 10, 37, 38, 39, 40, 41, 42, 43, 44, 45] rfl (by decide +kernel)
set_option maxRecDepth 20000 in
theorem gX4_worst_X0_blurOf : GoodIn wsX4_worst (wsV RX4 83 RX0 yX0_blurOf wsX0_blurOf) := goodIn_app (goodIn_of _ (by decide +kernel)) ggX4_worst_X0_blurOf
theorem dX4_worst_0 : decode cX4_worst 0 = .ok (.bipush (-6), 2) := by decide +kernel
theorem dX4_worst_2 : decode cX4_worst 2 = .ok (.istore_n 1, 1) := by decide +kernel
theorem dX4_worst_3 : decode cX4_worst 3 = .ok (.iconst (-1), 1) := by decide +kernel
theorem dX4_worst_4 : decode cX4_worst 4 = .ok (.istore_n 2, 1) := by decide +kernel
theorem dX4_worst_5 : decode cX4_worst 5 = .ok (.iconst 0, 1) := by decide +kernel
theorem dX4_worst_6 : decode cX4_worst 6 = .ok (.istore_n 3, 1) := by decide +kernel
theorem dX4_worst_7 : decode cX4_worst 7 = .ok (.iload_n 3, 1) := by decide +kernel
theorem dX4_worst_8 : decode cX4_worst 8 = .ok (.sipush 192, 3) := by decide +kernel
theorem dX4_worst_11 : decode cX4_worst 11 = .ok (.if_icmp .ge 56, 3) := by decide +kernel
theorem dX4_worst_14 : decode cX4_worst 14 = .ok (.aload_n 0, 1) := by decide +kernel
theorem dX4_worst_15 : decode cX4_worst 15 = .ok (.getfield 12, 3) := by decide +kernel
theorem dX4_worst_18 : decode cX4_worst 18 = .ok (.iload_n 3, 1) := by decide +kernel
theorem dX4_worst_19 : decode cX4_worst 19 = .ok (.invokevirtual 80, 3) := by decide +kernel
theorem dX4_worst_22 : decode cX4_worst 22 = .ok (.istore 4, 2) := by decide +kernel
theorem dX4_worst_24 : decode cX4_worst 24 = .ok (.aload_n 0, 1) := by decide +kernel
theorem dX4_worst_25 : decode cX4_worst 25 = .ok (.getfield 12, 3) := by decide +kernel
theorem dX4_worst_28 : decode cX4_worst 28 = .ok (.iload 4, 2) := by decide +kernel
theorem dX4_worst_30 : decode cX4_worst 30 = .ok (.invokevirtual 118, 3) := by decide +kernel
theorem dX4_worst_33 : decode cX4_worst 33 = .ok (.ifCond .eq 28, 3) := by decide +kernel
theorem dX4_worst_36 : decode cX4_worst 36 = .ok (.aload_n 0, 1) := by decide +kernel
theorem dX4_worst_37 : decode cX4_worst 37 = .ok (.getfield 12, 3) := by decide +kernel
theorem dX4_worst_40 : decode cX4_worst 40 = .ok (.iload 4, 2) := by decide +kernel
theorem dX4_worst_42 : decode cX4_worst 42 = .ok (.invokevirtual 83, 3) := by decide +kernel
theorem dX4_worst_45 : decode cX4_worst 45 = .ok (.iload_n 2, 1) := by decide +kernel
theorem dX4_worst_46 : decode cX4_worst 46 = .ok (.if_icmp .le 15, 3) := by decide +kernel
theorem dX4_worst_49 : decode cX4_worst 49 = .ok (.iload_n 3, 1) := by decide +kernel
theorem dX4_worst_50 : decode cX4_worst 50 = .ok (.istore_n 1, 1) := by decide +kernel
theorem dX4_worst_51 : decode cX4_worst 51 = .ok (.aload_n 0, 1) := by decide +kernel
theorem dX4_worst_52 : decode cX4_worst 52 = .ok (.getfield 12, 3) := by decide +kernel
theorem dX4_worst_55 : decode cX4_worst 55 = .ok (.iload 4, 2) := by decide +kernel
theorem dX4_worst_57 : decode cX4_worst 57 = .ok (.invokevirtual 83, 3) := by decide +kernel
theorem dX4_worst_60 : decode cX4_worst 60 = .ok (.istore_n 2, 1) := by decide +kernel
theorem dX4_worst_61 : decode cX4_worst 61 = .ok (.iinc 3 1, 3) := by decide +kernel
theorem dX4_worst_64 : decode cX4_worst 64 = .ok (.goto (-57), 3) := by decide +kernel
theorem dX4_worst_67 : decode cX4_worst 67 = .ok (.iload_n 1, 1) := by decide +kernel
theorem dX4_worst_68 : decode cX4_worst 68 = .ok (.ireturn, 1) := by decide +kernel
set_option maxRecDepth 20000 in
theorem ggX4_put_X4_signsIn : GoodIn wsX4_put wsX4_signsIn := goodIn_r _ [6, 7, 8, 9] rfl (by decide +kernel)
set_option maxRecDepth 20000 in
theorem gX4_put_X4_signsIn : GoodIn wsX4_put (va_wsS RX4 175 yX4_signsIn wsX4_signsIn) := goodIn_app (goodIn_of _ (by decide +kernel)) ggX4_put_X4_signsIn
set_option maxRecDepth 20000 in
theorem ggX4_put_X2_append : GoodIn wsX4_put wsX2_append := goodIn_r _ [14, 15, 16, 17, 18, 5, 19, 26, 27] rfl (by decide +kernel)
set_option maxRecDepth 20000 in
theorem gX4_put_X2_append : GoodIn wsX4_put (wsV RX4 179 RX2 yX2_append wsX2_append) := goodIn_app (goodIn_of _ (by decide +kernel)) ggX4_put_X2_append
theorem dX4_put_0 : decode cX4_put 0 = .ok (.lload_n 1, 1) := by decide +kernel
theorem dX4_put_1 : decode cX4_put 1 = .ok (.invokestatic 175, 3) := by decide +kernel
theorem dX4_put_4 : decode cX4_put 4 = .ok (.istore_n 3, 1) := by decide +kernel
theorem dX4_put_5 : decode cX4_put 5 = .ok (.iload_n 3, 1) := by decide +kernel
theorem dX4_put_6 : decode cX4_put 6 = .ok (.iconst 1, 1) := by decide +kernel
theorem dX4_put_7 : decode cX4_put 7 = .ok (.if_icmp .ge 6, 3) := by decide +kernel
theorem dX4_put_10 : decode cX4_put 10 = .ok (.bipush (-2), 2) := by decide +kernel
theorem dX4_put_12 : decode cX4_put 12 = .ok (.ireturn, 1) := by decide +kernel
theorem dX4_put_13 : decode cX4_put 13 = .ok (.aload_n 0, 1) := by decide +kernel
theorem dX4_put_14 : decode cX4_put 14 = .ok (.getfield 22, 3) := by decide +kernel
theorem dX4_put_17 : decode cX4_put 17 = .ok (.getfield 159, 3) := by decide +kernel
theorem dX4_put_20 : decode cX4_put 20 = .ok (.iload_n 3, 1) := by decide +kernel
theorem dX4_put_21 : decode cX4_put 21 = .ok (.iadd, 1) := by decide +kernel
theorem dX4_put_22 : decode cX4_put 22 = .ok (.bipush 60, 2) := by decide +kernel
theorem dX4_put_24 : decode cX4_put 24 = .ok (.if_icmp .le 6, 3) := by decide +kernel
theorem dX4_put_27 : decode cX4_put 27 = .ok (.bipush (-4), 2) := by decide +kernel
theorem dX4_put_29 : decode cX4_put 29 = .ok (.ireturn, 1) := by decide +kernel
theorem dX4_put_30 : decode cX4_put 30 = .ok (.aload_n 0, 1) := by decide +kernel
theorem dX4_put_31 : decode cX4_put 31 = .ok (.getfield 22, 3) := by decide +kernel
theorem dX4_put_34 : decode cX4_put 34 = .ok (.lload_n 1, 1) := by decide +kernel
theorem dX4_put_35 : decode cX4_put 35 = .ok (.iload_n 3, 1) := by decide +kernel
theorem dX4_put_36 : decode cX4_put 36 = .ok (.invokevirtual 179, 3) := by decide +kernel
theorem dX4_put_39 : decode cX4_put 39 = .ok (.aload_n 0, 1) := by decide +kernel
theorem dX4_put_40 : decode cX4_put 40 = .ok (.getfield 22, 3) := by decide +kernel
theorem dX4_put_43 : decode cX4_put 43 = .ok (.getfield 159, 3) := by decide +kernel
theorem dX4_put_46 : decode cX4_put 46 = .ok (.ireturn, 1) := by decide +kernel
set_option maxRecDepth 20000 in
theorem ggX4_wipe_X2_clear : GoodIn wsX4_wipe wsX2_clear := goodIn_r _ [7, 8, 15, 16] rfl (by decide +kernel)
set_option maxRecDepth 20000 in
theorem gX4_wipe_X2_clear : GoodIn wsX4_wipe (wsV RX4 103 RX2 yX2_clear wsX2_clear) := goodIn_app (goodIn_of _ (by decide +kernel)) ggX4_wipe_X2_clear
theorem dX4_wipe_0 : decode cX4_wipe 0 = .ok (.aload_n 0, 1) := by decide +kernel
theorem dX4_wipe_1 : decode cX4_wipe 1 = .ok (.getfield 22, 3) := by decide +kernel
theorem dX4_wipe_4 : decode cX4_wipe 4 = .ok (.getfield 159, 3) := by decide +kernel
theorem dX4_wipe_7 : decode cX4_wipe 7 = .ok (.istore_n 1, 1) := by decide +kernel
theorem dX4_wipe_8 : decode cX4_wipe 8 = .ok (.aload_n 0, 1) := by decide +kernel
theorem dX4_wipe_9 : decode cX4_wipe 9 = .ok (.getfield 22, 3) := by decide +kernel
theorem dX4_wipe_12 : decode cX4_wipe 12 = .ok (.invokevirtual 103, 3) := by decide +kernel
theorem dX4_wipe_15 : decode cX4_wipe 15 = .ok (.iload_n 1, 1) := by decide +kernel
theorem dX4_wipe_16 : decode cX4_wipe 16 = .ok (.ireturn, 1) := by decide +kernel
set_option maxRecDepth 20000 in
theorem ggX4_fault_X3_parse : GoodIn wsX4_fault wsX3_parse := goodIn_r _ [7, 8, 9, 10, 11, 12, 13, 14, 15, 16, 17, 18, 19, 20, 21, 22, 6, 23, 24, 25, 26, 27, 28, 29, 30, 31, 32, 33, 34, 35, 36, 37, 38, 39, 40, 41, 42, 43, 44, 45, 46, 47, 48, 49, 50, 51, 52, 53, 54, 61, 62, 63, 64, 65, 66, 67] rfl (by decide +kernel)
set_option maxRecDepth 20000 in
theorem gX4_fault_X3_parse : GoodIn wsX4_fault (wsV RX4 95 RX3 yX3_parse wsX3_parse) := goodIn_app (goodIn_of _ (by decide +kernel)) ggX4_fault_X3_parse
theorem dX4_fault_0 : decode cX4_fault 0 = .ok (.aload_n 0, 1) := by decide +kernel
theorem dX4_fault_1 : decode cX4_fault 1 = .ok (.getfield 29, 3) := by decide +kernel
theorem dX4_fault_4 : decode cX4_fault 4 = .ok (.aload_n 0, 1) := by decide +kernel
theorem dX4_fault_5 : decode cX4_fault 5 = .ok (.getfield 22, 3) := by decide +kernel
theorem dX4_fault_8 : decode cX4_fault 8 = .ok (.invokevirtual 95, 3) := by decide +kernel
theorem dX4_fault_11 : decode cX4_fault 11 = .ok (.ireturn, 1) := by decide +kernel
set_option maxRecDepth 20000 in
theorem ggX4_undo_X1_takeBack : GoodIn wsX4_undo wsX1_takeBack := goodIn_r _ [8, 9, 10, 11, 12, 13, 7, 14, 15, 22, 23, 24] rfl (by decide +kernel)
set_option maxRecDepth 20000 in
theorem gX4_undo_X1_takeBack : GoodIn wsX4_undo (wsV RX4 183 RX1 yX1_takeBack wsX1_takeBack) := goodIn_app (goodIn_of _ (by decide +kernel)) ggX4_undo_X1_takeBack
theorem dX4_undo_0 : decode cX4_undo 0 = .ok (.aload_n 0, 1) := by decide +kernel
theorem dX4_undo_1 : decode cX4_undo 1 = .ok (.getfield 36, 3) := by decide +kernel
theorem dX4_undo_4 : decode cX4_undo 4 = .ok (.aload_n 0, 1) := by decide +kernel
theorem dX4_undo_5 : decode cX4_undo 5 = .ok (.getfield 12, 3) := by decide +kernel
theorem dX4_undo_8 : decode cX4_undo 8 = .ok (.invokevirtual 183, 3) := by decide +kernel
theorem dX4_undo_11 : decode cX4_undo 11 = .ok (.astore_n 1, 1) := by decide +kernel
theorem dX4_undo_12 : decode cX4_undo 12 = .ok (.aload_n 1, 1) := by decide +kernel
theorem dX4_undo_13 : decode cX4_undo 13 = .ok (.ifnonnull 6, 3) := by decide +kernel
theorem dX4_undo_16 : decode cX4_undo 16 = .ok (.bipush (-5), 2) := by decide +kernel
theorem dX4_undo_18 : decode cX4_undo 18 = .ok (.ireturn, 1) := by decide +kernel
theorem dX4_undo_19 : decode cX4_undo 19 = .ok (.aload_n 0, 1) := by decide +kernel
theorem dX4_undo_20 : decode cX4_undo 20 = .ok (.aload_n 1, 1) := by decide +kernel
theorem dX4_undo_21 : decode cX4_undo 21 = .ok (.putfield 12, 3) := by decide +kernel
theorem dX4_undo_24 : decode cX4_undo 24 = .ok (.aload_n 0, 1) := by decide +kernel
theorem dX4_undo_25 : decode cX4_undo 25 = .ok (.getfield 36, 3) := by decide +kernel
theorem dX4_undo_28 : decode cX4_undo 28 = .ok (.getfield 162, 3) := by decide +kernel
theorem dX4_undo_31 : decode cX4_undo 31 = .ok (.ireturn, 1) := by decide +kernel
set_option maxRecDepth 20000 in
theorem ggX4_save_X0_init : GoodIn wsX4_save wsX0_init := goodIn_r _ [8, 9, 10, 11, 12, 13, 14, 15, 16, 17, 18, 19, 20, 21, 22, 23, 24, 25, 26, 27, 28, 29, 30, 31, 32, 33, 34, 35, 36, 66, 67, 68, 69, 70, 71, 72, 73, 74] rfl (by decide +kernel)
theorem gX4_save_X0_init : GoodIn wsX4_save (wsX0_init) := ggX4_save_X0_init
set_option maxRecDepth 20000 in
theorem ggX4_save_X0_becomeLike : GoodIn wsX4_save wsX0_becomeLike := goodIn_r _ [40, 13, 14, 15, 16, 17, 18, 19, 20, 21, 22, 23, 24, 25, 26, 27, 28, 29, 30, 31, 32, 66, 67, 68, 69, 70, 71, 72, 73, 74] rfl (by decide +kernel)
set_option maxRecDepth 20000 in
theorem gX4_save_X0_becomeLike : GoodIn wsX4_save (wsV RX4 187 RX0 yX0_becomeLike wsX0_becomeLike) := goodIn_app (goodIn_of _ (by decide +kernel)) ggX4_save_X0_becomeLike
set_option maxRecDepth 20000 in
theorem ggX4_save_X0_filledOn : GoodIn wsX4_save wsX0_filledOn := goodIn_r _ [44, 45, 46, 47, 4, 48, 17, 49, 23, 50, 51, 52, 53, 54, 55, 56, 57, 58, 59, 14, 66, 67, 68, 69, 70, 71, 72, 73, 74] rfl (by decide +kernel)
set_option maxRecDepth 20000 in
theorem gX4_save_X0_filledOn : GoodIn wsX4_save (wsV RX4 121 RX0 yX0_filledOn wsX0_filledOn) := goodIn_app (goodIn_of _ (by decide +kernel)) ggX4_save_X0_filledOn
theorem dX4_save_0 : decode cX4_save 0 = .ok (.iload_n 1, 1) := by decide +kernel
theorem dX4_save_1 : decode cX4_save 1 = .ok (.ifCond .lt 12, 3) := by decide +kernel
theorem dX4_save_4 : decode cX4_save 4 = .ok (.iload_n 1, 1) := by decide +kernel
theorem dX4_save_5 : decode cX4_save 5 = .ok (.aload_n 0, 1) := by decide +kernel
theorem dX4_save_6 : decode cX4_save 6 = .ok (.getfield 40, 3) := by decide +kernel
theorem dX4_save_9 : decode cX4_save 9 = .ok (.arraylength, 1) := by decide +kernel
theorem dX4_save_10 : decode cX4_save 10 = .ok (.if_icmp .lt 6, 3) := by decide +kernel
theorem dX4_save_13 : decode cX4_save 13 = .ok (.bipush (-2), 2) := by decide +kernel
theorem dX4_save_15 : decode cX4_save 15 = .ok (.ireturn, 1) := by decide +kernel
theorem dX4_save_16 : decode cX4_save 16 = .ok (.aload_n 0, 1) := by decide +kernel
theorem dX4_save_17 : decode cX4_save 17 = .ok (.getfield 40, 3) := by decide +kernel
theorem dX4_save_20 : decode cX4_save 20 = .ok (.iload_n 1, 1) := by decide +kernel
theorem dX4_save_21 : decode cX4_save 21 = .ok (.aaload, 1) := by decide +kernel
theorem dX4_save_22 : decode cX4_save 22 = .ok (.astore_n 2, 1) := by decide +kernel
theorem dX4_save_23 : decode cX4_save 23 = .ok (.aload_n 2, 1) := by decide +kernel
theorem dX4_save_24 : decode cX4_save 24 = .ok (.ifnonnull 18, 3) := by decide +kernel
theorem dX4_save_27 : decode cX4_save 27 = .ok (.new 9, 3) := by decide +kernel
theorem dX4_save_30 : decode cX4_save 30 = .ok (.dup, 1) := by decide +kernel
theorem dX4_save_31 : decode cX4_save 31 = .ok (.invokespecial 11, 3) := by decide +kernel
theorem dX4_save_34 : decode cX4_save 34 = .ok (.astore_n 2, 1) := by decide +kernel
theorem dX4_save_35 : decode cX4_save 35 = .ok (.aload_n 0, 1) := by decide +kernel
theorem dX4_save_36 : decode cX4_save 36 = .ok (.getfield 40, 3) := by decide +kernel
theorem dX4_save_39 : decode cX4_save 39 = .ok (.iload_n 1, 1) := by decide +kernel
theorem dX4_save_40 : decode cX4_save 40 = .ok (.aload_n 2, 1) := by decide +kernel
theorem dX4_save_41 : decode cX4_save 41 = .ok (.aastore, 1) := by decide +kernel
theorem dX4_save_42 : decode cX4_save 42 = .ok (.aload_n 2, 1) := by decide +kernel
theorem dX4_save_43 : decode cX4_save 43 = .ok (.aload_n 0, 1) := by decide +kernel
theorem dX4_save_44 : decode cX4_save 44 = .ok (.getfield 12, 3) := by decide +kernel
theorem dX4_save_47 : decode cX4_save 47 = .ok (.invokevirtual 187, 3) := by decide +kernel
theorem dX4_save_50 : decode cX4_save 50 = .ok (.aload_n 0, 1) := by decide +kernel
theorem dX4_save_51 : decode cX4_save 51 = .ok (.getfield 12, 3) := by decide +kernel
theorem dX4_save_54 : decode cX4_save 54 = .ok (.iconst 0, 1) := by decide +kernel
theorem dX4_save_55 : decode cX4_save 55 = .ok (.bipush 16, 2) := by decide +kernel
theorem dX4_save_57 : decode cX4_save 57 = .ok (.invokevirtual 121, 3) := by decide +kernel
theorem dX4_save_60 : decode cX4_save 60 = .ok (.ireturn, 1) := by decide +kernel
set_option maxRecDepth 20000 in
theorem ggX4_restore_X0_becomeLike : GoodIn wsX4_restore wsX0_becomeLike := goodIn_r _ [7, 8, 9, 10, 11, 12, 13, 14, 15, 16, 17, 18, 19, 20, 21, 22, 23, 24, 25, 26, 27, 84, 85, 86, 87, 88, 89, 90, 91, 92] rfl (by decide +kernel)
set_option maxRecDepth 20000 in
theorem gX4_restore_X0_becomeLike : GoodIn wsX4_restore (wsV RX4 187 RX0 yX0_becomeLike wsX0_becomeLike) := goodIn_app (goodIn_of _ (by decide +kernel)) ggX4_restore_X0_becomeLike
set_option maxRecDepth 20000 in
theorem ggX4_restore_X0_filledOn : GoodIn wsX4_restore wsX0_filledOn := goodIn_r _ [31, 32, 33, 34, 6, 35, 12, 36, 18, 37, 38, 39, 40, 41, 42, 43, 44, 45, 46, 9, 84, 85, 86, 87, 88, 89, 90, 91, 92] rfl (by decide +kernel)
set_option maxRecDepth 20000 in
theorem gX4_restore_X0_filledOn : GoodIn wsX4_restore (wsV RX4 121 RX0 yX0_filledOn wsX0_filledOn) := goodIn_app (goodIn_of _ (by decide +kernel)) ggX4_restore_X0_filledOn
set_option maxRecDepth 20000 in
theorem ggX4_restore_X4_adopt : GoodIn wsX4_restore wsX4_adopt := goodIn_r _ [50, 51, 52, 2, 53, 54, 6, 55, 56, 57, 58, 59, 60, 61, 62, 63, 64, 65, 66, 67, 68, 69, 70, 71, 72, 73, 8, 9, 10, 11, 12, 13, 14, 15, 16, 17, 18, 19, 20, 21, 22, 23, 24, 25, 26, 27, 74, 75, 76, 77, 78, 79, 80, 81, 82, 83, 84, 85, 86, 87, 88, 89, 90, 91, 92, 93, 94, 95] rfl (by decide +kernel)
set_option maxRecDepth 20000 in
theorem gX4_restore_X4_adopt : GoodIn wsX4_restore (wsV RX4 66 RX4 yX4_adopt wsX4_adopt) := goodIn_app (goodIn_of _ (by decide +kernel)) ggX4_restore_X4_adopt
theorem dX4_restore_0 : decode cX4_restore 0 = .ok (.iload_n 1, 1) := by decide +kernel
theorem dX4_restore_1 : decode cX4_restore 1 = .ok (.ifCond .lt 12, 3) := by decide +kernel
theorem dX4_restore_4 : decode cX4_restore 4 = .ok (.iload_n 1, 1) := by decide +kernel
theorem dX4_restore_5 : decode cX4_restore 5 = .ok (.aload_n 0, 1) := by decide +kernel
theorem dX4_restore_6 : decode cX4_restore 6 = .ok (.getfield 40, 3) := by decide +kernel
theorem dX4_restore_9 : decode cX4_restore 9 = .ok (.arraylength, 1) := by decide +kernel
theorem dX4_restore_10 : decode cX4_restore 10 = .ok (.if_icmp .lt 6, 3) := by decide +kernel
theorem dX4_restore_13 : decode cX4_restore 13 = .ok (.bipush (-2), 2) := by decide +kernel
theorem dX4_restore_15 : decode cX4_restore 15 = .ok (.ireturn, 1) := by decide +kernel
theorem dX4_restore_16 : decode cX4_restore 16 = .ok (.aload_n 0, 1) := by decide +kernel
theorem dX4_restore_17 : decode cX4_restore 17 = .ok (.getfield 40, 3) := by decide +kernel
theorem dX4_restore_20 : decode cX4_restore 20 = .ok (.iload_n 1, 1) := by decide +kernel
theorem dX4_restore_21 : decode cX4_restore 21 = .ok (.aaload, 1) := by decide +kernel
theorem dX4_restore_22 : decode cX4_restore 22 = .ok (.astore_n 2, 1) := by decide +kernel
theorem dX4_restore_23 : decode cX4_restore 23 = .ok (.aload_n 2, 1) := by decide +kernel
theorem dX4_restore_24 : decode cX4_restore 24 = .ok (.ifnonnull 6, 3) := by decide +kernel
theorem dX4_restore_27 : decode cX4_restore 27 = .ok (.bipush (-5), 2) := by decide +kernel
theorem dX4_restore_29 : decode cX4_restore 29 = .ok (.ireturn, 1) := by decide +kernel
theorem dX4_restore_30 : decode cX4_restore 30 = .ok (.aload_n 0, 1) := by decide +kernel
theorem dX4_restore_31 : decode cX4_restore 31 = .ok (.getfield 16, 3) := by decide +kernel
theorem dX4_restore_34 : decode cX4_restore 34 = .ok (.aload_n 2, 1) := by decide +kernel
theorem dX4_restore_35 : decode cX4_restore 35 = .ok (.invokevirtual 187, 3) := by decide +kernel
theorem dX4_restore_38 : decode cX4_restore 38 = .ok (.aload_n 0, 1) := by decide +kernel
theorem dX4_restore_39 : decode cX4_restore 39 = .ok (.aload_n 0, 1) := by decide +kernel
theorem dX4_restore_40 : decode cX4_restore 40 = .ok (.getfield 16, 3) := by decide +kernel
theorem dX4_restore_43 : decode cX4_restore 43 = .ok (.iconst 0, 1) := by decide +kernel
theorem dX4_restore_44 : decode cX4_restore 44 = .ok (.bipush 16, 2) := by decide +kernel
theorem dX4_restore_46 : decode cX4_restore 46 = .ok (.invokevirtual 121, 3) := by decide +kernel
theorem dX4_restore_49 : decode cX4_restore 49 = .ok (.invokevirtual 66, 3) := by decide +kernel
theorem dX4_restore_52 : decode cX4_restore 52 = .ok (.ireturn, 1) := by decide +kernel
set_option maxRecDepth 20000 in
theorem ggX4_freshTrial_X0_becomeLike : GoodIn wsX4_freshTrial wsX0_becomeLike := goodIn_r _ [7, 8, 9, 10, 11, 12, 13, 14, 15, 16, 17, 18, 19, 20, 21, 22, 23, 24, 25, 26, 27, 34, 35, 36, 37, 38, 39, 40, 41, 42] rfl (by decide +kernel)
set_option maxRecDepth 20000 in
theorem gX4_freshTrial_X0_becomeLike : GoodIn wsX4_freshTrial (wsV RX4 187 RX0 yX0_becomeLike wsX0_becomeLike) := goodIn_app (goodIn_of _ (by decide +kernel)) ggX4_freshTrial_X0_becomeLike
theorem dX4_freshTrial_0 : decode cX4_freshTrial 0 = .ok (.aload_n 0, 1) := by decide +kernel
theorem dX4_freshTrial_1 : decode cX4_freshTrial 1 = .ok (.getfield 16, 3) := by decide +kernel
theorem dX4_freshTrial_4 : decode cX4_freshTrial 4 = .ok (.aload_n 0, 1) := by decide +kernel
theorem dX4_freshTrial_5 : decode cX4_freshTrial 5 = .ok (.getfield 12, 3) := by decide +kernel
theorem dX4_freshTrial_8 : decode cX4_freshTrial 8 = .ok (.invokevirtual 187, 3) := by decide +kernel
theorem dX4_freshTrial_11 : decode cX4_freshTrial 11 = .ok (.aload_n 0, 1) := by decide +kernel
theorem dX4_freshTrial_12 : decode cX4_freshTrial 12 = .ok (.getfield 16, 3) := by decide +kernel
theorem dX4_freshTrial_15 : decode cX4_freshTrial 15 = .ok (.areturn, 1) := by decide +kernel
set_option maxRecDepth 20000 in
theorem ggX4_adopt_X1_keep : GoodIn wsX4_adopt wsX1_keep := goodIn_r _ [11, 12, 13, 14, 15, 16, 10, 17, 18, 65, 66, 67] rfl (by decide +kernel)
set_option maxRecDepth 20000 in
theorem gX4_adopt_X1_keep : GoodIn wsX4_adopt (wsV RX4 191 RX1 yX1_keep wsX1_keep) := goodIn_app (goodIn_of _ (by decide +kernel)) ggX4_adopt_X1_keep
set_option maxRecDepth 20000 in
theorem ggX4_adopt_X0_init : GoodIn wsX4_adopt wsX0_init := goodIn_r _ [21, 22, 23, 24, 25, 26, 27, 28, 29, 30, 31, 32, 33, 34, 35, 36, 37, 38, 39, 40, 41, 42, 43, 44, 45, 46, 47, 48, 49, 56, 57, 58, 59, 60, 61, 62, 63, 64] rfl (by decide +kernel)
theorem gX4_adopt_X0_init : GoodIn wsX4_adopt (wsX0_init) := ggX4_adopt_X0_init
theorem dX4_adopt_0 : decode cX4_adopt 0 = .ok (.iload_n 1, 1) := by decide +kernel
theorem dX4_adopt_1 : decode cX4_adopt 1 = .ok (.ifCond .lt 42, 3) := by decide +kernel
theorem dX4_adopt_4 : decode cX4_adopt 4 = .ok (.aload_n 0, 1) := by decide +kernel
theorem dX4_adopt_5 : decode cX4_adopt 5 = .ok (.getfield 36, 3) := by decide +kernel
theorem dX4_adopt_8 : decode cX4_adopt 8 = .ok (.aload_n 0, 1) := by decide +kernel
theorem dX4_adopt_9 : decode cX4_adopt 9 = .ok (.getfield 12, 3) := by decide +kernel
theorem dX4_adopt_12 : decode cX4_adopt 12 = .ok (.invokevirtual 191, 3) := by decide +kernel
theorem dX4_adopt_15 : decode cX4_adopt 15 = .ok (.astore_n 2, 1) := by decide +kernel
theorem dX4_adopt_16 : decode cX4_adopt 16 = .ok (.aload_n 0, 1) := by decide +kernel
theorem dX4_adopt_17 : decode cX4_adopt 17 = .ok (.aload_n 0, 1) := by decide +kernel
theorem dX4_adopt_18 : decode cX4_adopt 18 = .ok (.getfield 16, 3) := by decide +kernel
theorem dX4_adopt_21 : decode cX4_adopt 21 = .ok (.putfield 12, 3) := by decide +kernel
theorem dX4_adopt_24 : decode cX4_adopt 24 = .ok (.aload_n 0, 1) := by decide +kernel
theorem dX4_adopt_25 : decode cX4_adopt 25 = .ok (.aload_n 2, 1) := by decide +kernel
theorem dX4_adopt_26 : decode cX4_adopt 26 = .ok (.ifnonnull 13, 3) := by decide +kernel
theorem dX4_adopt_29 : decode cX4_adopt 29 = .ok (.new 9, 3) := by decide +kernel
theorem dX4_adopt_32 : decode cX4_adopt 32 = .ok (.dup, 1) := by decide +kernel
theorem dX4_adopt_33 : decode cX4_adopt 33 = .ok (.invokespecial 11, 3) := by decide +kernel
theorem dX4_adopt_36 : decode cX4_adopt 36 = .ok (.goto 4, 3) := by decide +kernel
theorem dX4_adopt_39 : decode cX4_adopt 39 = .ok (.aload_n 2, 1) := by decide +kernel
theorem dX4_adopt_40 : decode cX4_adopt 40 = .ok (.putfield 16, 3) := by decide +kernel
theorem dX4_adopt_43 : decode cX4_adopt 43 = .ok (.iload_n 1, 1) := by decide +kernel
theorem dX4_adopt_44 : decode cX4_adopt 44 = .ok (.ireturn, 1) := by decide +kernel
theorem dX4_isAddress_0 : decode cX4_isAddress 0 = .ok (.iload_n 0, 1) := by decide +kernel
theorem dX4_isAddress_1 : decode cX4_isAddress 1 = .ok (.ifCond .lt 14, 3) := by decide +kernel
theorem dX4_isAddress_4 : decode cX4_isAddress 4 = .ok (.iload_n 0, 1) := by decide +kernel
theorem dX4_isAddress_5 : decode cX4_isAddress 5 = .ok (.sipush 192, 3) := by decide +kernel
theorem dX4_isAddress_8 : decode cX4_isAddress 8 = .ok (.if_icmp .ge 7, 3) := by decide +kernel
theorem dX4_isAddress_11 : decode cX4_isAddress 11 = .ok (.iconst 1, 1) := by decide +kernel
theorem dX4_isAddress_12 : decode cX4_isAddress 12 = .ok (.goto 4, 3) := by decide +kernel
theorem dX4_isAddress_15 : decode cX4_isAddress 15 = .ok (.iconst 0, 1) := by decide +kernel
theorem dX4_isAddress_16 : decode cX4_isAddress 16 = .ok (.ireturn, 1) := by decide +kernel
theorem dX4_isTrack_0 : decode cX4_isTrack 0 = .ok (.iload_n 0, 1) := by decide +kernel
theorem dX4_isTrack_1 : decode cX4_isTrack 1 = .ok (.ifCond .lt 13, 3) := by decide +kernel
theorem dX4_isTrack_4 : decode cX4_isTrack 4 = .ok (.iload_n 0, 1) := by decide +kernel
theorem dX4_isTrack_5 : decode cX4_isTrack 5 = .ok (.bipush 16, 2) := by decide +kernel
theorem dX4_isTrack_7 : decode cX4_isTrack 7 = .ok (.if_icmp .gt 7, 3) := by decide +kernel
theorem dX4_isTrack_10 : decode cX4_isTrack 10 = .ok (.iconst 1, 1) := by decide +kernel
theorem dX4_isTrack_11 : decode cX4_isTrack 11 = .ok (.goto 4, 3) := by decide +kernel
theorem dX4_isTrack_14 : decode cX4_isTrack 14 = .ok (.iconst 0, 1) := by decide +kernel
theorem dX4_isTrack_15 : decode cX4_isTrack 15 = .ok (.ireturn, 1) := by decide +kernel
theorem dX4_isSpare_0 : decode cX4_isSpare 0 = .ok (.iload_n 0, 1) := by decide +kernel
theorem dX4_isSpare_1 : decode cX4_isSpare 1 = .ok (.sipush 192, 3) := by decide +kernel
theorem dX4_isSpare_4 : decode cX4_isSpare 4 = .ok (.if_icmp .lt 7, 3) := by decide +kernel
theorem dX4_isSpare_7 : decode cX4_isSpare 7 = .ok (.iconst 1, 1) := by decide +kernel
theorem dX4_isSpare_8 : decode cX4_isSpare 8 = .ok (.goto 4, 3) := by decide +kernel
theorem dX4_isSpare_11 : decode cX4_isSpare 11 = .ok (.iconst 0, 1) := by decide +kernel
theorem dX4_isSpare_12 : decode cX4_isSpare 12 = .ok (.ireturn, 1) := by decide +kernel
theorem dX4_trackOf_0 : decode cX4_trackOf 0 = .ok (.iload_n 0, 1) := by decide +kernel
theorem dX4_trackOf_1 : decode cX4_trackOf 1 = .ok (.bipush 12, 2) := by decide +kernel
theorem dX4_trackOf_3 : decode cX4_trackOf 3 = .ok (.idiv, 1) := by decide +kernel
theorem dX4_trackOf_4 : decode cX4_trackOf 4 = .ok (.ireturn, 1) := by decide +kernel
theorem dX4_signsIn_0 : decode cX4_signsIn 0 = .ok (.lload_n 0, 1) := by decide +kernel
theorem dX4_signsIn_1 : decode cX4_signsIn 1 = .ok (.lstore_n 2, 1) := by decide +kernel
theorem dX4_signsIn_2 : decode cX4_signsIn 2 = .ok (.iconst 0, 1) := by decide +kernel
theorem dX4_signsIn_3 : decode cX4_signsIn 3 = .ok (.istore 4, 2) := by decide +kernel
theorem dX4_signsIn_5 : decode cX4_signsIn 5 = .ok (.lload_n 2, 1) := by decide +kernel
theorem dX4_signsIn_6 : decode cX4_signsIn 6 = .ok (.lconst 0, 1) := by decide +kernel
theorem dX4_signsIn_7 : decode cX4_signsIn 7 = .ok (.lcmp, 1) := by decide +kernel
theorem dX4_signsIn_8 : decode cX4_signsIn 8 = .ok (.ifCond .eq 49, 3) := by decide +kernel
theorem dX4_signsIn_11 : decode cX4_signsIn 11 = .ok (.iload 4, 2) := by decide +kernel
theorem dX4_signsIn_13 : decode cX4_signsIn 13 = .ok (.bipush 8, 2) := by decide +kernel
theorem dX4_signsIn_15 : decode cX4_signsIn 15 = .ok (.if_icmp .ge 42, 3) := by decide +kernel
theorem dX4_signsIn_18 : decode cX4_signsIn 18 = .ok (.lload_n 2, 1) := by decide +kernel
theorem dX4_signsIn_19 : decode cX4_signsIn 19 = .ok (.ldc2_w 194, 3) := by decide +kernel
theorem dX4_signsIn_22 : decode cX4_signsIn 22 = .ok (.land, 1) := by decide +kernel
theorem dX4_signsIn_23 : decode cX4_signsIn 23 = .ok (.lstore 5, 2) := by decide +kernel
theorem dX4_signsIn_25 : decode cX4_signsIn 25 = .ok (.lload 5, 2) := by decide +kernel
theorem dX4_signsIn_27 : decode cX4_signsIn 27 = .ok (.ldc2_w 196, 3) := by decide +kernel
theorem dX4_signsIn_30 : decode cX4_signsIn 30 = .ok (.lcmp, 1) := by decide +kernel
theorem dX4_signsIn_31 : decode cX4_signsIn 31 = .ok (.ifCond .lt 12, 3) := by decide +kernel
theorem dX4_signsIn_34 : decode cX4_signsIn 34 = .ok (.lload 5, 2) := by decide +kernel
theorem dX4_signsIn_36 : decode cX4_signsIn 36 = .ok (.ldc2_w 198, 3) := by decide +kernel
theorem dX4_signsIn_39 : decode cX4_signsIn 39 = .ok (.lcmp, 1) := by decide +kernel
theorem dX4_signsIn_40 : decode cX4_signsIn 40 = .ok (.ifCond .le 6, 3) := by decide +kernel
theorem dX4_signsIn_43 : decode cX4_signsIn 43 = .ok (.bipush (-2), 2) := by decide +kernel
theorem dX4_signsIn_45 : decode cX4_signsIn 45 = .ok (.ireturn, 1) := by decide +kernel
theorem dX4_signsIn_46 : decode cX4_signsIn 46 = .ok (.lload_n 2, 1) := by decide +kernel
theorem dX4_signsIn_47 : decode cX4_signsIn 47 = .ok (.bipush 8, 2) := by decide +kernel
theorem dX4_signsIn_49 : decode cX4_signsIn 49 = .ok (.lushr, 1) := by decide +kernel
theorem dX4_signsIn_50 : decode cX4_signsIn 50 = .ok (.lstore_n 2, 1) := by decide +kernel
theorem dX4_signsIn_51 : decode cX4_signsIn 51 = .ok (.iinc 4 1, 3) := by decide +kernel
theorem dX4_signsIn_54 : decode cX4_signsIn 54 = .ok (.goto (-49), 3) := by decide +kernel
theorem dX4_signsIn_57 : decode cX4_signsIn 57 = .ok (.iload 4, 2) := by decide +kernel
theorem dX4_signsIn_59 : decode cX4_signsIn 59 = .ok (.ireturn, 1) := by decide +kernel
theorem dX4_at_0 : decode cX4_at 0 = .ok (.iload_n 1, 1) := by decide +kernel
theorem dX4_at_1 : decode cX4_at 1 = .ok (.ifCond .lt 15, 3) := by decide +kernel
theorem dX4_at_4 : decode cX4_at 4 = .ok (.iload_n 1, 1) := by decide +kernel
theorem dX4_at_5 : decode cX4_at 5 = .ok (.aload_n 0, 1) := by decide +kernel
theorem dX4_at_6 : decode cX4_at 6 = .ok (.arraylength, 1) := by decide +kernel
theorem dX4_at_7 : decode cX4_at 7 = .ok (.if_icmp .ge 9, 3) := by decide +kernel
theorem dX4_at_10 : decode cX4_at 10 = .ok (.aload_n 0, 1) := by decide +kernel
theorem dX4_at_11 : decode cX4_at 11 = .ok (.iload_n 1, 1) := by decide +kernel
theorem dX4_at_12 : decode cX4_at 12 = .ok (.iaload, 1) := by decide +kernel
theorem dX4_at_13 : decode cX4_at 13 = .ok (.goto 4, 3) := by decide +kernel
theorem dX4_at_16 : decode cX4_at 16 = .ok (.iconst 0, 1) := by decide +kernel
theorem dX4_at_17 : decode cX4_at 17 = .ok (.ireturn, 1) := by decide +kernel
theorem dX4_lay_0 : decode cX4_lay 0 = .ok (.iload_n 1, 1) := by decide +kernel
theorem dX4_lay_1 : decode cX4_lay 1 = .ok (.ifCond .lt 13, 3) := by decide +kernel
theorem dX4_lay_4 : decode cX4_lay 4 = .ok (.iload_n 1, 1) := by decide +kernel
theorem dX4_lay_5 : decode cX4_lay 5 = .ok (.aload_n 0, 1) := by decide +kernel
theorem dX4_lay_6 : decode cX4_lay 6 = .ok (.arraylength, 1) := by decide +kernel
theorem dX4_lay_7 : decode cX4_lay 7 = .ok (.if_icmp .ge 7, 3) := by decide +kernel
theorem dX4_lay_10 : decode cX4_lay 10 = .ok (.aload_n 0, 1) := by decide +kernel
theorem dX4_lay_11 : decode cX4_lay 11 = .ok (.iload_n 1, 1) := by decide +kernel
theorem dX4_lay_12 : decode cX4_lay 12 = .ok (.iload_n 2, 1) := by decide +kernel
theorem dX4_lay_13 : decode cX4_lay 13 = .ok (.iastore, 1) := by decide +kernel
theorem dX4_lay_14 : decode cX4_lay 14 = .ok (.return_, 1) := by decide +kernel
theorem dX4_copyRow_0 : decode cX4_copyRow 0 = .ok (.aload_n 0, 1) := by decide +kernel
theorem dX4_copyRow_1 : decode cX4_copyRow 1 = .ok (.iconst 0, 1) := by decide +kernel
theorem dX4_copyRow_2 : decode cX4_copyRow 2 = .ok (.aload_n 1, 1) := by decide +kernel
theorem dX4_copyRow_3 : decode cX4_copyRow 3 = .ok (.iconst 0, 1) := by decide +kernel
theorem dX4_copyRow_4 : decode cX4_copyRow 4 = .ok (.aload_n 0, 1) := by decide +kernel
theorem dX4_copyRow_5 : decode cX4_copyRow 5 = .ok (.arraylength, 1) := by decide +kernel
theorem dX4_copyRow_6 : decode cX4_copyRow 6 = .ok (.aload_n 1, 1) := by decide +kernel
theorem dX4_copyRow_7 : decode cX4_copyRow 7 = .ok (.arraylength, 1) := by decide +kernel
theorem dX4_copyRow_8 : decode cX4_copyRow 8 = .ok (.invokestatic 200, 3) := by decide +kernel
theorem dX4_copyRow_11 : decode cX4_copyRow 11 = .ok (.invokestatic 205, 3) := by decide +kernel
theorem dX4_copyRow_14 : decode cX4_copyRow 14 = .ok (.return_, 1) := by decide +kernel
theorem dX5_init_0 : decode cX5_init 0 = .ok (.aload_n 0, 1) := by decide +kernel
theorem dX5_init_1 : decode cX5_init 1 = .ok (.invokespecial 1, 3) := by decide +kernel
theorem dX5_init_4 : decode cX5_init 4 = .ok (.aload_n 0, 1) := by decide +kernel
theorem dX5_init_5 : decode cX5_init 5 = .ok (.sipush 816, 3) := by decide +kernel
theorem dX5_init_8 : decode cX5_init 8 = .ok (.newarray .int, 2) := by decide +kernel
theorem dX5_init_10 : decode cX5_init 10 = .ok (.putfield 7, 3) := by decide +kernel
theorem dX5_init_13 : decode cX5_init 13 = .ok (.aload_n 0, 1) := by decide +kernel
theorem dX5_init_14 : decode cX5_init 14 = .ok (.sipush 816, 3) := by decide +kernel
theorem dX5_init_17 : decode cX5_init 17 = .ok (.newarray .int, 2) := by decide +kernel
theorem dX5_init_19 : decode cX5_init 19 = .ok (.putfield 13, 3) := by decide +kernel
theorem dX5_init_22 : decode cX5_init 22 = .ok (.aload_n 0, 1) := by decide +kernel
theorem dX5_init_23 : decode cX5_init 23 = .ok (.sipush 4896, 3) := by decide +kernel
theorem dX5_init_26 : decode cX5_init 26 = .ok (.newarray .int, 2) := by decide +kernel
theorem dX5_init_28 : decode cX5_init 28 = .ok (.putfield 16, 3) := by decide +kernel
theorem dX5_init_31 : decode cX5_init 31 = .ok (.aload_n 0, 1) := by decide +kernel
theorem dX5_init_32 : decode cX5_init 32 = .ok (.sipush 1632, 3) := by decide +kernel
theorem dX5_init_35 : decode cX5_init 35 = .ok (.newarray .int, 2) := by decide +kernel
theorem dX5_init_37 : decode cX5_init 37 = .ok (.putfield 19, 3) := by decide +kernel
theorem dX5_init_40 : decode cX5_init 40 = .ok (.aload_n 0, 1) := by decide +kernel
theorem dX5_init_41 : decode cX5_init 41 = .ok (.iconst 2, 1) := by decide +kernel
theorem dX5_init_42 : decode cX5_init 42 = .ok (.newarray .int, 2) := by decide +kernel
theorem dX5_init_44 : decode cX5_init 44 = .ok (.putfield 22, 3) := by decide +kernel
theorem dX5_init_47 : decode cX5_init 47 = .ok (.aload_n 0, 1) := by decide +kernel
theorem dX5_init_48 : decode cX5_init 48 = .ok (.bipush 60, 2) := by decide +kernel
theorem dX5_init_50 : decode cX5_init 50 = .ok (.newarray .int, 2) := by decide +kernel
theorem dX5_init_52 : decode cX5_init 52 = .ok (.putfield 25, 3) := by decide +kernel
theorem dX5_init_55 : decode cX5_init 55 = .ok (.aload_n 0, 1) := by decide +kernel
theorem dX5_init_56 : decode cX5_init 56 = .ok (.bipush 30, 2) := by decide +kernel
theorem dX5_init_58 : decode cX5_init 58 = .ok (.newarray .int, 2) := by decide +kernel
theorem dX5_init_60 : decode cX5_init 60 = .ok (.putfield 28, 3) := by decide +kernel
theorem dX5_init_63 : decode cX5_init 63 = .ok (.aload_n 0, 1) := by decide +kernel
theorem dX5_init_64 : decode cX5_init 64 = .ok (.bipush 30, 2) := by decide +kernel
theorem dX5_init_66 : decode cX5_init 66 = .ok (.newarray .int, 2) := by decide +kernel
theorem dX5_init_68 : decode cX5_init 68 = .ok (.putfield 31, 3) := by decide +kernel
theorem dX5_init_71 : decode cX5_init 71 = .ok (.aload_n 0, 1) := by decide +kernel
theorem dX5_init_72 : decode cX5_init 72 = .ok (.bipush 30, 2) := by decide +kernel
theorem dX5_init_74 : decode cX5_init 74 = .ok (.newarray .int, 2) := by decide +kernel
theorem dX5_init_76 : decode cX5_init 76 = .ok (.putfield 34, 3) := by decide +kernel
theorem dX5_init_79 : decode cX5_init 79 = .ok (.aload_n 0, 1) := by decide +kernel
theorem dX5_init_80 : decode cX5_init 80 = .ok (.getfield 7, 3) := by decide +kernel
theorem dX5_init_83 : decode cX5_init 83 = .ok (.iconst 0, 1) := by decide +kernel
theorem dX5_init_84 : decode cX5_init 84 = .ok (.iconst 4, 1) := by decide +kernel
theorem dX5_init_85 : decode cX5_init 85 = .ok (.iastore, 1) := by decide +kernel
theorem dX5_init_86 : decode cX5_init 86 = .ok (.aload_n 0, 1) := by decide +kernel
theorem dX5_init_87 : decode cX5_init 87 = .ok (.getfield 7, 3) := by decide +kernel
theorem dX5_init_90 : decode cX5_init 90 = .ok (.iconst 1, 1) := by decide +kernel
theorem dX5_init_91 : decode cX5_init 91 = .ok (.iconst 1, 1) := by decide +kernel
theorem dX5_init_92 : decode cX5_init 92 = .ok (.iastore, 1) := by decide +kernel
theorem dX5_init_93 : decode cX5_init 93 = .ok (.aload_n 0, 1) := by decide +kernel
theorem dX5_init_94 : decode cX5_init 94 = .ok (.getfield 7, 3) := by decide +kernel
theorem dX5_init_97 : decode cX5_init 97 = .ok (.iconst 2, 1) := by decide +kernel
theorem dX5_init_98 : decode cX5_init 98 = .ok (.bipush 30, 2) := by decide +kernel
theorem dX5_init_100 : decode cX5_init 100 = .ok (.iastore, 1) := by decide +kernel
theorem dX5_init_101 : decode cX5_init 101 = .ok (.aload_n 0, 1) := by decide +kernel
theorem dX5_init_102 : decode cX5_init 102 = .ok (.getfield 7, 3) := by decide +kernel
theorem dX5_init_105 : decode cX5_init 105 = .ok (.iconst 3, 1) := by decide +kernel
theorem dX5_init_106 : decode cX5_init 106 = .ok (.bipush 20, 2) := by decide +kernel
theorem dX5_init_108 : decode cX5_init 108 = .ok (.iastore, 1) := by decide +kernel
theorem dX5_init_109 : decode cX5_init 109 = .ok (.aload_n 0, 1) := by decide +kernel
theorem dX5_init_110 : decode cX5_init 110 = .ok (.getfield 7, 3) := by decide +kernel
theorem dX5_init_113 : decode cX5_init 113 = .ok (.iconst 4, 1) := by decide +kernel
theorem dX5_init_114 : decode cX5_init 114 = .ok (.iconst 2, 1) := by decide +kernel
theorem dX5_init_115 : decode cX5_init 115 = .ok (.iastore, 1) := by decide +kernel
theorem dX5_init_116 : decode cX5_init 116 = .ok (.aload_n 0, 1) := by decide +kernel
theorem dX5_init_117 : decode cX5_init 117 = .ok (.getfield 7, 3) := by decide +kernel
theorem dX5_init_120 : decode cX5_init 120 = .ok (.bipush 7, 2) := by decide +kernel
theorem dX5_init_122 : decode cX5_init 122 = .ok (.bipush 12, 2) := by decide +kernel
theorem dX5_init_124 : decode cX5_init 124 = .ok (.iastore, 1) := by decide +kernel
theorem dX5_init_125 : decode cX5_init 125 = .ok (.iconst 0, 1) := by decide +kernel
theorem dX5_init_126 : decode cX5_init 126 = .ok (.istore_n 1, 1) := by decide +kernel
theorem dX5_init_127 : decode cX5_init 127 = .ok (.iload_n 1, 1) := by decide +kernel
theorem dX5_init_128 : decode cX5_init 128 = .ok (.sipush 204, 3) := by decide +kernel
theorem dX5_init_131 : decode cX5_init 131 = .ok (.if_icmp .ge 20, 3) := by decide +kernel
theorem dX5_init_134 : decode cX5_init 134 = .ok (.aload_n 0, 1) := by decide +kernel
theorem dX5_init_135 : decode cX5_init 135 = .ok (.getfield 7, 3) := by decide +kernel
theorem dX5_init_138 : decode cX5_init 138 = .ok (.bipush 12, 2) := by decide +kernel
theorem dX5_init_140 : decode cX5_init 140 = .ok (.iload_n 1, 1) := by decide +kernel
theorem dX5_init_141 : decode cX5_init 141 = .ok (.iadd, 1) := by decide +kernel
theorem dX5_init_142 : decode cX5_init 142 = .ok (.bipush (-6), 2) := by decide +kernel
theorem dX5_init_144 : decode cX5_init 144 = .ok (.iastore, 1) := by decide +kernel
theorem dX5_init_145 : decode cX5_init 145 = .ok (.iinc 1 1, 3) := by decide +kernel
theorem dX5_init_148 : decode cX5_init 148 = .ok (.goto (-21), 3) := by decide +kernel
theorem dX5_init_151 : decode cX5_init 151 = .ok (.iconst 0, 1) := by decide +kernel
theorem dX5_init_152 : decode cX5_init 152 = .ok (.istore_n 1, 1) := by decide +kernel
theorem dX5_init_153 : decode cX5_init 153 = .ok (.iload_n 1, 1) := by decide +kernel
theorem dX5_init_154 : decode cX5_init 154 = .ok (.sipush 192, 3) := by decide +kernel
theorem dX5_init_157 : decode cX5_init 157 = .ok (.if_icmp .ge 21, 3) := by decide +kernel
theorem dX5_init_160 : decode cX5_init 160 = .ok (.aload_n 0, 1) := by decide +kernel
theorem dX5_init_161 : decode cX5_init 161 = .ok (.getfield 7, 3) := by decide +kernel
theorem dX5_init_164 : decode cX5_init 164 = .ok (.sipush 624, 3) := by decide +kernel
theorem dX5_init_167 : decode cX5_init 167 = .ok (.iload_n 1, 1) := by decide +kernel
theorem dX5_init_168 : decode cX5_init 168 = .ok (.iadd, 1) := by decide +kernel
theorem dX5_init_169 : decode cX5_init 169 = .ok (.bipush (-6), 2) := by decide +kernel
theorem dX5_init_171 : decode cX5_init 171 = .ok (.iastore, 1) := by decide +kernel
theorem dX5_init_172 : decode cX5_init 172 = .ok (.iinc 1 1, 3) := by decide +kernel
theorem dX5_init_175 : decode cX5_init 175 = .ok (.goto (-22), 3) := by decide +kernel
theorem dX5_init_178 : decode cX5_init 178 = .ok (.return_, 1) := by decide +kernel
theorem dX5_in_0 : decode cX5_in 0 = .ok (.lload_n 0, 1) := by decide +kernel
theorem dX5_in_1 : decode cX5_in 1 = .ok (.lload_n 2, 1) := by decide +kernel
theorem dX5_in_2 : decode cX5_in 2 = .ok (.lcmp, 1) := by decide +kernel
theorem dX5_in_3 : decode cX5_in 3 = .ok (.ifCond .lt 14, 3) := by decide +kernel
theorem dX5_in_6 : decode cX5_in 6 = .ok (.lload_n 0, 1) := by decide +kernel
theorem dX5_in_7 : decode cX5_in 7 = .ok (.lload 4, 2) := by decide +kernel
theorem dX5_in_9 : decode cX5_in 9 = .ok (.lcmp, 1) := by decide +kernel
theorem dX5_in_10 : decode cX5_in 10 = .ok (.ifCond .gt 7, 3) := by decide +kernel
theorem dX5_in_13 : decode cX5_in 13 = .ok (.iconst 1, 1) := by decide +kernel
theorem dX5_in_14 : decode cX5_in 14 = .ok (.goto 4, 3) := by decide +kernel
theorem dX5_in_17 : decode cX5_in 17 = .ok (.iconst 0, 1) := by decide +kernel
theorem dX5_in_18 : decode cX5_in 18 = .ok (.ireturn, 1) := by decide +kernel
theorem dX5_records_0 : decode cX5_records 0 = .ok (.aload_n 0, 1) := by decide +kernel
theorem dX5_records_1 : decode cX5_records 1 = .ok (.getfield 37, 3) := by decide +kernel
theorem dX5_records_4 : decode cX5_records 4 = .ok (.bipush 6, 2) := by decide +kernel
theorem dX5_records_6 : decode cX5_records 6 = .ok (.if_icmp .ne 44, 3) := by decide +kernel
theorem dX5_records_9 : decode cX5_records 9 = .ok (.iconst 0, 1) := by decide +kernel
theorem dX5_records_10 : decode cX5_records 10 = .ok (.istore_n 1, 1) := by decide +kernel
theorem dX5_records_11 : decode cX5_records 11 = .ok (.iload_n 1, 1) := by decide +kernel
theorem dX5_records_12 : decode cX5_records 12 = .ok (.sipush 4080, 3) := by decide +kernel
theorem dX5_records_15 : decode cX5_records 15 = .ok (.if_icmp .ge 25, 3) := by decide +kernel
theorem dX5_records_18 : decode cX5_records 18 = .ok (.aload_n 0, 1) := by decide +kernel
theorem dX5_records_19 : decode cX5_records 19 = .ok (.getfield 16, 3) := by decide +kernel
theorem dX5_records_22 : decode cX5_records 22 = .ok (.iload_n 1, 1) := by decide +kernel
theorem dX5_records_23 : decode cX5_records 23 = .ok (.aload_n 0, 1) := by decide +kernel
theorem dX5_records_24 : decode cX5_records 24 = .ok (.getfield 16, 3) := by decide +kernel
theorem dX5_records_27 : decode cX5_records 27 = .ok (.iload_n 1, 1) := by decide +kernel
theorem dX5_records_28 : decode cX5_records 28 = .ok (.sipush 816, 3) := by decide +kernel
theorem dX5_records_31 : decode cX5_records 31 = .ok (.iadd, 1) := by decide +kernel
theorem dX5_records_32 : decode cX5_records 32 = .ok (.iaload, 1) := by decide +kernel
theorem dX5_records_33 : decode cX5_records 33 = .ok (.iastore, 1) := by decide +kernel
theorem dX5_records_34 : decode cX5_records 34 = .ok (.iinc 1 1, 3) := by decide +kernel
theorem dX5_records_37 : decode cX5_records 37 = .ok (.goto (-26), 3) := by decide +kernel
theorem dX5_records_40 : decode cX5_records 40 = .ok (.aload_n 0, 1) := by decide +kernel
theorem dX5_records_41 : decode cX5_records 41 = .ok (.dup, 1) := by decide +kernel
theorem dX5_records_42 : decode cX5_records 42 = .ok (.getfield 37, 3) := by decide +kernel
theorem dX5_records_45 : decode cX5_records 45 = .ok (.iconst 1, 1) := by decide +kernel
theorem dX5_records_46 : decode cX5_records 46 = .ok (.isub, 1) := by decide +kernel
theorem dX5_records_47 : decode cX5_records 47 = .ok (.putfield 37, 3) := by decide +kernel
theorem dX5_records_50 : decode cX5_records 50 = .ok (.iconst 0, 1) := by decide +kernel
theorem dX5_records_51 : decode cX5_records 51 = .ok (.istore_n 1, 1) := by decide +kernel
theorem dX5_records_52 : decode cX5_records 52 = .ok (.iload_n 1, 1) := by decide +kernel
theorem dX5_records_53 : decode cX5_records 53 = .ok (.sipush 816, 3) := by decide +kernel
theorem dX5_records_56 : decode cX5_records 56 = .ok (.if_icmp .ge 30, 3) := by decide +kernel
theorem dX5_records_59 : decode cX5_records 59 = .ok (.aload_n 0, 1) := by decide +kernel
theorem dX5_records_60 : decode cX5_records 60 = .ok (.getfield 16, 3) := by decide +kernel
theorem dX5_records_63 : decode cX5_records 63 = .ok (.sipush 816, 3) := by decide +kernel
theorem dX5_records_66 : decode cX5_records 66 = .ok (.aload_n 0, 1) := by decide +kernel
theorem dX5_records_67 : decode cX5_records 67 = .ok (.getfield 37, 3) := by decide +kernel
theorem dX5_records_70 : decode cX5_records 70 = .ok (.imul, 1) := by decide +kernel
theorem dX5_records_71 : decode cX5_records 71 = .ok (.iload_n 1, 1) := by decide +kernel
theorem dX5_records_72 : decode cX5_records 72 = .ok (.iadd, 1) := by decide +kernel
theorem dX5_records_73 : decode cX5_records 73 = .ok (.aload_n 0, 1) := by decide +kernel
theorem dX5_records_74 : decode cX5_records 74 = .ok (.getfield 13, 3) := by decide +kernel
theorem dX5_records_77 : decode cX5_records 77 = .ok (.iload_n 1, 1) := by decide +kernel
theorem dX5_records_78 : decode cX5_records 78 = .ok (.iaload, 1) := by decide +kernel
theorem dX5_records_79 : decode cX5_records 79 = .ok (.iastore, 1) := by decide +kernel
theorem dX5_records_80 : decode cX5_records 80 = .ok (.iinc 1 1, 3) := by decide +kernel
theorem dX5_records_83 : decode cX5_records 83 = .ok (.goto (-31), 3) := by decide +kernel
theorem dX5_records_86 : decode cX5_records 86 = .ok (.aload_n 0, 1) := by decide +kernel
theorem dX5_records_87 : decode cX5_records 87 = .ok (.dup, 1) := by decide +kernel
theorem dX5_records_88 : decode cX5_records 88 = .ok (.getfield 37, 3) := by decide +kernel
theorem dX5_records_91 : decode cX5_records 91 = .ok (.iconst 1, 1) := by decide +kernel
theorem dX5_records_92 : decode cX5_records 92 = .ok (.iadd, 1) := by decide +kernel
theorem dX5_records_93 : decode cX5_records 93 = .ok (.putfield 37, 3) := by decide +kernel
theorem dX5_records_96 : decode cX5_records 96 = .ok (.return_, 1) := by decide +kernel
theorem dX5_keeps_0 : decode cX5_keeps 0 = .ok (.iconst 0, 1) := by decide +kernel
theorem dX5_keeps_1 : decode cX5_keeps 1 = .ok (.istore_n 1, 1) := by decide +kernel
theorem dX5_keeps_2 : decode cX5_keeps 2 = .ok (.iload_n 1, 1) := by decide +kernel
theorem dX5_keeps_3 : decode cX5_keeps 3 = .ok (.sipush 816, 3) := by decide +kernel
theorem dX5_keeps_6 : decode cX5_keeps 6 = .ok (.if_icmp .ge 21, 3) := by decide +kernel
theorem dX5_keeps_9 : decode cX5_keeps 9 = .ok (.aload_n 0, 1) := by decide +kernel
theorem dX5_keeps_10 : decode cX5_keeps 10 = .ok (.getfield 13, 3) := by decide +kernel
theorem dX5_keeps_13 : decode cX5_keeps 13 = .ok (.iload_n 1, 1) := by decide +kernel
theorem dX5_keeps_14 : decode cX5_keeps 14 = .ok (.aload_n 0, 1) := by decide +kernel
theorem dX5_keeps_15 : decode cX5_keeps 15 = .ok (.getfield 7, 3) := by decide +kernel
theorem dX5_keeps_18 : decode cX5_keeps 18 = .ok (.iload_n 1, 1) := by decide +kernel
theorem dX5_keeps_19 : decode cX5_keeps 19 = .ok (.iaload, 1) := by decide +kernel
theorem dX5_keeps_20 : decode cX5_keeps 20 = .ok (.iastore, 1) := by decide +kernel
theorem dX5_keeps_21 : decode cX5_keeps 21 = .ok (.iinc 1 1, 3) := by decide +kernel
theorem dX5_keeps_24 : decode cX5_keeps 24 = .ok (.goto (-22), 3) := by decide +kernel
theorem dX5_keeps_27 : decode cX5_keeps 27 = .ok (.return_, 1) := by decide +kernel
theorem dX5_comesBack_0 : decode cX5_comesBack 0 = .ok (.iconst 0, 1) := by decide +kernel
theorem dX5_comesBack_1 : decode cX5_comesBack 1 = .ok (.istore_n 1, 1) := by decide +kernel
theorem dX5_comesBack_2 : decode cX5_comesBack 2 = .ok (.iload_n 1, 1) := by decide +kernel
theorem dX5_comesBack_3 : decode cX5_comesBack 3 = .ok (.sipush 816, 3) := by decide +kernel
theorem dX5_comesBack_6 : decode cX5_comesBack 6 = .ok (.if_icmp .ge 21, 3) := by decide +kernel
theorem dX5_comesBack_9 : decode cX5_comesBack 9 = .ok (.aload_n 0, 1) := by decide +kernel
theorem dX5_comesBack_10 : decode cX5_comesBack 10 = .ok (.getfield 7, 3) := by decide +kernel
theorem dX5_comesBack_13 : decode cX5_comesBack 13 = .ok (.iload_n 1, 1) := by decide +kernel
theorem dX5_comesBack_14 : decode cX5_comesBack 14 = .ok (.aload_n 0, 1) := by decide +kernel
theorem dX5_comesBack_15 : decode cX5_comesBack 15 = .ok (.getfield 13, 3) := by decide +kernel
theorem dX5_comesBack_18 : decode cX5_comesBack 18 = .ok (.iload_n 1, 1) := by decide +kernel
theorem dX5_comesBack_19 : decode cX5_comesBack 19 = .ok (.iaload, 1) := by decide +kernel
theorem dX5_comesBack_20 : decode cX5_comesBack 20 = .ok (.iastore, 1) := by decide +kernel
theorem dX5_comesBack_21 : decode cX5_comesBack 21 = .ok (.iinc 1 1, 3) := by decide +kernel
theorem dX5_comesBack_24 : decode cX5_comesBack 24 = .ok (.goto (-22), 3) := by decide +kernel
theorem dX5_comesBack_27 : decode cX5_comesBack 27 = .ok (.return_, 1) := by decide +kernel
set_option maxRecDepth 20000 in
theorem ggX5_ends_X5_comesBack : GoodIn wsX5_ends wsX5_comesBack := goodIn_r _ [5, 6, 7, 14, 15, 16, 17, 18, 19, 20, 21, 22, 23, 24, 25, 26, 27] rfl (by decide +kernel)
set_option maxRecDepth 20000 in
theorem gX5_ends_X5_comesBack : GoodIn wsX5_ends (wsV RX5 41 RX5 yX5_comesBack wsX5_comesBack) := goodIn_app (goodIn_of _ (by decide +kernel)) ggX5_ends_X5_comesBack
set_option maxRecDepth 20000 in
theorem ggX5_ends_X5_records : GoodIn wsX5_ends wsX5_records := goodIn_r _ [11, 12, 13, 7, 14, 15, 16, 17, 18, 19, 20, 21, 22, 23, 24, 25, 26, 27] rfl (by decide +kernel)
set_option maxRecDepth 20000 in
theorem gX5_ends_X5_records : GoodIn wsX5_ends (wsV RX5 44 RX5 yX5_records wsX5_records) := goodIn_app (goodIn_of _ (by decide +kernel)) ggX5_ends_X5_records
theorem dX5_ends_0 : decode cX5_ends 0 = .ok (.iload_n 1, 1) := by decide +kernel
theorem dX5_ends_1 : decode cX5_ends 1 = .ok (.ifCond .ge 10, 3) := by decide +kernel
theorem dX5_ends_4 : decode cX5_ends 4 = .ok (.aload_n 0, 1) := by decide +kernel
theorem dX5_ends_5 : decode cX5_ends 5 = .ok (.invokevirtual 41, 3) := by decide +kernel
theorem dX5_ends_8 : decode cX5_ends 8 = .ok (.goto 7, 3) := by decide +kernel
theorem dX5_ends_11 : decode cX5_ends 11 = .ok (.aload_n 0, 1) := by decide +kernel
theorem dX5_ends_12 : decode cX5_ends 12 = .ok (.invokevirtual 44, 3) := by decide +kernel
theorem dX5_ends_15 : decode cX5_ends 15 = .ok (.iload_n 1, 1) := by decide +kernel
theorem dX5_ends_16 : decode cX5_ends 16 = .ok (.ireturn, 1) := by decide +kernel
set_option maxRecDepth 20000 in
theorem ggX5_isAddress_X5_in : GoodIn wsX5_isAddress wsX5_in := goodIn_r _ [5] rfl (by decide +kernel)
set_option maxRecDepth 20000 in
theorem gX5_isAddress_X5_in : GoodIn wsX5_isAddress (va_wsS RX5 49 yX5_in wsX5_in) := goodIn_app (goodIn_of _ (by decide +kernel)) ggX5_isAddress_X5_in
theorem dX5_isAddress_0 : decode cX5_isAddress 0 = .ok (.iload_n 0, 1) := by decide +kernel
theorem dX5_isAddress_1 : decode cX5_isAddress 1 = .ok (.i2l, 1) := by decide +kernel
theorem dX5_isAddress_2 : decode cX5_isAddress 2 = .ok (.lconst 0, 1) := by decide +kernel
theorem dX5_isAddress_3 : decode cX5_isAddress 3 = .ok (.ldc2_w 47, 3) := by decide +kernel
theorem dX5_isAddress_6 : decode cX5_isAddress 6 = .ok (.invokestatic 49, 3) := by decide +kernel
theorem dX5_isAddress_9 : decode cX5_isAddress 9 = .ok (.ireturn, 1) := by decide +kernel
theorem dX5_sectorOf_0 : decode cX5_sectorOf 0 = .ok (.aload_n 0, 1) := by decide +kernel
theorem dX5_sectorOf_1 : decode cX5_sectorOf 1 = .ok (.getfield 7, 3) := by decide +kernel
theorem dX5_sectorOf_4 : decode cX5_sectorOf 4 = .ok (.sipush 624, 3) := by decide +kernel
theorem dX5_sectorOf_7 : decode cX5_sectorOf 7 = .ok (.iload_n 1, 1) := by decide +kernel
theorem dX5_sectorOf_8 : decode cX5_sectorOf 8 = .ok (.iadd, 1) := by decide +kernel
theorem dX5_sectorOf_9 : decode cX5_sectorOf 9 = .ok (.iaload, 1) := by decide +kernel
theorem dX5_sectorOf_10 : decode cX5_sectorOf 10 = .ok (.bipush (-6), 2) := by decide +kernel
theorem dX5_sectorOf_12 : decode cX5_sectorOf 12 = .ok (.if_icmp .ne 7, 3) := by decide +kernel
theorem dX5_sectorOf_15 : decode cX5_sectorOf 15 = .ok (.iload_n 1, 1) := by decide +kernel
theorem dX5_sectorOf_16 : decode cX5_sectorOf 16 = .ok (.goto 17, 3) := by decide +kernel
theorem dX5_sectorOf_19 : decode cX5_sectorOf 19 = .ok (.sipush 192, 3) := by decide +kernel
theorem dX5_sectorOf_22 : decode cX5_sectorOf 22 = .ok (.aload_n 0, 1) := by decide +kernel
theorem dX5_sectorOf_23 : decode cX5_sectorOf 23 = .ok (.getfield 7, 3) := by decide +kernel
theorem dX5_sectorOf_26 : decode cX5_sectorOf 26 = .ok (.sipush 624, 3) := by decide +kernel
theorem dX5_sectorOf_29 : decode cX5_sectorOf 29 = .ok (.iload_n 1, 1) := by decide +kernel
theorem dX5_sectorOf_30 : decode cX5_sectorOf 30 = .ok (.iadd, 1) := by decide +kernel
theorem dX5_sectorOf_31 : decode cX5_sectorOf 31 = .ok (.iaload, 1) := by decide +kernel
theorem dX5_sectorOf_32 : decode cX5_sectorOf 32 = .ok (.iadd, 1) := by decide +kernel
theorem dX5_sectorOf_33 : decode cX5_sectorOf 33 = .ok (.ireturn, 1) := by decide +kernel
set_option maxRecDepth 20000 in
theorem ggX5_sectorToWrite_X5_sectorOf : GoodIn wsX5_sectorToWrite wsX5_sectorOf := goodIn_r _ [6, 1, 7, 8, 9, 10, 11, 12, 13, 14, 15, 16, 17, 18, 19, 20] rfl (by decide +kernel)
set_option maxRecDepth 20000 in
theorem gX5_sectorToWrite_X5_sectorOf : GoodIn wsX5_sectorToWrite (wsV RX5 53 RX5 yX5_sectorOf wsX5_sectorOf) := goodIn_app (goodIn_of _ (by decide +kernel)) ggX5_sectorToWrite_X5_sectorOf
theorem dX5_sectorToWrite_0 : decode cX5_sectorToWrite 0 = .ok (.aload_n 0, 1) := by decide +kernel
theorem dX5_sectorToWrite_1 : decode cX5_sectorToWrite 1 = .ok (.iload_n 1, 1) := by decide +kernel
theorem dX5_sectorToWrite_2 : decode cX5_sectorToWrite 2 = .ok (.invokevirtual 53, 3) := by decide +kernel
theorem dX5_sectorToWrite_5 : decode cX5_sectorToWrite 5 = .ok (.istore_n 2, 1) := by decide +kernel
theorem dX5_sectorToWrite_6 : decode cX5_sectorToWrite 6 = .ok (.aload_n 0, 1) := by decide +kernel
theorem dX5_sectorToWrite_7 : decode cX5_sectorToWrite 7 = .ok (.getfield 7, 3) := by decide +kernel
theorem dX5_sectorToWrite_10 : decode cX5_sectorToWrite 10 = .ok (.sipush 420, 3) := by decide +kernel
theorem dX5_sectorToWrite_13 : decode cX5_sectorToWrite 13 = .ok (.iload_n 2, 1) := by decide +kernel
theorem dX5_sectorToWrite_14 : decode cX5_sectorToWrite 14 = .ok (.iadd, 1) := by decide +kernel
theorem dX5_sectorToWrite_15 : decode cX5_sectorToWrite 15 = .ok (.iaload, 1) := by decide +kernel
theorem dX5_sectorToWrite_16 : decode cX5_sectorToWrite 16 = .ok (.aload_n 0, 1) := by decide +kernel
theorem dX5_sectorToWrite_17 : decode cX5_sectorToWrite 17 = .ok (.getfield 7, 3) := by decide +kernel
theorem dX5_sectorToWrite_20 : decode cX5_sectorToWrite 20 = .ok (.iconst 3, 1) := by decide +kernel
theorem dX5_sectorToWrite_21 : decode cX5_sectorToWrite 21 = .ok (.iaload, 1) := by decide +kernel
theorem dX5_sectorToWrite_22 : decode cX5_sectorToWrite 22 = .ok (.if_icmp .lt 17, 3) := by decide +kernel
theorem dX5_sectorToWrite_25 : decode cX5_sectorToWrite 25 = .ok (.aload_n 0, 1) := by decide +kernel
theorem dX5_sectorToWrite_26 : decode cX5_sectorToWrite 26 = .ok (.getfield 7, 3) := by decide +kernel
theorem dX5_sectorToWrite_29 : decode cX5_sectorToWrite 29 = .ok (.bipush 7, 2) := by decide +kernel
theorem dX5_sectorToWrite_31 : decode cX5_sectorToWrite 31 = .ok (.iaload, 1) := by decide +kernel
theorem dX5_sectorToWrite_32 : decode cX5_sectorToWrite 32 = .ok (.ifCond .le 7, 3) := by decide +kernel
theorem dX5_sectorToWrite_35 : decode cX5_sectorToWrite 35 = .ok (.iconst 1, 1) := by decide +kernel
theorem dX5_sectorToWrite_36 : decode cX5_sectorToWrite 36 = .ok (.goto 4, 3) := by decide +kernel
theorem dX5_sectorToWrite_39 : decode cX5_sectorToWrite 39 = .ok (.iconst 0, 1) := by decide +kernel
theorem dX5_sectorToWrite_40 : decode cX5_sectorToWrite 40 = .ok (.istore_n 3, 1) := by decide +kernel
theorem dX5_sectorToWrite_41 : decode cX5_sectorToWrite 41 = .ok (.iload_n 3, 1) := by decide +kernel
theorem dX5_sectorToWrite_42 : decode cX5_sectorToWrite 42 = .ok (.ifCond .eq 17, 3) := by decide +kernel
theorem dX5_sectorToWrite_45 : decode cX5_sectorToWrite 45 = .ok (.sipush 204, 3) := by decide +kernel
theorem dX5_sectorToWrite_48 : decode cX5_sectorToWrite 48 = .ok (.aload_n 0, 1) := by decide +kernel
theorem dX5_sectorToWrite_49 : decode cX5_sectorToWrite 49 = .ok (.getfield 7, 3) := by decide +kernel
theorem dX5_sectorToWrite_52 : decode cX5_sectorToWrite 52 = .ok (.bipush 7, 2) := by decide +kernel
theorem dX5_sectorToWrite_54 : decode cX5_sectorToWrite 54 = .ok (.iaload, 1) := by decide +kernel
theorem dX5_sectorToWrite_55 : decode cX5_sectorToWrite 55 = .ok (.isub, 1) := by decide +kernel
theorem dX5_sectorToWrite_56 : decode cX5_sectorToWrite 56 = .ok (.goto 4, 3) := by decide +kernel
theorem dX5_sectorToWrite_59 : decode cX5_sectorToWrite 59 = .ok (.iload_n 2, 1) := by decide +kernel
theorem dX5_sectorToWrite_60 : decode cX5_sectorToWrite 60 = .ok (.ireturn, 1) := by decide +kernel
set_option maxRecDepth 20000 in
theorem ggX5_holds_X5_sectorOf : GoodIn wsX5_holds wsX5_sectorOf := goodIn_r _ [6, 1, 7, 8, 9, 10, 11, 12, 13, 14, 15, 16, 17, 18, 19, 20] rfl (by decide +kernel)
set_option maxRecDepth 20000 in
theorem gX5_holds_X5_sectorOf : GoodIn wsX5_holds (wsV RX5 53 RX5 yX5_sectorOf wsX5_sectorOf) := goodIn_app (goodIn_of _ (by decide +kernel)) ggX5_holds_X5_sectorOf
theorem dX5_holds_0 : decode cX5_holds 0 = .ok (.aload_n 0, 1) := by decide +kernel
theorem dX5_holds_1 : decode cX5_holds 1 = .ok (.getfield 7, 3) := by decide +kernel
theorem dX5_holds_4 : decode cX5_holds 4 = .ok (.bipush 12, 2) := by decide +kernel
theorem dX5_holds_6 : decode cX5_holds 6 = .ok (.aload_n 0, 1) := by decide +kernel
theorem dX5_holds_7 : decode cX5_holds 7 = .ok (.iload_n 1, 1) := by decide +kernel
theorem dX5_holds_8 : decode cX5_holds 8 = .ok (.invokevirtual 53, 3) := by decide +kernel
theorem dX5_holds_11 : decode cX5_holds 11 = .ok (.iadd, 1) := by decide +kernel
theorem dX5_holds_12 : decode cX5_holds 12 = .ok (.iaload, 1) := by decide +kernel
theorem dX5_holds_13 : decode cX5_holds 13 = .ok (.bipush (-6), 2) := by decide +kernel
theorem dX5_holds_15 : decode cX5_holds 15 = .ok (.if_icmp .eq 7, 3) := by decide +kernel
theorem dX5_holds_18 : decode cX5_holds 18 = .ok (.iconst 1, 1) := by decide +kernel
theorem dX5_holds_19 : decode cX5_holds 19 = .ok (.goto 4, 3) := by decide +kernel
theorem dX5_holds_22 : decode cX5_holds 22 = .ok (.iconst 0, 1) := by decide +kernel
theorem dX5_holds_23 : decode cX5_holds 23 = .ok (.ireturn, 1) := by decide +kernel
set_option maxRecDepth 20000 in
theorem ggX5_canBeRead_X5_holds : GoodIn wsX5_canBeRead wsX5_holds := goodIn_r _ [6, 1, 7, 8, 9, 5, 10, 11, 12, 13, 14, 15, 16, 17, 18, 19, 20, 21, 22, 23, 24] rfl (by decide +kernel)
set_option maxRecDepth 20000 in
theorem gX5_canBeRead_X5_holds : GoodIn wsX5_canBeRead (wsV RX5 57 RX5 yX5_holds wsX5_holds) := goodIn_app (goodIn_of _ (by decide +kernel)) ggX5_canBeRead_X5_holds
set_option maxRecDepth 20000 in
theorem ggX5_canBeRead_X5_sectorOf : GoodIn wsX5_canBeRead wsX5_sectorOf := goodIn_r _ [10, 1, 11, 12, 13, 14, 15, 16, 17, 18, 19, 20, 21, 22, 23, 24] rfl (by decide +kernel)
set_option maxRecDepth 20000 in
theorem gX5_canBeRead_X5_sectorOf : GoodIn wsX5_canBeRead (wsV RX5 53 RX5 yX5_sectorOf wsX5_sectorOf) := goodIn_app (goodIn_of _ (by decide +kernel)) ggX5_canBeRead_X5_sectorOf
theorem dX5_canBeRead_0 : decode cX5_canBeRead 0 = .ok (.aload_n 0, 1) := by decide +kernel
theorem dX5_canBeRead_1 : decode cX5_canBeRead 1 = .ok (.iload_n 1, 1) := by decide +kernel
theorem dX5_canBeRead_2 : decode cX5_canBeRead 2 = .ok (.invokevirtual 57, 3) := by decide +kernel
theorem dX5_canBeRead_5 : decode cX5_canBeRead 5 = .ok (.ifCond .eq 30, 3) := by decide +kernel
theorem dX5_canBeRead_8 : decode cX5_canBeRead 8 = .ok (.aload_n 0, 1) := by decide +kernel
theorem dX5_canBeRead_9 : decode cX5_canBeRead 9 = .ok (.getfield 7, 3) := by decide +kernel
theorem dX5_canBeRead_12 : decode cX5_canBeRead 12 = .ok (.sipush 216, 3) := by decide +kernel
theorem dX5_canBeRead_15 : decode cX5_canBeRead 15 = .ok (.aload_n 0, 1) := by decide +kernel
theorem dX5_canBeRead_16 : decode cX5_canBeRead 16 = .ok (.iload_n 1, 1) := by decide +kernel
theorem dX5_canBeRead_17 : decode cX5_canBeRead 17 = .ok (.invokevirtual 53, 3) := by decide +kernel
theorem dX5_canBeRead_20 : decode cX5_canBeRead 20 = .ok (.iadd, 1) := by decide +kernel
theorem dX5_canBeRead_21 : decode cX5_canBeRead 21 = .ok (.iaload, 1) := by decide +kernel
theorem dX5_canBeRead_22 : decode cX5_canBeRead 22 = .ok (.aload_n 0, 1) := by decide +kernel
theorem dX5_canBeRead_23 : decode cX5_canBeRead 23 = .ok (.getfield 7, 3) := by decide +kernel
theorem dX5_canBeRead_26 : decode cX5_canBeRead 26 = .ok (.iconst 2, 1) := by decide +kernel
theorem dX5_canBeRead_27 : decode cX5_canBeRead 27 = .ok (.iaload, 1) := by decide +kernel
theorem dX5_canBeRead_28 : decode cX5_canBeRead 28 = .ok (.if_icmp .ge 7, 3) := by decide +kernel
theorem dX5_canBeRead_31 : decode cX5_canBeRead 31 = .ok (.iconst 1, 1) := by decide +kernel
theorem dX5_canBeRead_32 : decode cX5_canBeRead 32 = .ok (.goto 4, 3) := by decide +kernel
theorem dX5_canBeRead_35 : decode cX5_canBeRead 35 = .ok (.iconst 0, 1) := by decide +kernel
theorem dX5_canBeRead_36 : decode cX5_canBeRead 36 = .ok (.ireturn, 1) := by decide +kernel
theorem dX5_takes_0 : decode cX5_takes 0 = .ok (.iload_n 1, 1) := by decide +kernel
theorem dX5_takes_1 : decode cX5_takes 1 = .ok (.bipush 12, 2) := by decide +kernel
theorem dX5_takes_3 : decode cX5_takes 3 = .ok (.idiv, 1) := by decide +kernel
theorem dX5_takes_4 : decode cX5_takes 4 = .ok (.aload_n 0, 1) := by decide +kernel
theorem dX5_takes_5 : decode cX5_takes 5 = .ok (.getfield 7, 3) := by decide +kernel
theorem dX5_takes_8 : decode cX5_takes 8 = .ok (.bipush 6, 2) := by decide +kernel
theorem dX5_takes_10 : decode cX5_takes 10 = .ok (.iaload, 1) := by decide +kernel
theorem dX5_takes_11 : decode cX5_takes 11 = .ok (.isub, 1) := by decide +kernel
theorem dX5_takes_12 : decode cX5_takes 12 = .ok (.istore_n 2, 1) := by decide +kernel
theorem dX5_takes_13 : decode cX5_takes 13 = .ok (.aload_n 0, 1) := by decide +kernel
theorem dX5_takes_14 : decode cX5_takes 14 = .ok (.getfield 7, 3) := by decide +kernel
theorem dX5_takes_17 : decode cX5_takes 17 = .ok (.iconst 4, 1) := by decide +kernel
theorem dX5_takes_18 : decode cX5_takes 18 = .ok (.iaload, 1) := by decide +kernel
theorem dX5_takes_19 : decode cX5_takes 19 = .ok (.iload_n 2, 1) := by decide +kernel
theorem dX5_takes_20 : decode cX5_takes 20 = .ok (.ifCond .ge 8, 3) := by decide +kernel
theorem dX5_takes_23 : decode cX5_takes 23 = .ok (.iload_n 2, 1) := by decide +kernel
theorem dX5_takes_24 : decode cX5_takes 24 = .ok (.ineg, 1) := by decide +kernel
theorem dX5_takes_25 : decode cX5_takes 25 = .ok (.goto 4, 3) := by decide +kernel
theorem dX5_takes_28 : decode cX5_takes 28 = .ok (.iload_n 2, 1) := by decide +kernel
theorem dX5_takes_29 : decode cX5_takes 29 = .ok (.imul, 1) := by decide +kernel
theorem dX5_takes_30 : decode cX5_takes 30 = .ok (.istore_n 3, 1) := by decide +kernel
theorem dX5_takes_31 : decode cX5_takes 31 = .ok (.iload_n 1, 1) := by decide +kernel
theorem dX5_takes_32 : decode cX5_takes 32 = .ok (.bipush 12, 2) := by decide +kernel
theorem dX5_takes_34 : decode cX5_takes 34 = .ok (.irem, 1) := by decide +kernel
theorem dX5_takes_35 : decode cX5_takes 35 = .ok (.bipush 12, 2) := by decide +kernel
theorem dX5_takes_37 : decode cX5_takes 37 = .ok (.iadd, 1) := by decide +kernel
theorem dX5_takes_38 : decode cX5_takes 38 = .ok (.aload_n 0, 1) := by decide +kernel
theorem dX5_takes_39 : decode cX5_takes 39 = .ok (.getfield 7, 3) := by decide +kernel
theorem dX5_takes_42 : decode cX5_takes 42 = .ok (.iconst 5, 1) := by decide +kernel
theorem dX5_takes_43 : decode cX5_takes 43 = .ok (.iaload, 1) := by decide +kernel
theorem dX5_takes_44 : decode cX5_takes 44 = .ok (.iload_n 3, 1) := by decide +kernel
theorem dX5_takes_45 : decode cX5_takes 45 = .ok (.iadd, 1) := by decide +kernel
theorem dX5_takes_46 : decode cX5_takes 46 = .ok (.bipush 12, 2) := by decide +kernel
theorem dX5_takes_48 : decode cX5_takes 48 = .ok (.irem, 1) := by decide +kernel
theorem dX5_takes_49 : decode cX5_takes 49 = .ok (.isub, 1) := by decide +kernel
theorem dX5_takes_50 : decode cX5_takes 50 = .ok (.bipush 12, 2) := by decide +kernel
theorem dX5_takes_52 : decode cX5_takes 52 = .ok (.irem, 1) := by decide +kernel
theorem dX5_takes_53 : decode cX5_takes 53 = .ok (.istore 4, 2) := by decide +kernel
theorem dX5_takes_55 : decode cX5_takes 55 = .ok (.iload_n 3, 1) := by decide +kernel
theorem dX5_takes_56 : decode cX5_takes 56 = .ok (.iload 4, 2) := by decide +kernel
theorem dX5_takes_58 : decode cX5_takes 58 = .ok (.iadd, 1) := by decide +kernel
theorem dX5_takes_59 : decode cX5_takes 59 = .ok (.iconst 1, 1) := by decide +kernel
theorem dX5_takes_60 : decode cX5_takes 60 = .ok (.iadd, 1) := by decide +kernel
theorem dX5_takes_61 : decode cX5_takes 61 = .ok (.ireturn, 1) := by decide +kernel
set_option maxRecDepth 20000 in
theorem ggX5_goes_X5_takes : GoodIn wsX5_goes wsX5_takes := goodIn_r _ [6, 1, 7, 8, 9, 10, 11, 12, 13, 14, 15, 16, 17, 18, 19, 20] rfl (by decide +kernel)
set_option maxRecDepth 20000 in
theorem gX5_goes_X5_takes : GoodIn wsX5_goes (wsV RX5 61 RX5 yX5_takes wsX5_takes) := goodIn_app (goodIn_of _ (by decide +kernel)) ggX5_goes_X5_takes
theorem dX5_goes_0 : decode cX5_goes 0 = .ok (.aload_n 0, 1) := by decide +kernel
theorem dX5_goes_1 : decode cX5_goes 1 = .ok (.getfield 7, 3) := by decide +kernel
theorem dX5_goes_4 : decode cX5_goes 4 = .ok (.iconst 5, 1) := by decide +kernel
theorem dX5_goes_5 : decode cX5_goes 5 = .ok (.dup2, 1) := by decide +kernel
theorem dX5_goes_6 : decode cX5_goes 6 = .ok (.iaload, 1) := by decide +kernel
theorem dX5_goes_7 : decode cX5_goes 7 = .ok (.aload_n 0, 1) := by decide +kernel
theorem dX5_goes_8 : decode cX5_goes 8 = .ok (.iload_n 1, 1) := by decide +kernel
theorem dX5_goes_9 : decode cX5_goes 9 = .ok (.invokevirtual 61, 3) := by decide +kernel
theorem dX5_goes_12 : decode cX5_goes 12 = .ok (.iadd, 1) := by decide +kernel
theorem dX5_goes_13 : decode cX5_goes 13 = .ok (.iastore, 1) := by decide +kernel
theorem dX5_goes_14 : decode cX5_goes 14 = .ok (.aload_n 0, 1) := by decide +kernel
theorem dX5_goes_15 : decode cX5_goes 15 = .ok (.getfield 7, 3) := by decide +kernel
theorem dX5_goes_18 : decode cX5_goes 18 = .ok (.bipush 6, 2) := by decide +kernel
theorem dX5_goes_20 : decode cX5_goes 20 = .ok (.iload_n 1, 1) := by decide +kernel
theorem dX5_goes_21 : decode cX5_goes 21 = .ok (.bipush 12, 2) := by decide +kernel
theorem dX5_goes_23 : decode cX5_goes 23 = .ok (.idiv, 1) := by decide +kernel
theorem dX5_goes_24 : decode cX5_goes 24 = .ok (.iastore, 1) := by decide +kernel
theorem dX5_goes_25 : decode cX5_goes 25 = .ok (.return_, 1) := by decide +kernel
set_option maxRecDepth 20000 in
theorem ggX5_heats_X5_isAddress : GoodIn wsX5_heats wsX5_isAddress := goodIn_r _ [5, 6, 7, 8, 4, 9] rfl (by decide +kernel)
set_option maxRecDepth 20000 in
theorem gX5_heats_X5_isAddress : GoodIn wsX5_heats (va_wsS RX5 64 yX5_isAddress wsX5_isAddress) := goodIn_app (goodIn_of _ (by decide +kernel)) ggX5_heats_X5_isAddress
theorem dX5_heats_0 : decode cX5_heats 0 = .ok (.iload_n 1, 1) := by decide +kernel
theorem dX5_heats_1 : decode cX5_heats 1 = .ok (.invokestatic 64, 3) := by decide +kernel
theorem dX5_heats_4 : decode cX5_heats 4 = .ok (.ifCond .eq 67, 3) := by decide +kernel
theorem dX5_heats_7 : decode cX5_heats 7 = .ok (.aload_n 0, 1) := by decide +kernel
theorem dX5_heats_8 : decode cX5_heats 8 = .ok (.getfield 7, 3) := by decide +kernel
theorem dX5_heats_11 : decode cX5_heats 11 = .ok (.sipush 624, 3) := by decide +kernel
theorem dX5_heats_14 : decode cX5_heats 14 = .ok (.iload_n 1, 1) := by decide +kernel
theorem dX5_heats_15 : decode cX5_heats 15 = .ok (.iadd, 1) := by decide +kernel
theorem dX5_heats_16 : decode cX5_heats 16 = .ok (.iaload, 1) := by decide +kernel
theorem dX5_heats_17 : decode cX5_heats 17 = .ok (.bipush (-6), 2) := by decide +kernel
theorem dX5_heats_19 : decode cX5_heats 19 = .ok (.if_icmp .ne 52, 3) := by decide +kernel
theorem dX5_heats_22 : decode cX5_heats 22 = .ok (.aload_n 0, 1) := by decide +kernel
theorem dX5_heats_23 : decode cX5_heats 23 = .ok (.getfield 7, 3) := by decide +kernel
theorem dX5_heats_26 : decode cX5_heats 26 = .ok (.bipush 12, 2) := by decide +kernel
theorem dX5_heats_28 : decode cX5_heats 28 = .ok (.iload_n 1, 1) := by decide +kernel
theorem dX5_heats_29 : decode cX5_heats 29 = .ok (.iadd, 1) := by decide +kernel
theorem dX5_heats_30 : decode cX5_heats 30 = .ok (.iaload, 1) := by decide +kernel
theorem dX5_heats_31 : decode cX5_heats 31 = .ok (.bipush (-6), 2) := by decide +kernel
theorem dX5_heats_33 : decode cX5_heats 33 = .ok (.if_icmp .eq 38, 3) := by decide +kernel
theorem dX5_heats_36 : decode cX5_heats 36 = .ok (.aload_n 0, 1) := by decide +kernel
theorem dX5_heats_37 : decode cX5_heats 37 = .ok (.getfield 7, 3) := by decide +kernel
theorem dX5_heats_40 : decode cX5_heats 40 = .ok (.sipush 216, 3) := by decide +kernel
theorem dX5_heats_43 : decode cX5_heats 43 = .ok (.iload_n 1, 1) := by decide +kernel
theorem dX5_heats_44 : decode cX5_heats 44 = .ok (.iadd, 1) := by decide +kernel
theorem dX5_heats_45 : decode cX5_heats 45 = .ok (.iaload, 1) := by decide +kernel
theorem dX5_heats_46 : decode cX5_heats 46 = .ok (.iload_n 2, 1) := by decide +kernel
theorem dX5_heats_47 : decode cX5_heats 47 = .ok (.iadd, 1) := by decide +kernel
theorem dX5_heats_48 : decode cX5_heats 48 = .ok (.istore_n 3, 1) := by decide +kernel
theorem dX5_heats_49 : decode cX5_heats 49 = .ok (.aload_n 0, 1) := by decide +kernel
theorem dX5_heats_50 : decode cX5_heats 50 = .ok (.getfield 7, 3) := by decide +kernel
theorem dX5_heats_53 : decode cX5_heats 53 = .ok (.sipush 216, 3) := by decide +kernel
theorem dX5_heats_56 : decode cX5_heats 56 = .ok (.iload_n 1, 1) := by decide +kernel
theorem dX5_heats_57 : decode cX5_heats 57 = .ok (.iadd, 1) := by decide +kernel
theorem dX5_heats_58 : decode cX5_heats 58 = .ok (.iload_n 3, 1) := by decide +kernel
theorem dX5_heats_59 : decode cX5_heats 59 = .ok (.bipush 99, 2) := by decide +kernel
theorem dX5_heats_61 : decode cX5_heats 61 = .ok (.if_icmp .le 8, 3) := by decide +kernel
theorem dX5_heats_64 : decode cX5_heats 64 = .ok (.bipush 99, 2) := by decide +kernel
theorem dX5_heats_66 : decode cX5_heats 66 = .ok (.goto 4, 3) := by decide +kernel
theorem dX5_heats_69 : decode cX5_heats 69 = .ok (.iload_n 3, 1) := by decide +kernel
theorem dX5_heats_70 : decode cX5_heats 70 = .ok (.iastore, 1) := by decide +kernel
theorem dX5_heats_71 : decode cX5_heats 71 = .ok (.return_, 1) := by decide +kernel
set_option maxRecDepth 20000 in
theorem ggX5_puts_X5_sectorToWrite : GoodIn wsX5_puts wsX5_sectorToWrite := goodIn_r _ [6, 1, 7, 8, 9, 5, 10, 22, 23, 24, 25, 26, 27, 28, 29, 30, 31, 32, 33, 34, 35] rfl (by decide +kernel)
set_option maxRecDepth 20000 in
theorem gX5_puts_X5_sectorToWrite : GoodIn wsX5_puts (wsV RX5 67 RX5 yX5_sectorToWrite wsX5_sectorToWrite) := goodIn_app (goodIn_of _ (by decide +kernel)) ggX5_puts_X5_sectorToWrite
set_option maxRecDepth 20000 in
theorem ggX5_puts_X5_sectorOf : GoodIn wsX5_puts wsX5_sectorOf := goodIn_r _ [10, 1, 22, 23, 24, 25, 26, 27, 28, 29, 30, 31, 32, 33, 34, 35] rfl (by decide +kernel)
set_option maxRecDepth 20000 in
theorem gX5_puts_X5_sectorOf : GoodIn wsX5_puts (wsV RX5 53 RX5 yX5_sectorOf wsX5_sectorOf) := goodIn_app (goodIn_of _ (by decide +kernel)) ggX5_puts_X5_sectorOf
set_option maxRecDepth 20000 in
theorem ggX5_puts_X5_heats : GoodIn wsX5_puts wsX5_heats := goodIn_r _ [14, 1, 15, 16, 5, 17, 18, 19, 20, 21, 22, 23, 24, 25, 26, 27, 28, 29, 30, 31, 32, 33, 34, 35] rfl (by decide +kernel)
set_option maxRecDepth 20000 in
theorem gX5_puts_X5_heats : GoodIn wsX5_puts (wsV RX5 70 RX5 yX5_heats wsX5_heats) := goodIn_app (goodIn_of _ (by decide +kernel)) ggX5_puts_X5_heats
theorem dX5_puts_0 : decode cX5_puts 0 = .ok (.aload_n 0, 1) := by decide +kernel
theorem dX5_puts_1 : decode cX5_puts 1 = .ok (.iload_n 1, 1) := by decide +kernel
theorem dX5_puts_2 : decode cX5_puts 2 = .ok (.invokevirtual 67, 3) := by decide +kernel
theorem dX5_puts_5 : decode cX5_puts 5 = .ok (.istore_n 3, 1) := by decide +kernel
theorem dX5_puts_6 : decode cX5_puts 6 = .ok (.iload_n 3, 1) := by decide +kernel
theorem dX5_puts_7 : decode cX5_puts 7 = .ok (.aload_n 0, 1) := by decide +kernel
theorem dX5_puts_8 : decode cX5_puts 8 = .ok (.iload_n 1, 1) := by decide +kernel
theorem dX5_puts_9 : decode cX5_puts 9 = .ok (.invokevirtual 53, 3) := by decide +kernel
theorem dX5_puts_12 : decode cX5_puts 12 = .ok (.if_icmp .eq 29, 3) := by decide +kernel
theorem dX5_puts_15 : decode cX5_puts 15 = .ok (.aload_n 0, 1) := by decide +kernel
theorem dX5_puts_16 : decode cX5_puts 16 = .ok (.getfield 7, 3) := by decide +kernel
theorem dX5_puts_19 : decode cX5_puts 19 = .ok (.sipush 624, 3) := by decide +kernel
theorem dX5_puts_22 : decode cX5_puts 22 = .ok (.iload_n 1, 1) := by decide +kernel
theorem dX5_puts_23 : decode cX5_puts 23 = .ok (.iadd, 1) := by decide +kernel
theorem dX5_puts_24 : decode cX5_puts 24 = .ok (.iload_n 3, 1) := by decide +kernel
theorem dX5_puts_25 : decode cX5_puts 25 = .ok (.sipush 192, 3) := by decide +kernel
theorem dX5_puts_28 : decode cX5_puts 28 = .ok (.isub, 1) := by decide +kernel
theorem dX5_puts_29 : decode cX5_puts 29 = .ok (.iastore, 1) := by decide +kernel
theorem dX5_puts_30 : decode cX5_puts 30 = .ok (.aload_n 0, 1) := by decide +kernel
theorem dX5_puts_31 : decode cX5_puts 31 = .ok (.getfield 7, 3) := by decide +kernel
theorem dX5_puts_34 : decode cX5_puts 34 = .ok (.bipush 7, 2) := by decide +kernel
theorem dX5_puts_36 : decode cX5_puts 36 = .ok (.dup2, 1) := by decide +kernel
theorem dX5_puts_37 : decode cX5_puts 37 = .ok (.iaload, 1) := by decide +kernel
theorem dX5_puts_38 : decode cX5_puts 38 = .ok (.iconst 1, 1) := by decide +kernel
theorem dX5_puts_39 : decode cX5_puts 39 = .ok (.isub, 1) := by decide +kernel
theorem dX5_puts_40 : decode cX5_puts 40 = .ok (.iastore, 1) := by decide +kernel
theorem dX5_puts_41 : decode cX5_puts 41 = .ok (.aload_n 0, 1) := by decide +kernel
theorem dX5_puts_42 : decode cX5_puts 42 = .ok (.getfield 7, 3) := by decide +kernel
theorem dX5_puts_45 : decode cX5_puts 45 = .ok (.bipush 12, 2) := by decide +kernel
theorem dX5_puts_47 : decode cX5_puts 47 = .ok (.iload_n 3, 1) := by decide +kernel
theorem dX5_puts_48 : decode cX5_puts 48 = .ok (.iadd, 1) := by decide +kernel
theorem dX5_puts_49 : decode cX5_puts 49 = .ok (.iload_n 2, 1) := by decide +kernel
theorem dX5_puts_50 : decode cX5_puts 50 = .ok (.iastore, 1) := by decide +kernel
theorem dX5_puts_51 : decode cX5_puts 51 = .ok (.aload_n 0, 1) := by decide +kernel
theorem dX5_puts_52 : decode cX5_puts 52 = .ok (.getfield 7, 3) := by decide +kernel
theorem dX5_puts_55 : decode cX5_puts 55 = .ok (.sipush 216, 3) := by decide +kernel
theorem dX5_puts_58 : decode cX5_puts 58 = .ok (.iload_n 3, 1) := by decide +kernel
theorem dX5_puts_59 : decode cX5_puts 59 = .ok (.iadd, 1) := by decide +kernel
theorem dX5_puts_60 : decode cX5_puts 60 = .ok (.iconst 0, 1) := by decide +kernel
theorem dX5_puts_61 : decode cX5_puts 61 = .ok (.iastore, 1) := by decide +kernel
theorem dX5_puts_62 : decode cX5_puts 62 = .ok (.aload_n 0, 1) := by decide +kernel
theorem dX5_puts_63 : decode cX5_puts 63 = .ok (.getfield 7, 3) := by decide +kernel
theorem dX5_puts_66 : decode cX5_puts 66 = .ok (.sipush 420, 3) := by decide +kernel
theorem dX5_puts_69 : decode cX5_puts 69 = .ok (.iload_n 3, 1) := by decide +kernel
theorem dX5_puts_70 : decode cX5_puts 70 = .ok (.iadd, 1) := by decide +kernel
theorem dX5_puts_71 : decode cX5_puts 71 = .ok (.dup2, 1) := by decide +kernel
theorem dX5_puts_72 : decode cX5_puts 72 = .ok (.iaload, 1) := by decide +kernel
theorem dX5_puts_73 : decode cX5_puts 73 = .ok (.iconst 1, 1) := by decide +kernel
theorem dX5_puts_74 : decode cX5_puts 74 = .ok (.iadd, 1) := by decide +kernel
theorem dX5_puts_75 : decode cX5_puts 75 = .ok (.iastore, 1) := by decide +kernel
theorem dX5_puts_76 : decode cX5_puts 76 = .ok (.aload_n 0, 1) := by decide +kernel
theorem dX5_puts_77 : decode cX5_puts 77 = .ok (.getfield 7, 3) := by decide +kernel
theorem dX5_puts_80 : decode cX5_puts 80 = .ok (.bipush 8, 2) := by decide +kernel
theorem dX5_puts_82 : decode cX5_puts 82 = .ok (.dup2, 1) := by decide +kernel
theorem dX5_puts_83 : decode cX5_puts 83 = .ok (.iaload, 1) := by decide +kernel
theorem dX5_puts_84 : decode cX5_puts 84 = .ok (.iconst 1, 1) := by decide +kernel
theorem dX5_puts_85 : decode cX5_puts 85 = .ok (.iadd, 1) := by decide +kernel
theorem dX5_puts_86 : decode cX5_puts 86 = .ok (.iastore, 1) := by decide +kernel
theorem dX5_puts_87 : decode cX5_puts 87 = .ok (.iload_n 3, 1) := by decide +kernel
theorem dX5_puts_88 : decode cX5_puts 88 = .ok (.sipush 192, 3) := by decide +kernel
theorem dX5_puts_91 : decode cX5_puts 91 = .ok (.if_icmp .ge 99, 3) := by decide +kernel
theorem dX5_puts_94 : decode cX5_puts 94 = .ok (.aload_n 0, 1) := by decide +kernel
theorem dX5_puts_95 : decode cX5_puts 95 = .ok (.iload_n 3, 1) := by decide +kernel
theorem dX5_puts_96 : decode cX5_puts 96 = .ok (.bipush 12, 2) := by decide +kernel
theorem dX5_puts_98 : decode cX5_puts 98 = .ok (.isub, 1) := by decide +kernel
theorem dX5_puts_99 : decode cX5_puts 99 = .ok (.aload_n 0, 1) := by decide +kernel
theorem dX5_puts_100 : decode cX5_puts 100 = .ok (.getfield 7, 3) := by decide +kernel
theorem dX5_puts_103 : decode cX5_puts 103 = .ok (.iconst 0, 1) := by decide +kernel
theorem dX5_puts_104 : decode cX5_puts 104 = .ok (.iaload, 1) := by decide +kernel
theorem dX5_puts_105 : decode cX5_puts 105 = .ok (.invokevirtual 70, 3) := by decide +kernel
theorem dX5_puts_108 : decode cX5_puts 108 = .ok (.aload_n 0, 1) := by decide +kernel
theorem dX5_puts_109 : decode cX5_puts 109 = .ok (.iload_n 3, 1) := by decide +kernel
theorem dX5_puts_110 : decode cX5_puts 110 = .ok (.bipush 12, 2) := by decide +kernel
theorem dX5_puts_112 : decode cX5_puts 112 = .ok (.iadd, 1) := by decide +kernel
theorem dX5_puts_113 : decode cX5_puts 113 = .ok (.aload_n 0, 1) := by decide +kernel
theorem dX5_puts_114 : decode cX5_puts 114 = .ok (.getfield 7, 3) := by decide +kernel
theorem dX5_puts_117 : decode cX5_puts 117 = .ok (.iconst 0, 1) := by decide +kernel
theorem dX5_puts_118 : decode cX5_puts 118 = .ok (.iaload, 1) := by decide +kernel
theorem dX5_puts_119 : decode cX5_puts 119 = .ok (.invokevirtual 70, 3) := by decide +kernel
theorem dX5_puts_122 : decode cX5_puts 122 = .ok (.aload_n 0, 1) := by decide +kernel
theorem dX5_puts_123 : decode cX5_puts 123 = .ok (.iload_n 3, 1) := by decide +kernel
theorem dX5_puts_124 : decode cX5_puts 124 = .ok (.bipush 24, 2) := by decide +kernel
theorem dX5_puts_126 : decode cX5_puts 126 = .ok (.isub, 1) := by decide +kernel
theorem dX5_puts_127 : decode cX5_puts 127 = .ok (.aload_n 0, 1) := by decide +kernel
theorem dX5_puts_128 : decode cX5_puts 128 = .ok (.getfield 7, 3) := by decide +kernel
theorem dX5_puts_131 : decode cX5_puts 131 = .ok (.iconst 1, 1) := by decide +kernel
theorem dX5_puts_132 : decode cX5_puts 132 = .ok (.iaload, 1) := by decide +kernel
theorem dX5_puts_133 : decode cX5_puts 133 = .ok (.invokevirtual 70, 3) := by decide +kernel
theorem dX5_puts_136 : decode cX5_puts 136 = .ok (.aload_n 0, 1) := by decide +kernel
theorem dX5_puts_137 : decode cX5_puts 137 = .ok (.iload_n 3, 1) := by decide +kernel
theorem dX5_puts_138 : decode cX5_puts 138 = .ok (.bipush 24, 2) := by decide +kernel
theorem dX5_puts_140 : decode cX5_puts 140 = .ok (.iadd, 1) := by decide +kernel
theorem dX5_puts_141 : decode cX5_puts 141 = .ok (.aload_n 0, 1) := by decide +kernel
theorem dX5_puts_142 : decode cX5_puts 142 = .ok (.getfield 7, 3) := by decide +kernel
theorem dX5_puts_145 : decode cX5_puts 145 = .ok (.iconst 1, 1) := by decide +kernel
theorem dX5_puts_146 : decode cX5_puts 146 = .ok (.iaload, 1) := by decide +kernel
theorem dX5_puts_147 : decode cX5_puts 147 = .ok (.invokevirtual 70, 3) := by decide +kernel
theorem dX5_puts_150 : decode cX5_puts 150 = .ok (.aload_n 0, 1) := by decide +kernel
theorem dX5_puts_151 : decode cX5_puts 151 = .ok (.getfield 7, 3) := by decide +kernel
theorem dX5_puts_154 : decode cX5_puts 154 = .ok (.bipush 10, 2) := by decide +kernel
theorem dX5_puts_156 : decode cX5_puts 156 = .ok (.dup2, 1) := by decide +kernel
theorem dX5_puts_157 : decode cX5_puts 157 = .ok (.iaload, 1) := by decide +kernel
theorem dX5_puts_158 : decode cX5_puts 158 = .ok (.iload_n 3, 1) := by decide +kernel
theorem dX5_puts_159 : decode cX5_puts 159 = .ok (.bipush 12, 2) := by decide +kernel
theorem dX5_puts_161 : decode cX5_puts 161 = .ok (.idiv, 1) := by decide +kernel
theorem dX5_puts_162 : decode cX5_puts 162 = .ok (.iconst 2, 1) := by decide +kernel
theorem dX5_puts_163 : decode cX5_puts 163 = .ok (.irem, 1) := by decide +kernel
theorem dX5_puts_164 : decode cX5_puts 164 = .ok (.ifCond .ne 7, 3) := by decide +kernel
theorem dX5_puts_167 : decode cX5_puts 167 = .ok (.iconst 1, 1) := by decide +kernel
theorem dX5_puts_168 : decode cX5_puts 168 = .ok (.goto 4, 3) := by decide +kernel
theorem dX5_puts_171 : decode cX5_puts 171 = .ok (.iconst 0, 1) := by decide +kernel
theorem dX5_puts_172 : decode cX5_puts 172 = .ok (.iadd, 1) := by decide +kernel
theorem dX5_puts_173 : decode cX5_puts 173 = .ok (.iastore, 1) := by decide +kernel
theorem dX5_puts_174 : decode cX5_puts 174 = .ok (.aload_n 0, 1) := by decide +kernel
theorem dX5_puts_175 : decode cX5_puts 175 = .ok (.getfield 7, 3) := by decide +kernel
theorem dX5_puts_178 : decode cX5_puts 178 = .ok (.bipush 11, 2) := by decide +kernel
theorem dX5_puts_180 : decode cX5_puts 180 = .ok (.dup2, 1) := by decide +kernel
theorem dX5_puts_181 : decode cX5_puts 181 = .ok (.iaload, 1) := by decide +kernel
theorem dX5_puts_182 : decode cX5_puts 182 = .ok (.iload_n 3, 1) := by decide +kernel
theorem dX5_puts_183 : decode cX5_puts 183 = .ok (.bipush 12, 2) := by decide +kernel
theorem dX5_puts_185 : decode cX5_puts 185 = .ok (.idiv, 1) := by decide +kernel
theorem dX5_puts_186 : decode cX5_puts 186 = .ok (.iconst 2, 1) := by decide +kernel
theorem dX5_puts_187 : decode cX5_puts 187 = .ok (.irem, 1) := by decide +kernel
theorem dX5_puts_188 : decode cX5_puts 188 = .ok (.iadd, 1) := by decide +kernel
theorem dX5_puts_189 : decode cX5_puts 189 = .ok (.iastore, 1) := by decide +kernel
theorem dX5_puts_190 : decode cX5_puts 190 = .ok (.return_, 1) := by decide +kernel
set_option maxRecDepth 20000 in
theorem ggX5_doWrite_X5_sectorToWrite : GoodIn wsX5_doWrite wsX5_sectorToWrite := goodIn_r _ [7, 1, 8, 9, 10, 6, 11, 35, 36, 37, 38, 39, 40, 41, 42, 43, 44, 45, 46, 47, 48] rfl (by decide +kernel)
set_option maxRecDepth 20000 in
theorem gX5_doWrite_X5_sectorToWrite : GoodIn wsX5_doWrite (wsV RX5 67 RX5 yX5_sectorToWrite wsX5_sectorToWrite) := goodIn_app (goodIn_of _ (by decide +kernel)) ggX5_doWrite_X5_sectorToWrite
set_option maxRecDepth 20000 in
theorem ggX5_doWrite_X5_takes : GoodIn wsX5_doWrite wsX5_takes := goodIn_r _ [15, 1, 35, 36, 37, 38, 39, 40, 41, 42, 43, 44, 45, 46, 47, 48] rfl (by decide +kernel)
set_option maxRecDepth 20000 in
theorem gX5_doWrite_X5_takes : GoodIn wsX5_doWrite (wsV RX5 61 RX5 yX5_takes wsX5_takes) := goodIn_app (goodIn_of _ (by decide +kernel)) ggX5_doWrite_X5_takes
set_option maxRecDepth 20000 in
theorem ggX5_doWrite_X5_goes : GoodIn wsX5_doWrite wsX5_goes := goodIn_r _ [19, 1, 12, 13, 14, 6, 15, 35, 36, 37, 38, 39, 40, 41, 42, 43, 44, 45, 46, 47, 48] rfl (by decide +kernel)
set_option maxRecDepth 20000 in
theorem gX5_doWrite_X5_goes : GoodIn wsX5_doWrite (wsV RX5 75 RX5 yX5_goes wsX5_goes) := goodIn_app (goodIn_of _ (by decide +kernel)) ggX5_doWrite_X5_goes
set_option maxRecDepth 20000 in
theorem ggX5_doWrite_X5_puts : GoodIn wsX5_doWrite wsX5_puts := goodIn_r _ [23, 1, 3, 4, 5, 6, 7, 8, 9, 10, 11, 24, 25, 26, 27, 28, 29, 30, 31, 32, 33, 34, 35, 36, 37, 38, 39, 40, 41, 42, 43, 44, 45, 46, 47, 48] rfl (by decide +kernel)
set_option maxRecDepth 20000 in
theorem gX5_doWrite_X5_puts : GoodIn wsX5_doWrite (wsV RX5 79 RX5 yX5_puts wsX5_puts) := goodIn_app (goodIn_of _ (by decide +kernel)) ggX5_doWrite_X5_puts
theorem dX5_doWrite_0 : decode cX5_doWrite 0 = .ok (.aload_n 0, 1) := by decide +kernel
theorem dX5_doWrite_1 : decode cX5_doWrite 1 = .ok (.iload_n 1, 1) := by decide +kernel
theorem dX5_doWrite_2 : decode cX5_doWrite 2 = .ok (.invokevirtual 67, 3) := by decide +kernel
theorem dX5_doWrite_5 : decode cX5_doWrite 5 = .ok (.istore_n 3, 1) := by decide +kernel
theorem dX5_doWrite_6 : decode cX5_doWrite 6 = .ok (.aload_n 0, 1) := by decide +kernel
theorem dX5_doWrite_7 : decode cX5_doWrite 7 = .ok (.iload_n 3, 1) := by decide +kernel
theorem dX5_doWrite_8 : decode cX5_doWrite 8 = .ok (.invokevirtual 61, 3) := by decide +kernel
theorem dX5_doWrite_11 : decode cX5_doWrite 11 = .ok (.istore 4, 2) := by decide +kernel
theorem dX5_doWrite_13 : decode cX5_doWrite 13 = .ok (.aload_n 0, 1) := by decide +kernel
theorem dX5_doWrite_14 : decode cX5_doWrite 14 = .ok (.getfield 7, 3) := by decide +kernel
theorem dX5_doWrite_17 : decode cX5_doWrite 17 = .ok (.iconst 5, 1) := by decide +kernel
theorem dX5_doWrite_18 : decode cX5_doWrite 18 = .ok (.iaload, 1) := by decide +kernel
theorem dX5_doWrite_19 : decode cX5_doWrite 19 = .ok (.iload 4, 2) := by decide +kernel
theorem dX5_doWrite_21 : decode cX5_doWrite 21 = .ok (.iadd, 1) := by decide +kernel
theorem dX5_doWrite_22 : decode cX5_doWrite 22 = .ok (.ldc 74, 2) := by decide +kernel
theorem dX5_doWrite_24 : decode cX5_doWrite 24 = .ok (.if_icmp .le 6, 3) := by decide +kernel
theorem dX5_doWrite_27 : decode cX5_doWrite 27 = .ok (.bipush (-4), 2) := by decide +kernel
theorem dX5_doWrite_29 : decode cX5_doWrite 29 = .ok (.ireturn, 1) := by decide +kernel
theorem dX5_doWrite_30 : decode cX5_doWrite 30 = .ok (.aload_n 0, 1) := by decide +kernel
theorem dX5_doWrite_31 : decode cX5_doWrite 31 = .ok (.iload_n 3, 1) := by decide +kernel
theorem dX5_doWrite_32 : decode cX5_doWrite 32 = .ok (.invokevirtual 75, 3) := by decide +kernel
theorem dX5_doWrite_35 : decode cX5_doWrite 35 = .ok (.aload_n 0, 1) := by decide +kernel
theorem dX5_doWrite_36 : decode cX5_doWrite 36 = .ok (.iload_n 1, 1) := by decide +kernel
theorem dX5_doWrite_37 : decode cX5_doWrite 37 = .ok (.iload_n 2, 1) := by decide +kernel
theorem dX5_doWrite_38 : decode cX5_doWrite 38 = .ok (.invokevirtual 79, 3) := by decide +kernel
theorem dX5_doWrite_41 : decode cX5_doWrite 41 = .ok (.iload 4, 2) := by decide +kernel
theorem dX5_doWrite_43 : decode cX5_doWrite 43 = .ok (.ireturn, 1) := by decide +kernel
set_option maxRecDepth 20000 in
theorem ggX5_doRead_X5_canBeRead : GoodIn wsX5_doRead wsX5_canBeRead := goodIn_r _ [7, 1, 8, 9, 10, 6, 11, 12, 13, 14, 15, 24, 25, 26, 27, 28, 29, 30, 31, 32, 33, 34, 35, 36, 37] rfl (by decide +kernel)
set_option maxRecDepth 20000 in
theorem gX5_doRead_X5_canBeRead : GoodIn wsX5_doRead (wsV RX5 82 RX5 yX5_canBeRead wsX5_canBeRead) := goodIn_app (goodIn_of _ (by decide +kernel)) ggX5_doRead_X5_canBeRead
set_option maxRecDepth 20000 in
theorem ggX5_doRead_X5_sectorOf : GoodIn wsX5_doRead wsX5_sectorOf := goodIn_r _ [15, 1, 24, 25, 26, 27, 28, 29, 30, 31, 32, 33, 34, 35, 36, 37] rfl (by decide +kernel)
set_option maxRecDepth 20000 in
theorem gX5_doRead_X5_sectorOf : GoodIn wsX5_doRead (wsV RX5 53 RX5 yX5_sectorOf wsX5_sectorOf) := goodIn_app (goodIn_of _ (by decide +kernel)) ggX5_doRead_X5_sectorOf
set_option maxRecDepth 20000 in
theorem ggX5_doRead_X5_takes : GoodIn wsX5_doRead wsX5_takes := goodIn_r _ [19, 1, 24, 25, 26, 27, 28, 29, 30, 31, 32, 33, 34, 35, 36, 37] rfl (by decide +kernel)
set_option maxRecDepth 20000 in
theorem gX5_doRead_X5_takes : GoodIn wsX5_doRead (wsV RX5 61 RX5 yX5_takes wsX5_takes) := goodIn_app (goodIn_of _ (by decide +kernel)) ggX5_doRead_X5_takes
set_option maxRecDepth 20000 in
theorem ggX5_doRead_X5_goes : GoodIn wsX5_doRead wsX5_goes := goodIn_r _ [23, 1, 16, 17, 18, 6, 19, 24, 25, 26, 27, 28, 29, 30, 31, 32, 33, 34, 35, 36, 37] rfl (by decide +kernel)
set_option maxRecDepth 20000 in
theorem gX5_doRead_X5_goes : GoodIn wsX5_doRead (wsV RX5 75 RX5 yX5_goes wsX5_goes) := goodIn_app (goodIn_of _ (by decide +kernel)) ggX5_doRead_X5_goes
theorem dX5_doRead_0 : decode cX5_doRead 0 = .ok (.aload_n 0, 1) := by decide +kernel
theorem dX5_doRead_1 : decode cX5_doRead 1 = .ok (.iload_n 1, 1) := by decide +kernel
theorem dX5_doRead_2 : decode cX5_doRead 2 = .ok (.invokevirtual 82, 3) := by decide +kernel
theorem dX5_doRead_5 : decode cX5_doRead 5 = .ok (.ifCond .ne 6, 3) := by decide +kernel
theorem dX5_doRead_8 : decode cX5_doRead 8 = .ok (.bipush (-5), 2) := by decide +kernel
theorem dX5_doRead_10 : decode cX5_doRead 10 = .ok (.ireturn, 1) := by decide +kernel
theorem dX5_doRead_11 : decode cX5_doRead 11 = .ok (.aload_n 0, 1) := by decide +kernel
theorem dX5_doRead_12 : decode cX5_doRead 12 = .ok (.iload_n 1, 1) := by decide +kernel
theorem dX5_doRead_13 : decode cX5_doRead 13 = .ok (.invokevirtual 53, 3) := by decide +kernel
theorem dX5_doRead_16 : decode cX5_doRead 16 = .ok (.istore_n 2, 1) := by decide +kernel
theorem dX5_doRead_17 : decode cX5_doRead 17 = .ok (.aload_n 0, 1) := by decide +kernel
theorem dX5_doRead_18 : decode cX5_doRead 18 = .ok (.getfield 7, 3) := by decide +kernel
theorem dX5_doRead_21 : decode cX5_doRead 21 = .ok (.iconst 5, 1) := by decide +kernel
theorem dX5_doRead_22 : decode cX5_doRead 22 = .ok (.iaload, 1) := by decide +kernel
theorem dX5_doRead_23 : decode cX5_doRead 23 = .ok (.aload_n 0, 1) := by decide +kernel
theorem dX5_doRead_24 : decode cX5_doRead 24 = .ok (.iload_n 2, 1) := by decide +kernel
theorem dX5_doRead_25 : decode cX5_doRead 25 = .ok (.invokevirtual 61, 3) := by decide +kernel
theorem dX5_doRead_28 : decode cX5_doRead 28 = .ok (.iadd, 1) := by decide +kernel
theorem dX5_doRead_29 : decode cX5_doRead 29 = .ok (.ldc 74, 2) := by decide +kernel
theorem dX5_doRead_31 : decode cX5_doRead 31 = .ok (.if_icmp .le 6, 3) := by decide +kernel
theorem dX5_doRead_34 : decode cX5_doRead 34 = .ok (.bipush (-4), 2) := by decide +kernel
theorem dX5_doRead_36 : decode cX5_doRead 36 = .ok (.ireturn, 1) := by decide +kernel
theorem dX5_doRead_37 : decode cX5_doRead 37 = .ok (.aload_n 0, 1) := by decide +kernel
theorem dX5_doRead_38 : decode cX5_doRead 38 = .ok (.iload_n 2, 1) := by decide +kernel
theorem dX5_doRead_39 : decode cX5_doRead 39 = .ok (.invokevirtual 75, 3) := by decide +kernel
theorem dX5_doRead_42 : decode cX5_doRead 42 = .ok (.aload_n 0, 1) := by decide +kernel
theorem dX5_doRead_43 : decode cX5_doRead 43 = .ok (.getfield 7, 3) := by decide +kernel
theorem dX5_doRead_46 : decode cX5_doRead 46 = .ok (.bipush 9, 2) := by decide +kernel
theorem dX5_doRead_48 : decode cX5_doRead 48 = .ok (.dup2, 1) := by decide +kernel
theorem dX5_doRead_49 : decode cX5_doRead 49 = .ok (.iaload, 1) := by decide +kernel
theorem dX5_doRead_50 : decode cX5_doRead 50 = .ok (.iconst 1, 1) := by decide +kernel
theorem dX5_doRead_51 : decode cX5_doRead 51 = .ok (.iadd, 1) := by decide +kernel
theorem dX5_doRead_52 : decode cX5_doRead 52 = .ok (.iastore, 1) := by decide +kernel
theorem dX5_doRead_53 : decode cX5_doRead 53 = .ok (.aload_n 0, 1) := by decide +kernel
theorem dX5_doRead_54 : decode cX5_doRead 54 = .ok (.getfield 7, 3) := by decide +kernel
theorem dX5_doRead_57 : decode cX5_doRead 57 = .ok (.bipush 12, 2) := by decide +kernel
theorem dX5_doRead_59 : decode cX5_doRead 59 = .ok (.iload_n 2, 1) := by decide +kernel
theorem dX5_doRead_60 : decode cX5_doRead 60 = .ok (.iadd, 1) := by decide +kernel
theorem dX5_doRead_61 : decode cX5_doRead 61 = .ok (.iaload, 1) := by decide +kernel
theorem dX5_doRead_62 : decode cX5_doRead 62 = .ok (.ireturn, 1) := by decide +kernel
set_option maxRecDepth 20000 in
theorem ggX5_doRefresh_X5_sectorOf : GoodIn wsX5_doRefresh wsX5_sectorOf := goodIn_r _ [6, 1, 51, 52, 53, 54, 55, 56, 57, 58, 59, 60, 61, 62, 63, 64] rfl (by decide +kernel)
set_option maxRecDepth 20000 in
theorem gX5_doRefresh_X5_sectorOf : GoodIn wsX5_doRefresh (wsV RX5 53 RX5 yX5_sectorOf wsX5_sectorOf) := goodIn_app (goodIn_of _ (by decide +kernel)) ggX5_doRefresh_X5_sectorOf
set_option maxRecDepth 20000 in
theorem ggX5_doRefresh_X5_doRead : GoodIn wsX5_doRefresh wsX5_doRead := goodIn_r _ [10, 1, 11, 12, 13, 14, 5, 15, 16, 17, 18, 19, 2, 3, 4, 6, 20, 21, 22, 23, 24, 25, 26, 27, 51, 52, 53, 54, 55, 56, 57, 58, 59, 60, 61, 62, 63, 64] rfl (by decide +kernel)
set_option maxRecDepth 20000 in
theorem gX5_doRefresh_X5_doRead : GoodIn wsX5_doRefresh (wsV RX5 85 RX5 yX5_doRead wsX5_doRead) := goodIn_app (goodIn_of _ (by decide +kernel)) ggX5_doRefresh_X5_doRead
set_option maxRecDepth 20000 in
theorem ggX5_doRefresh_X5_doWrite : GoodIn wsX5_doRefresh wsX5_doWrite := goodIn_r _ [31, 1, 11, 32, 33, 34, 5, 35, 2, 3, 4, 6, 20, 21, 22, 23, 24, 25, 26, 27, 36, 37, 38, 39, 40, 41, 42, 43, 44, 45, 46, 47, 48, 49, 50, 51, 52, 53, 54, 55, 56, 57, 58, 59, 60, 61, 62, 63, 64] rfl (by decide +kernel)
set_option maxRecDepth 20000 in
theorem gX5_doRefresh_X5_doWrite : GoodIn wsX5_doRefresh (wsV RX5 88 RX5 yX5_doWrite wsX5_doWrite) := goodIn_app (goodIn_of _ (by decide +kernel)) ggX5_doRefresh_X5_doWrite
theorem dX5_doRefresh_0 : decode cX5_doRefresh 0 = .ok (.aload_n 0, 1) := by decide +kernel
theorem dX5_doRefresh_1 : decode cX5_doRefresh 1 = .ok (.getfield 7, 3) := by decide +kernel
theorem dX5_doRefresh_4 : decode cX5_doRefresh 4 = .ok (.sipush 216, 3) := by decide +kernel
theorem dX5_doRefresh_7 : decode cX5_doRefresh 7 = .ok (.aload_n 0, 1) := by decide +kernel
theorem dX5_doRefresh_8 : decode cX5_doRefresh 8 = .ok (.iload_n 1, 1) := by decide +kernel
theorem dX5_doRefresh_9 : decode cX5_doRefresh 9 = .ok (.invokevirtual 53, 3) := by decide +kernel
theorem dX5_doRefresh_12 : decode cX5_doRefresh 12 = .ok (.iadd, 1) := by decide +kernel
theorem dX5_doRefresh_13 : decode cX5_doRefresh 13 = .ok (.iaload, 1) := by decide +kernel
theorem dX5_doRefresh_14 : decode cX5_doRefresh 14 = .ok (.istore_n 2, 1) := by decide +kernel
theorem dX5_doRefresh_15 : decode cX5_doRefresh 15 = .ok (.aload_n 0, 1) := by decide +kernel
theorem dX5_doRefresh_16 : decode cX5_doRefresh 16 = .ok (.iload_n 1, 1) := by decide +kernel
theorem dX5_doRefresh_17 : decode cX5_doRefresh 17 = .ok (.invokevirtual 85, 3) := by decide +kernel
theorem dX5_doRefresh_20 : decode cX5_doRefresh 20 = .ok (.istore_n 3, 1) := by decide +kernel
theorem dX5_doRefresh_21 : decode cX5_doRefresh 21 = .ok (.iload_n 3, 1) := by decide +kernel
theorem dX5_doRefresh_22 : decode cX5_doRefresh 22 = .ok (.ifCond .ge 5, 3) := by decide +kernel
theorem dX5_doRefresh_25 : decode cX5_doRefresh 25 = .ok (.iload_n 3, 1) := by decide +kernel
theorem dX5_doRefresh_26 : decode cX5_doRefresh 26 = .ok (.ireturn, 1) := by decide +kernel
theorem dX5_doRefresh_27 : decode cX5_doRefresh 27 = .ok (.aload_n 0, 1) := by decide +kernel
theorem dX5_doRefresh_28 : decode cX5_doRefresh 28 = .ok (.iload_n 1, 1) := by decide +kernel
theorem dX5_doRefresh_29 : decode cX5_doRefresh 29 = .ok (.iload_n 3, 1) := by decide +kernel
theorem dX5_doRefresh_30 : decode cX5_doRefresh 30 = .ok (.invokevirtual 88, 3) := by decide +kernel
theorem dX5_doRefresh_33 : decode cX5_doRefresh 33 = .ok (.istore 4, 2) := by decide +kernel
theorem dX5_doRefresh_35 : decode cX5_doRefresh 35 = .ok (.iload 4, 2) := by decide +kernel
theorem dX5_doRefresh_37 : decode cX5_doRefresh 37 = .ok (.ifCond .ge 8, 3) := by decide +kernel
theorem dX5_doRefresh_40 : decode cX5_doRefresh 40 = .ok (.iload 4, 2) := by decide +kernel
theorem dX5_doRefresh_42 : decode cX5_doRefresh 42 = .ok (.goto 4, 3) := by decide +kernel
theorem dX5_doRefresh_45 : decode cX5_doRefresh 45 = .ok (.iload_n 2, 1) := by decide +kernel
theorem dX5_doRefresh_46 : decode cX5_doRefresh 46 = .ok (.ireturn, 1) := by decide +kernel
set_option maxRecDepth 20000 in
theorem ggX5_isSetting_X5_in : GoodIn wsX5_isSetting wsX5_in := goodIn_r _ [7] rfl (by decide +kernel)
set_option maxRecDepth 20000 in
theorem gX5_isSetting_X5_in : GoodIn wsX5_isSetting (va_wsS RX5 49 yX5_in wsX5_in) := goodIn_app (goodIn_of _ (by decide +kernel)) ggX5_isSetting_X5_in
theorem dX5_isSetting_0 : decode cX5_isSetting 0 = .ok (.iload_n 0, 1) := by decide +kernel
theorem dX5_isSetting_1 : decode cX5_isSetting 1 = .ok (.tableswitch 67 0 4 #[35, 35, 45, 57, 35], 35) := by decide +kernel
theorem dX5_isSetting_36 : decode cX5_isSetting 36 = .ok (.iload_n 1, 1) := by decide +kernel
theorem dX5_isSetting_37 : decode cX5_isSetting 37 = .ok (.i2l, 1) := by decide +kernel
theorem dX5_isSetting_38 : decode cX5_isSetting 38 = .ok (.lconst 0, 1) := by decide +kernel
theorem dX5_isSetting_39 : decode cX5_isSetting 39 = .ok (.ldc2_w 92, 3) := by decide +kernel
theorem dX5_isSetting_42 : decode cX5_isSetting 42 = .ok (.invokestatic 49, 3) := by decide +kernel
theorem dX5_isSetting_45 : decode cX5_isSetting 45 = .ok (.ireturn, 1) := by decide +kernel
theorem dX5_isSetting_46 : decode cX5_isSetting 46 = .ok (.iload_n 1, 1) := by decide +kernel
theorem dX5_isSetting_47 : decode cX5_isSetting 47 = .ok (.i2l, 1) := by decide +kernel
theorem dX5_isSetting_48 : decode cX5_isSetting 48 = .ok (.ldc2_w 94, 3) := by decide +kernel
theorem dX5_isSetting_51 : decode cX5_isSetting 51 = .ok (.ldc2_w 96, 3) := by decide +kernel
theorem dX5_isSetting_54 : decode cX5_isSetting 54 = .ok (.invokestatic 49, 3) := by decide +kernel
theorem dX5_isSetting_57 : decode cX5_isSetting 57 = .ok (.ireturn, 1) := by decide +kernel
theorem dX5_isSetting_58 : decode cX5_isSetting 58 = .ok (.iload_n 1, 1) := by decide +kernel
theorem dX5_isSetting_59 : decode cX5_isSetting 59 = .ok (.i2l, 1) := by decide +kernel
theorem dX5_isSetting_60 : decode cX5_isSetting 60 = .ok (.lconst 1, 1) := by decide +kernel
theorem dX5_isSetting_61 : decode cX5_isSetting 61 = .ok (.ldc2_w 96, 3) := by decide +kernel
theorem dX5_isSetting_64 : decode cX5_isSetting 64 = .ok (.invokestatic 49, 3) := by decide +kernel
theorem dX5_isSetting_67 : decode cX5_isSetting 67 = .ok (.ireturn, 1) := by decide +kernel
theorem dX5_isSetting_68 : decode cX5_isSetting 68 = .ok (.iconst 0, 1) := by decide +kernel
theorem dX5_isSetting_69 : decode cX5_isSetting 69 = .ok (.ireturn, 1) := by decide +kernel
set_option maxRecDepth 20000 in
theorem ggX5_set_X5_isSetting : GoodIn wsX5_set wsX5_isSetting := goodIn_r _ [5, 6, 7, 8, 9, 10, 4, 11] rfl (by decide +kernel)
set_option maxRecDepth 20000 in
theorem gX5_set_X5_isSetting : GoodIn wsX5_set (va_wsS RX5 98 yX5_isSetting wsX5_isSetting) := goodIn_app (goodIn_of _ (by decide +kernel)) ggX5_set_X5_isSetting
set_option maxRecDepth 20000 in
theorem ggX5_set_X5_keeps : GoodIn wsX5_set wsX5_keeps := goodIn_r _ [15, 16, 1, 31, 32, 33, 34, 35, 36, 37, 38, 39, 40, 41, 42, 43, 44] rfl (by decide +kernel)
set_option maxRecDepth 20000 in
theorem gX5_set_X5_keeps : GoodIn wsX5_set (wsV RX5 102 RX5 yX5_keeps wsX5_keeps) := goodIn_app (goodIn_of _ (by decide +kernel)) ggX5_set_X5_keeps
set_option maxRecDepth 20000 in
theorem ggX5_set_X5_ends : GoodIn wsX5_set wsX5_ends := goodIn_r _ [20, 21, 22, 23, 4, 24, 1, 16, 25, 26, 27, 28, 29, 30, 31, 32, 33, 34, 35, 36, 37, 38, 39, 40, 41, 42, 43, 44] rfl (by decide +kernel)
set_option maxRecDepth 20000 in
theorem gX5_set_X5_ends : GoodIn wsX5_set (wsV RX5 105 RX5 yX5_ends wsX5_ends) := goodIn_app (goodIn_of _ (by decide +kernel)) ggX5_set_X5_ends
theorem dX5_set_0 : decode cX5_set 0 = .ok (.iload_n 1, 1) := by decide +kernel
theorem dX5_set_1 : decode cX5_set 1 = .ok (.iload_n 2, 1) := by decide +kernel
theorem dX5_set_2 : decode cX5_set 2 = .ok (.invokestatic 98, 3) := by decide +kernel
theorem dX5_set_5 : decode cX5_set 5 = .ok (.ifCond .ne 6, 3) := by decide +kernel
theorem dX5_set_8 : decode cX5_set 8 = .ok (.bipush (-2), 2) := by decide +kernel
theorem dX5_set_10 : decode cX5_set 10 = .ok (.ireturn, 1) := by decide +kernel
theorem dX5_set_11 : decode cX5_set 11 = .ok (.aload_n 0, 1) := by decide +kernel
theorem dX5_set_12 : decode cX5_set 12 = .ok (.invokevirtual 102, 3) := by decide +kernel
theorem dX5_set_15 : decode cX5_set 15 = .ok (.aload_n 0, 1) := by decide +kernel
theorem dX5_set_16 : decode cX5_set 16 = .ok (.getfield 7, 3) := by decide +kernel
theorem dX5_set_19 : decode cX5_set 19 = .ok (.iload_n 1, 1) := by decide +kernel
theorem dX5_set_20 : decode cX5_set 20 = .ok (.iaload, 1) := by decide +kernel
theorem dX5_set_21 : decode cX5_set 21 = .ok (.istore_n 3, 1) := by decide +kernel
theorem dX5_set_22 : decode cX5_set 22 = .ok (.aload_n 0, 1) := by decide +kernel
theorem dX5_set_23 : decode cX5_set 23 = .ok (.getfield 7, 3) := by decide +kernel
theorem dX5_set_26 : decode cX5_set 26 = .ok (.iload_n 1, 1) := by decide +kernel
theorem dX5_set_27 : decode cX5_set 27 = .ok (.iload_n 2, 1) := by decide +kernel
theorem dX5_set_28 : decode cX5_set 28 = .ok (.iastore, 1) := by decide +kernel
theorem dX5_set_29 : decode cX5_set 29 = .ok (.aload_n 0, 1) := by decide +kernel
theorem dX5_set_30 : decode cX5_set 30 = .ok (.iload_n 3, 1) := by decide +kernel
theorem dX5_set_31 : decode cX5_set 31 = .ok (.invokevirtual 105, 3) := by decide +kernel
theorem dX5_set_34 : decode cX5_set 34 = .ok (.ireturn, 1) := by decide +kernel
set_option maxRecDepth 20000 in
theorem ggX5_write_X5_isAddress : GoodIn wsX5_write wsX5_isAddress := goodIn_r _ [5, 6, 7, 8, 4, 9] rfl (by decide +kernel)
set_option maxRecDepth 20000 in
theorem gX5_write_X5_isAddress : GoodIn wsX5_write (va_wsS RX5 64 yX5_isAddress wsX5_isAddress) := goodIn_app (goodIn_of _ (by decide +kernel)) ggX5_write_X5_isAddress
set_option maxRecDepth 20000 in
theorem ggX5_write_X5_in : GoodIn wsX5_write wsX5_in := goodIn_r _ [9] rfl (by decide +kernel)
set_option maxRecDepth 20000 in
theorem gX5_write_X5_in : GoodIn wsX5_write (va_wsS RX5 49 yX5_in wsX5_in) := goodIn_app (goodIn_of _ (by decide +kernel)) ggX5_write_X5_in
set_option maxRecDepth 20000 in
theorem ggX5_write_X5_keeps : GoodIn wsX5_write wsX5_keeps := goodIn_r _ [13, 14, 15, 59, 60, 61, 62, 63, 64, 65, 66, 67, 68, 69, 70, 71, 72] rfl (by decide +kernel)
set_option maxRecDepth 20000 in
theorem gX5_write_X5_keeps : GoodIn wsX5_write (wsV RX5 102 RX5 yX5_keeps wsX5_keeps) := goodIn_app (goodIn_of _ (by decide +kernel)) ggX5_write_X5_keeps
set_option maxRecDepth 20000 in
theorem ggX5_write_X5_doWrite : GoodIn wsX5_write wsX5_doWrite := goodIn_r _ [19, 15, 20, 21, 22, 23, 4, 24, 25, 26, 27, 28, 29, 30, 31, 32, 33, 34, 35, 36, 37, 38, 39, 40, 41, 42, 43, 44, 2, 3, 5, 6, 7, 8, 9, 59, 60, 61, 62, 63, 64, 65, 66, 67, 68, 69, 70, 71, 72] rfl (by decide +kernel)
set_option maxRecDepth 20000 in
theorem gX5_write_X5_doWrite : GoodIn wsX5_write (wsV RX5 88 RX5 yX5_doWrite wsX5_doWrite) := goodIn_app (goodIn_of _ (by decide +kernel)) ggX5_write_X5_doWrite
set_option maxRecDepth 20000 in
theorem ggX5_write_X5_ends : GoodIn wsX5_write wsX5_ends := goodIn_r _ [48, 49, 50, 51, 4, 52, 15, 14, 53, 54, 55, 56, 57, 58, 59, 60, 61, 62, 63, 64, 65, 66, 67, 68, 69, 70, 71, 72] rfl (by decide +kernel)
set_option maxRecDepth 20000 in
theorem gX5_write_X5_ends : GoodIn wsX5_write (wsV RX5 105 RX5 yX5_ends wsX5_ends) := goodIn_app (goodIn_of _ (by decide +kernel)) ggX5_write_X5_ends
theorem dX5_write_0 : decode cX5_write 0 = .ok (.iload_n 1, 1) := by decide +kernel
theorem dX5_write_1 : decode cX5_write 1 = .ok (.invokestatic 64, 3) := by decide +kernel
theorem dX5_write_4 : decode cX5_write 4 = .ok (.ifCond .ne 5, 3) := by decide +kernel
theorem dX5_write_7 : decode cX5_write 7 = .ok (.iconst (-1), 1) := by decide +kernel
theorem dX5_write_8 : decode cX5_write 8 = .ok (.ireturn, 1) := by decide +kernel
theorem dX5_write_9 : decode cX5_write 9 = .ok (.iload_n 2, 1) := by decide +kernel
theorem dX5_write_10 : decode cX5_write 10 = .ok (.i2l, 1) := by decide +kernel
theorem dX5_write_11 : decode cX5_write 11 = .ok (.lconst 0, 1) := by decide +kernel
theorem dX5_write_12 : decode cX5_write 12 = .ok (.ldc2_w 108, 3) := by decide +kernel
theorem dX5_write_15 : decode cX5_write 15 = .ok (.invokestatic 49, 3) := by decide +kernel
theorem dX5_write_18 : decode cX5_write 18 = .ok (.ifCond .ne 6, 3) := by decide +kernel
theorem dX5_write_21 : decode cX5_write 21 = .ok (.bipush (-2), 2) := by decide +kernel
theorem dX5_write_23 : decode cX5_write 23 = .ok (.ireturn, 1) := by decide +kernel
theorem dX5_write_24 : decode cX5_write 24 = .ok (.aload_n 0, 1) := by decide +kernel
theorem dX5_write_25 : decode cX5_write 25 = .ok (.invokevirtual 102, 3) := by decide +kernel
theorem dX5_write_28 : decode cX5_write 28 = .ok (.aload_n 0, 1) := by decide +kernel
theorem dX5_write_29 : decode cX5_write 29 = .ok (.aload_n 0, 1) := by decide +kernel
theorem dX5_write_30 : decode cX5_write 30 = .ok (.iload_n 1, 1) := by decide +kernel
theorem dX5_write_31 : decode cX5_write 31 = .ok (.iload_n 2, 1) := by decide +kernel
theorem dX5_write_32 : decode cX5_write 32 = .ok (.invokevirtual 88, 3) := by decide +kernel
theorem dX5_write_35 : decode cX5_write 35 = .ok (.invokevirtual 105, 3) := by decide +kernel
theorem dX5_write_38 : decode cX5_write 38 = .ok (.ireturn, 1) := by decide +kernel
set_option maxRecDepth 20000 in
theorem ggX5_read_X5_isAddress : GoodIn wsX5_read wsX5_isAddress := goodIn_r _ [4, 5, 6, 7, 3, 8] rfl (by decide +kernel)
set_option maxRecDepth 20000 in
theorem gX5_read_X5_isAddress : GoodIn wsX5_read (va_wsS RX5 64 yX5_isAddress wsX5_isAddress) := goodIn_app (goodIn_of _ (by decide +kernel)) ggX5_read_X5_isAddress
set_option maxRecDepth 20000 in
theorem ggX5_read_X5_keeps : GoodIn wsX5_read wsX5_keeps := goodIn_r _ [12, 13, 14, 54, 55, 56, 57, 58, 59, 60, 61, 62, 63, 64, 65, 66, 67] rfl (by decide +kernel)
set_option maxRecDepth 20000 in
theorem gX5_read_X5_keeps : GoodIn wsX5_read (wsV RX5 102 RX5 yX5_keeps wsX5_keeps) := goodIn_app (goodIn_of _ (by decide +kernel)) ggX5_read_X5_keeps
set_option maxRecDepth 20000 in
theorem ggX5_read_X5_doRead : GoodIn wsX5_read wsX5_doRead := goodIn_r _ [18, 14, 19, 20, 21, 22, 3, 23, 24, 25, 26, 27, 28, 29, 30, 31, 32, 33, 34, 35, 36, 37, 38, 39, 54, 55, 56, 57, 58, 59, 60, 61, 62, 63, 64, 65, 66, 67] rfl (by decide +kernel)
set_option maxRecDepth 20000 in
theorem gX5_read_X5_doRead : GoodIn wsX5_read (wsV RX5 85 RX5 yX5_doRead wsX5_doRead) := goodIn_app (goodIn_of _ (by decide +kernel)) ggX5_read_X5_doRead
set_option maxRecDepth 20000 in
theorem ggX5_read_X5_ends : GoodIn wsX5_read wsX5_ends := goodIn_r _ [43, 44, 45, 46, 3, 47, 14, 13, 48, 49, 50, 51, 52, 53, 54, 55, 56, 57, 58, 59, 60, 61, 62, 63, 64, 65, 66, 67] rfl (by decide +kernel)
set_option maxRecDepth 20000 in
theorem gX5_read_X5_ends : GoodIn wsX5_read (wsV RX5 105 RX5 yX5_ends wsX5_ends) := goodIn_app (goodIn_of _ (by decide +kernel)) ggX5_read_X5_ends
theorem dX5_read_0 : decode cX5_read 0 = .ok (.iload_n 1, 1) := by decide +kernel
theorem dX5_read_1 : decode cX5_read 1 = .ok (.invokestatic 64, 3) := by decide +kernel
theorem dX5_read_4 : decode cX5_read 4 = .ok (.ifCond .ne 5, 3) := by decide +kernel
theorem dX5_read_7 : decode cX5_read 7 = .ok (.iconst (-1), 1) := by decide +kernel
theorem dX5_read_8 : decode cX5_read 8 = .ok (.ireturn, 1) := by decide +kernel
theorem dX5_read_9 : decode cX5_read 9 = .ok (.aload_n 0, 1) := by decide +kernel
theorem dX5_read_10 : decode cX5_read 10 = .ok (.invokevirtual 102, 3) := by decide +kernel
theorem dX5_read_13 : decode cX5_read 13 = .ok (.aload_n 0, 1) := by decide +kernel
theorem dX5_read_14 : decode cX5_read 14 = .ok (.aload_n 0, 1) := by decide +kernel
theorem dX5_read_15 : decode cX5_read 15 = .ok (.iload_n 1, 1) := by decide +kernel
theorem dX5_read_16 : decode cX5_read 16 = .ok (.invokevirtual 85, 3) := by decide +kernel
theorem dX5_read_19 : decode cX5_read 19 = .ok (.invokevirtual 105, 3) := by decide +kernel
theorem dX5_read_22 : decode cX5_read 22 = .ok (.ireturn, 1) := by decide +kernel
set_option maxRecDepth 20000 in
theorem ggX5_refresh_X5_isAddress : GoodIn wsX5_refresh wsX5_isAddress := goodIn_r _ [4, 5, 6, 7, 3, 8] rfl (by decide +kernel)
set_option maxRecDepth 20000 in
theorem gX5_refresh_X5_isAddress : GoodIn wsX5_refresh (va_wsS RX5 64 yX5_isAddress wsX5_isAddress) := goodIn_app (goodIn_of _ (by decide +kernel)) ggX5_refresh_X5_isAddress
set_option maxRecDepth 20000 in
theorem ggX5_refresh_X5_keeps : GoodIn wsX5_refresh wsX5_keeps := goodIn_r _ [12, 13, 14, 74, 75, 76, 77, 78, 79, 80, 81, 82, 83, 84, 85, 86, 87] rfl (by decide +kernel)
set_option maxRecDepth 20000 in
theorem gX5_refresh_X5_keeps : GoodIn wsX5_refresh (wsV RX5 102 RX5 yX5_keeps wsX5_keeps) := goodIn_app (goodIn_of _ (by decide +kernel)) ggX5_refresh_X5_keeps
set_option maxRecDepth 20000 in
theorem ggX5_refresh_X5_doRefresh : GoodIn wsX5_refresh wsX5_doRefresh := goodIn_r _ [18, 14, 19, 20, 21, 3, 22, 23, 24, 25, 26, 27, 28, 29, 30, 31, 32, 33, 34, 35, 36, 37, 38, 39, 40, 41, 42, 43, 44, 45, 46, 47, 48, 49, 50, 51, 52, 53, 54, 55, 56, 57, 58, 59, 1, 2, 4, 5, 6, 7, 8, 74, 75, 76, 77, 78, 79, 80, 81, 82, 83, 84, 85, 86, 87] rfl (by decide +kernel)
set_option maxRecDepth 20000 in
theorem gX5_refresh_X5_doRefresh : GoodIn wsX5_refresh (wsV RX5 110 RX5 yX5_doRefresh wsX5_doRefresh) := goodIn_app (goodIn_of _ (by decide +kernel)) ggX5_refresh_X5_doRefresh
set_option maxRecDepth 20000 in
theorem ggX5_refresh_X5_ends : GoodIn wsX5_refresh wsX5_ends := goodIn_r _ [63, 64, 65, 66, 3, 67, 14, 13, 68, 69, 70, 71, 72, 73, 74, 75, 76, 77, 78, 79, 80, 81, 82, 83, 84, 85, 86, 87] rfl (by decide +kernel)
set_option maxRecDepth 20000 in
theorem gX5_refresh_X5_ends : GoodIn wsX5_refresh (wsV RX5 105 RX5 yX5_ends wsX5_ends) := goodIn_app (goodIn_of _ (by decide +kernel)) ggX5_refresh_X5_ends
theorem dX5_refresh_0 : decode cX5_refresh 0 = .ok (.iload_n 1, 1) := by decide +kernel
theorem dX5_refresh_1 : decode cX5_refresh 1 = .ok (.invokestatic 64, 3) := by decide +kernel
theorem dX5_refresh_4 : decode cX5_refresh 4 = .ok (.ifCond .ne 5, 3) := by decide +kernel
theorem dX5_refresh_7 : decode cX5_refresh 7 = .ok (.iconst (-1), 1) := by decide +kernel
theorem dX5_refresh_8 : decode cX5_refresh 8 = .ok (.ireturn, 1) := by decide +kernel
theorem dX5_refresh_9 : decode cX5_refresh 9 = .ok (.aload_n 0, 1) := by decide +kernel
theorem dX5_refresh_10 : decode cX5_refresh 10 = .ok (.invokevirtual 102, 3) := by decide +kernel
theorem dX5_refresh_13 : decode cX5_refresh 13 = .ok (.aload_n 0, 1) := by decide +kernel
theorem dX5_refresh_14 : decode cX5_refresh 14 = .ok (.aload_n 0, 1) := by decide +kernel
theorem dX5_refresh_15 : decode cX5_refresh 15 = .ok (.iload_n 1, 1) := by decide +kernel
theorem dX5_refresh_16 : decode cX5_refresh 16 = .ok (.invokevirtual 110, 3) := by decide +kernel
theorem dX5_refresh_19 : decode cX5_refresh 19 = .ok (.invokevirtual 105, 3) := by decide +kernel
theorem dX5_refresh_22 : decode cX5_refresh 22 = .ok (.ireturn, 1) := by decide +kernel
set_option maxRecDepth 20000 in
theorem ggX5_seek_X5_in : GoodIn wsX5_seek wsX5_in := goodIn_r _ [7] rfl (by decide +kernel)
set_option maxRecDepth 20000 in
theorem gX5_seek_X5_in : GoodIn wsX5_seek (va_wsS RX5 49 yX5_in wsX5_in) := goodIn_app (goodIn_of _ (by decide +kernel)) ggX5_seek_X5_in
set_option maxRecDepth 20000 in
theorem ggX5_seek_X5_keeps : GoodIn wsX5_seek wsX5_keeps := goodIn_r _ [11, 12, 2, 27, 28, 29, 30, 31, 32, 33, 34, 35, 36, 37, 38, 39, 40] rfl (by decide +kernel)
set_option maxRecDepth 20000 in
theorem gX5_seek_X5_keeps : GoodIn wsX5_seek (wsV RX5 102 RX5 yX5_keeps wsX5_keeps) := goodIn_app (goodIn_of _ (by decide +kernel)) ggX5_seek_X5_keeps
set_option maxRecDepth 20000 in
theorem ggX5_seek_X5_ends : GoodIn wsX5_seek wsX5_ends := goodIn_r _ [16, 17, 18, 19, 6, 20, 2, 12, 21, 22, 23, 24, 25, 26, 27, 28, 29, 30, 31, 32, 33, 34, 35, 36, 37, 38, 39, 40] rfl (by decide +kernel)
set_option maxRecDepth 20000 in
theorem gX5_seek_X5_ends : GoodIn wsX5_seek (wsV RX5 105 RX5 yX5_ends wsX5_ends) := goodIn_app (goodIn_of _ (by decide +kernel)) ggX5_seek_X5_ends
theorem dX5_seek_0 : decode cX5_seek 0 = .ok (.iload_n 1, 1) := by decide +kernel
theorem dX5_seek_1 : decode cX5_seek 1 = .ok (.i2l, 1) := by decide +kernel
theorem dX5_seek_2 : decode cX5_seek 2 = .ok (.lconst 0, 1) := by decide +kernel
theorem dX5_seek_3 : decode cX5_seek 3 = .ok (.ldc2_w 113, 3) := by decide +kernel
theorem dX5_seek_6 : decode cX5_seek 6 = .ok (.invokestatic 49, 3) := by decide +kernel
theorem dX5_seek_9 : decode cX5_seek 9 = .ok (.ifCond .ne 5, 3) := by decide +kernel
theorem dX5_seek_12 : decode cX5_seek 12 = .ok (.iconst (-1), 1) := by decide +kernel
theorem dX5_seek_13 : decode cX5_seek 13 = .ok (.ireturn, 1) := by decide +kernel
theorem dX5_seek_14 : decode cX5_seek 14 = .ok (.iload_n 1, 1) := by decide +kernel
theorem dX5_seek_15 : decode cX5_seek 15 = .ok (.aload_n 0, 1) := by decide +kernel
theorem dX5_seek_16 : decode cX5_seek 16 = .ok (.getfield 7, 3) := by decide +kernel
theorem dX5_seek_19 : decode cX5_seek 19 = .ok (.bipush 6, 2) := by decide +kernel
theorem dX5_seek_21 : decode cX5_seek 21 = .ok (.iaload, 1) := by decide +kernel
theorem dX5_seek_22 : decode cX5_seek 22 = .ok (.isub, 1) := by decide +kernel
theorem dX5_seek_23 : decode cX5_seek 23 = .ok (.istore_n 2, 1) := by decide +kernel
theorem dX5_seek_24 : decode cX5_seek 24 = .ok (.aload_n 0, 1) := by decide +kernel
theorem dX5_seek_25 : decode cX5_seek 25 = .ok (.getfield 7, 3) := by decide +kernel
theorem dX5_seek_28 : decode cX5_seek 28 = .ok (.iconst 4, 1) := by decide +kernel
theorem dX5_seek_29 : decode cX5_seek 29 = .ok (.iaload, 1) := by decide +kernel
theorem dX5_seek_30 : decode cX5_seek 30 = .ok (.iload_n 2, 1) := by decide +kernel
theorem dX5_seek_31 : decode cX5_seek 31 = .ok (.ifCond .ge 8, 3) := by decide +kernel
theorem dX5_seek_34 : decode cX5_seek 34 = .ok (.iload_n 2, 1) := by decide +kernel
theorem dX5_seek_35 : decode cX5_seek 35 = .ok (.ineg, 1) := by decide +kernel
theorem dX5_seek_36 : decode cX5_seek 36 = .ok (.goto 4, 3) := by decide +kernel
theorem dX5_seek_39 : decode cX5_seek 39 = .ok (.iload_n 2, 1) := by decide +kernel
theorem dX5_seek_40 : decode cX5_seek 40 = .ok (.imul, 1) := by decide +kernel
theorem dX5_seek_41 : decode cX5_seek 41 = .ok (.istore_n 3, 1) := by decide +kernel
theorem dX5_seek_42 : decode cX5_seek 42 = .ok (.aload_n 0, 1) := by decide +kernel
theorem dX5_seek_43 : decode cX5_seek 43 = .ok (.getfield 7, 3) := by decide +kernel
theorem dX5_seek_46 : decode cX5_seek 46 = .ok (.iconst 5, 1) := by decide +kernel
theorem dX5_seek_47 : decode cX5_seek 47 = .ok (.iaload, 1) := by decide +kernel
theorem dX5_seek_48 : decode cX5_seek 48 = .ok (.iload_n 3, 1) := by decide +kernel
theorem dX5_seek_49 : decode cX5_seek 49 = .ok (.iadd, 1) := by decide +kernel
theorem dX5_seek_50 : decode cX5_seek 50 = .ok (.ldc 74, 2) := by decide +kernel
theorem dX5_seek_52 : decode cX5_seek 52 = .ok (.if_icmp .le 6, 3) := by decide +kernel
theorem dX5_seek_55 : decode cX5_seek 55 = .ok (.bipush (-4), 2) := by decide +kernel
theorem dX5_seek_57 : decode cX5_seek 57 = .ok (.ireturn, 1) := by decide +kernel
theorem dX5_seek_58 : decode cX5_seek 58 = .ok (.aload_n 0, 1) := by decide +kernel
theorem dX5_seek_59 : decode cX5_seek 59 = .ok (.invokevirtual 102, 3) := by decide +kernel
theorem dX5_seek_62 : decode cX5_seek 62 = .ok (.aload_n 0, 1) := by decide +kernel
theorem dX5_seek_63 : decode cX5_seek 63 = .ok (.getfield 7, 3) := by decide +kernel
theorem dX5_seek_66 : decode cX5_seek 66 = .ok (.iconst 5, 1) := by decide +kernel
theorem dX5_seek_67 : decode cX5_seek 67 = .ok (.dup2, 1) := by decide +kernel
theorem dX5_seek_68 : decode cX5_seek 68 = .ok (.iaload, 1) := by decide +kernel
theorem dX5_seek_69 : decode cX5_seek 69 = .ok (.iload_n 3, 1) := by decide +kernel
theorem dX5_seek_70 : decode cX5_seek 70 = .ok (.iadd, 1) := by decide +kernel
theorem dX5_seek_71 : decode cX5_seek 71 = .ok (.iastore, 1) := by decide +kernel
theorem dX5_seek_72 : decode cX5_seek 72 = .ok (.aload_n 0, 1) := by decide +kernel
theorem dX5_seek_73 : decode cX5_seek 73 = .ok (.getfield 7, 3) := by decide +kernel
theorem dX5_seek_76 : decode cX5_seek 76 = .ok (.bipush 6, 2) := by decide +kernel
theorem dX5_seek_78 : decode cX5_seek 78 = .ok (.iload_n 1, 1) := by decide +kernel
theorem dX5_seek_79 : decode cX5_seek 79 = .ok (.iastore, 1) := by decide +kernel
theorem dX5_seek_80 : decode cX5_seek 80 = .ok (.aload_n 0, 1) := by decide +kernel
theorem dX5_seek_81 : decode cX5_seek 81 = .ok (.iload_n 3, 1) := by decide +kernel
theorem dX5_seek_82 : decode cX5_seek 82 = .ok (.invokevirtual 105, 3) := by decide +kernel
theorem dX5_seek_85 : decode cX5_seek 85 = .ok (.ireturn, 1) := by decide +kernel
set_option maxRecDepth 20000 in
theorem ggX5_idle_X5_in : GoodIn wsX5_idle wsX5_in := goodIn_r _ [7] rfl (by decide +kernel)
set_option maxRecDepth 20000 in
theorem gX5_idle_X5_in : GoodIn wsX5_idle (va_wsS RX5 49 yX5_in wsX5_in) := goodIn_app (goodIn_of _ (by decide +kernel)) ggX5_idle_X5_in
set_option maxRecDepth 20000 in
theorem ggX5_idle_X5_keeps : GoodIn wsX5_idle wsX5_keeps := goodIn_r _ [11, 12, 2, 27, 28, 29, 30, 31, 32, 33, 34, 35, 36, 37, 38, 39, 40] rfl (by decide +kernel)
set_option maxRecDepth 20000 in
theorem gX5_idle_X5_keeps : GoodIn wsX5_idle (wsV RX5 102 RX5 yX5_keeps wsX5_keeps) := goodIn_app (goodIn_of _ (by decide +kernel)) ggX5_idle_X5_keeps
set_option maxRecDepth 20000 in
theorem ggX5_idle_X5_ends : GoodIn wsX5_idle wsX5_ends := goodIn_r _ [16, 17, 18, 19, 6, 20, 2, 12, 21, 22, 23, 24, 25, 26, 27, 28, 29, 30, 31, 32, 33, 34, 35, 36, 37, 38, 39, 40] rfl (by decide +kernel)
set_option maxRecDepth 20000 in
theorem gX5_idle_X5_ends : GoodIn wsX5_idle (wsV RX5 105 RX5 yX5_ends wsX5_ends) := goodIn_app (goodIn_of _ (by decide +kernel)) ggX5_idle_X5_ends
theorem dX5_idle_0 : decode cX5_idle 0 = .ok (.iload_n 1, 1) := by decide +kernel
theorem dX5_idle_1 : decode cX5_idle 1 = .ok (.i2l, 1) := by decide +kernel
theorem dX5_idle_2 : decode cX5_idle 2 = .ok (.lconst 1, 1) := by decide +kernel
theorem dX5_idle_3 : decode cX5_idle 3 = .ok (.ldc2_w 115, 3) := by decide +kernel
theorem dX5_idle_6 : decode cX5_idle 6 = .ok (.invokestatic 49, 3) := by decide +kernel
theorem dX5_idle_9 : decode cX5_idle 9 = .ok (.ifCond .ne 6, 3) := by decide +kernel
theorem dX5_idle_12 : decode cX5_idle 12 = .ok (.bipush (-2), 2) := by decide +kernel
theorem dX5_idle_14 : decode cX5_idle 14 = .ok (.ireturn, 1) := by decide +kernel
theorem dX5_idle_15 : decode cX5_idle 15 = .ok (.aload_n 0, 1) := by decide +kernel
theorem dX5_idle_16 : decode cX5_idle 16 = .ok (.getfield 7, 3) := by decide +kernel
theorem dX5_idle_19 : decode cX5_idle 19 = .ok (.iconst 5, 1) := by decide +kernel
theorem dX5_idle_20 : decode cX5_idle 20 = .ok (.iaload, 1) := by decide +kernel
theorem dX5_idle_21 : decode cX5_idle 21 = .ok (.iload_n 1, 1) := by decide +kernel
theorem dX5_idle_22 : decode cX5_idle 22 = .ok (.iadd, 1) := by decide +kernel
theorem dX5_idle_23 : decode cX5_idle 23 = .ok (.ldc 74, 2) := by decide +kernel
theorem dX5_idle_25 : decode cX5_idle 25 = .ok (.if_icmp .le 6, 3) := by decide +kernel
theorem dX5_idle_28 : decode cX5_idle 28 = .ok (.bipush (-4), 2) := by decide +kernel
theorem dX5_idle_30 : decode cX5_idle 30 = .ok (.ireturn, 1) := by decide +kernel
theorem dX5_idle_31 : decode cX5_idle 31 = .ok (.aload_n 0, 1) := by decide +kernel
theorem dX5_idle_32 : decode cX5_idle 32 = .ok (.invokevirtual 102, 3) := by decide +kernel
theorem dX5_idle_35 : decode cX5_idle 35 = .ok (.aload_n 0, 1) := by decide +kernel
theorem dX5_idle_36 : decode cX5_idle 36 = .ok (.getfield 7, 3) := by decide +kernel
theorem dX5_idle_39 : decode cX5_idle 39 = .ok (.iconst 5, 1) := by decide +kernel
theorem dX5_idle_40 : decode cX5_idle 40 = .ok (.dup2, 1) := by decide +kernel
theorem dX5_idle_41 : decode cX5_idle 41 = .ok (.iaload, 1) := by decide +kernel
theorem dX5_idle_42 : decode cX5_idle 42 = .ok (.iload_n 1, 1) := by decide +kernel
theorem dX5_idle_43 : decode cX5_idle 43 = .ok (.iadd, 1) := by decide +kernel
theorem dX5_idle_44 : decode cX5_idle 44 = .ok (.iastore, 1) := by decide +kernel
theorem dX5_idle_45 : decode cX5_idle 45 = .ok (.aload_n 0, 1) := by decide +kernel
theorem dX5_idle_46 : decode cX5_idle 46 = .ok (.aload_n 0, 1) := by decide +kernel
theorem dX5_idle_47 : decode cX5_idle 47 = .ok (.getfield 7, 3) := by decide +kernel
theorem dX5_idle_50 : decode cX5_idle 50 = .ok (.iconst 5, 1) := by decide +kernel
theorem dX5_idle_51 : decode cX5_idle 51 = .ok (.iaload, 1) := by decide +kernel
theorem dX5_idle_52 : decode cX5_idle 52 = .ok (.bipush 12, 2) := by decide +kernel
theorem dX5_idle_54 : decode cX5_idle 54 = .ok (.irem, 1) := by decide +kernel
theorem dX5_idle_55 : decode cX5_idle 55 = .ok (.invokevirtual 105, 3) := by decide +kernel
theorem dX5_idle_58 : decode cX5_idle 58 = .ok (.ireturn, 1) := by decide +kernel
set_option maxRecDepth 20000 in
theorem ggX5_sector_X5_isAddress : GoodIn wsX5_sector wsX5_isAddress := goodIn_r _ [5, 6, 7, 8, 4, 9] rfl (by decide +kernel)
set_option maxRecDepth 20000 in
theorem gX5_sector_X5_isAddress : GoodIn wsX5_sector (va_wsS RX5 64 yX5_isAddress wsX5_isAddress) := goodIn_app (goodIn_of _ (by decide +kernel)) ggX5_sector_X5_isAddress
set_option maxRecDepth 20000 in
theorem ggX5_sector_X5_sectorOf : GoodIn wsX5_sector wsX5_sectorOf := goodIn_r _ [13, 1, 22, 23, 24, 25, 26, 27, 28, 29, 30, 31, 32, 33, 34, 35] rfl (by decide +kernel)
set_option maxRecDepth 20000 in
theorem gX5_sector_X5_sectorOf : GoodIn wsX5_sector (wsV RX5 53 RX5 yX5_sectorOf wsX5_sectorOf) := goodIn_app (goodIn_of _ (by decide +kernel)) ggX5_sector_X5_sectorOf
set_option maxRecDepth 20000 in
theorem ggX5_sector_X5_canBeRead : GoodIn wsX5_sector wsX5_canBeRead := goodIn_r _ [17, 1, 18, 19, 20, 4, 21, 10, 11, 12, 13, 22, 23, 24, 25, 26, 27, 28, 29, 30, 31, 32, 33, 34, 35] rfl (by decide +kernel)
set_option maxRecDepth 20000 in
theorem gX5_sector_X5_canBeRead : GoodIn wsX5_sector (wsV RX5 82 RX5 yX5_canBeRead wsX5_canBeRead) := goodIn_app (goodIn_of _ (by decide +kernel)) ggX5_sector_X5_canBeRead
theorem dX5_sector_0 : decode cX5_sector 0 = .ok (.iload_n 1, 1) := by decide +kernel
theorem dX5_sector_1 : decode cX5_sector 1 = .ok (.invokestatic 64, 3) := by decide +kernel
theorem dX5_sector_4 : decode cX5_sector 4 = .ok (.ifCond .ne 5, 3) := by decide +kernel
theorem dX5_sector_7 : decode cX5_sector 7 = .ok (.iconst (-1), 1) := by decide +kernel
theorem dX5_sector_8 : decode cX5_sector 8 = .ok (.ireturn, 1) := by decide +kernel
theorem dX5_sector_9 : decode cX5_sector 9 = .ok (.aload_n 0, 1) := by decide +kernel
theorem dX5_sector_10 : decode cX5_sector 10 = .ok (.iload_n 1, 1) := by decide +kernel
theorem dX5_sector_11 : decode cX5_sector 11 = .ok (.invokevirtual 53, 3) := by decide +kernel
theorem dX5_sector_14 : decode cX5_sector 14 = .ok (.istore_n 3, 1) := by decide +kernel
theorem dX5_sector_15 : decode cX5_sector 15 = .ok (.iload_n 2, 1) := by decide +kernel
theorem dX5_sector_16 : decode cX5_sector 16 = .ok (.tableswitch 111 0 6 #[44, 49, 54, 64, 75, 86, 97], 44) := by decide +kernel
theorem dX5_sector_60 : decode cX5_sector 60 = .ok (.iload_n 3, 1) := by decide +kernel
theorem dX5_sector_61 : decode cX5_sector 61 = .ok (.bipush 12, 2) := by decide +kernel
theorem dX5_sector_63 : decode cX5_sector 63 = .ok (.idiv, 1) := by decide +kernel
theorem dX5_sector_64 : decode cX5_sector 64 = .ok (.ireturn, 1) := by decide +kernel
theorem dX5_sector_65 : decode cX5_sector 65 = .ok (.iload_n 3, 1) := by decide +kernel
theorem dX5_sector_66 : decode cX5_sector 66 = .ok (.bipush 12, 2) := by decide +kernel
theorem dX5_sector_68 : decode cX5_sector 68 = .ok (.irem, 1) := by decide +kernel
theorem dX5_sector_69 : decode cX5_sector 69 = .ok (.ireturn, 1) := by decide +kernel
theorem dX5_sector_70 : decode cX5_sector 70 = .ok (.aload_n 0, 1) := by decide +kernel
theorem dX5_sector_71 : decode cX5_sector 71 = .ok (.getfield 7, 3) := by decide +kernel
theorem dX5_sector_74 : decode cX5_sector 74 = .ok (.bipush 12, 2) := by decide +kernel
theorem dX5_sector_76 : decode cX5_sector 76 = .ok (.iload_n 3, 1) := by decide +kernel
theorem dX5_sector_77 : decode cX5_sector 77 = .ok (.iadd, 1) := by decide +kernel
theorem dX5_sector_78 : decode cX5_sector 78 = .ok (.iaload, 1) := by decide +kernel
theorem dX5_sector_79 : decode cX5_sector 79 = .ok (.ireturn, 1) := by decide +kernel
theorem dX5_sector_80 : decode cX5_sector 80 = .ok (.aload_n 0, 1) := by decide +kernel
theorem dX5_sector_81 : decode cX5_sector 81 = .ok (.getfield 7, 3) := by decide +kernel
theorem dX5_sector_84 : decode cX5_sector 84 = .ok (.sipush 216, 3) := by decide +kernel
theorem dX5_sector_87 : decode cX5_sector 87 = .ok (.iload_n 3, 1) := by decide +kernel
theorem dX5_sector_88 : decode cX5_sector 88 = .ok (.iadd, 1) := by decide +kernel
theorem dX5_sector_89 : decode cX5_sector 89 = .ok (.iaload, 1) := by decide +kernel
theorem dX5_sector_90 : decode cX5_sector 90 = .ok (.ireturn, 1) := by decide +kernel
theorem dX5_sector_91 : decode cX5_sector 91 = .ok (.aload_n 0, 1) := by decide +kernel
theorem dX5_sector_92 : decode cX5_sector 92 = .ok (.getfield 7, 3) := by decide +kernel
theorem dX5_sector_95 : decode cX5_sector 95 = .ok (.sipush 420, 3) := by decide +kernel
theorem dX5_sector_98 : decode cX5_sector 98 = .ok (.iload_n 3, 1) := by decide +kernel
theorem dX5_sector_99 : decode cX5_sector 99 = .ok (.iadd, 1) := by decide +kernel
theorem dX5_sector_100 : decode cX5_sector 100 = .ok (.iaload, 1) := by decide +kernel
theorem dX5_sector_101 : decode cX5_sector 101 = .ok (.ireturn, 1) := by decide +kernel
theorem dX5_sector_102 : decode cX5_sector 102 = .ok (.iload_n 3, 1) := by decide +kernel
theorem dX5_sector_103 : decode cX5_sector 103 = .ok (.iload_n 1, 1) := by decide +kernel
theorem dX5_sector_104 : decode cX5_sector 104 = .ok (.if_icmp .ne 7, 3) := by decide +kernel
theorem dX5_sector_107 : decode cX5_sector 107 = .ok (.iconst 0, 1) := by decide +kernel
theorem dX5_sector_108 : decode cX5_sector 108 = .ok (.goto 4, 3) := by decide +kernel
theorem dX5_sector_111 : decode cX5_sector 111 = .ok (.iconst 1, 1) := by decide +kernel
theorem dX5_sector_112 : decode cX5_sector 112 = .ok (.ireturn, 1) := by decide +kernel
theorem dX5_sector_113 : decode cX5_sector 113 = .ok (.aload_n 0, 1) := by decide +kernel
theorem dX5_sector_114 : decode cX5_sector 114 = .ok (.iload_n 1, 1) := by decide +kernel
theorem dX5_sector_115 : decode cX5_sector 115 = .ok (.invokevirtual 82, 3) := by decide +kernel
theorem dX5_sector_118 : decode cX5_sector 118 = .ok (.ifCond .eq 7, 3) := by decide +kernel
theorem dX5_sector_121 : decode cX5_sector 121 = .ok (.iconst 1, 1) := by decide +kernel
theorem dX5_sector_122 : decode cX5_sector 122 = .ok (.goto 4, 3) := by decide +kernel
theorem dX5_sector_125 : decode cX5_sector 125 = .ok (.iconst 0, 1) := by decide +kernel
theorem dX5_sector_126 : decode cX5_sector 126 = .ok (.ireturn, 1) := by decide +kernel
theorem dX5_sector_127 : decode cX5_sector 127 = .ok (.bipush (-2), 2) := by decide +kernel
theorem dX5_sector_129 : decode cX5_sector 129 = .ok (.ireturn, 1) := by decide +kernel
set_option maxRecDepth 20000 in
theorem ggX5_addresses_X5_holds : GoodIn wsX5_addresses wsX5_holds := goodIn_r _ [5, 6, 7, 8, 9, 4, 10, 15, 16, 17, 18, 19, 20, 21, 22, 23, 24, 25, 26, 27, 28] rfl (by decide +kernel)
set_option maxRecDepth 20000 in
theorem gX5_addresses_X5_holds : GoodIn wsX5_addresses (wsV RX5 57 RX5 yX5_holds wsX5_holds) := goodIn_app (goodIn_of _ (by decide +kernel)) ggX5_addresses_X5_holds
set_option maxRecDepth 20000 in
theorem ggX5_addresses_X5_sectorOf : GoodIn wsX5_addresses wsX5_sectorOf := goodIn_r _ [10, 6, 15, 16, 17, 18, 19, 20, 21, 22, 23, 24, 25, 26, 27, 28] rfl (by decide +kernel)
set_option maxRecDepth 20000 in
theorem gX5_addresses_X5_sectorOf : GoodIn wsX5_addresses (wsV RX5 53 RX5 yX5_sectorOf wsX5_sectorOf) := goodIn_app (goodIn_of _ (by decide +kernel)) ggX5_addresses_X5_sectorOf
set_option maxRecDepth 20000 in
theorem ggX5_addresses_X5_canBeRead : GoodIn wsX5_addresses wsX5_canBeRead := goodIn_r _ [14, 6, 1, 2, 3, 4, 5, 7, 8, 9, 10, 15, 16, 17, 18, 19, 20, 21, 22, 23, 24, 25, 26, 27, 28] rfl (by decide +kernel)
set_option maxRecDepth 20000 in
theorem gX5_addresses_X5_canBeRead : GoodIn wsX5_addresses (wsV RX5 82 RX5 yX5_canBeRead wsX5_canBeRead) := goodIn_app (goodIn_of _ (by decide +kernel)) ggX5_addresses_X5_canBeRead
theorem dX5_addresses_0 : decode cX5_addresses 0 = .ok (.iconst 0, 1) := by decide +kernel
theorem dX5_addresses_1 : decode cX5_addresses 1 = .ok (.istore_n 3, 1) := by decide +kernel
theorem dX5_addresses_2 : decode cX5_addresses 2 = .ok (.iconst 0, 1) := by decide +kernel
theorem dX5_addresses_3 : decode cX5_addresses 3 = .ok (.istore 4, 2) := by decide +kernel
theorem dX5_addresses_5 : decode cX5_addresses 5 = .ok (.iload 4, 2) := by decide +kernel
theorem dX5_addresses_7 : decode cX5_addresses 7 = .ok (.sipush 192, 3) := by decide +kernel
theorem dX5_addresses_10 : decode cX5_addresses 10 = .ok (.if_icmp .ge 70, 3) := by decide +kernel
theorem dX5_addresses_13 : decode cX5_addresses 13 = .ok (.aload_n 0, 1) := by decide +kernel
theorem dX5_addresses_14 : decode cX5_addresses 14 = .ok (.iload 4, 2) := by decide +kernel
theorem dX5_addresses_16 : decode cX5_addresses 16 = .ok (.invokevirtual 57, 3) := by decide +kernel
theorem dX5_addresses_19 : decode cX5_addresses 19 = .ok (.ifCond .eq 39, 3) := by decide +kernel
theorem dX5_addresses_22 : decode cX5_addresses 22 = .ok (.iload_n 1, 1) := by decide +kernel
theorem dX5_addresses_23 : decode cX5_addresses 23 = .ok (.bipush (-6), 2) := by decide +kernel
theorem dX5_addresses_25 : decode cX5_addresses 25 = .ok (.if_icmp .eq 16, 3) := by decide +kernel
theorem dX5_addresses_28 : decode cX5_addresses 28 = .ok (.aload_n 0, 1) := by decide +kernel
theorem dX5_addresses_29 : decode cX5_addresses 29 = .ok (.iload 4, 2) := by decide +kernel
theorem dX5_addresses_31 : decode cX5_addresses 31 = .ok (.invokevirtual 53, 3) := by decide +kernel
theorem dX5_addresses_34 : decode cX5_addresses 34 = .ok (.bipush 12, 2) := by decide +kernel
theorem dX5_addresses_36 : decode cX5_addresses 36 = .ok (.idiv, 1) := by decide +kernel
theorem dX5_addresses_37 : decode cX5_addresses 37 = .ok (.iload_n 1, 1) := by decide +kernel
theorem dX5_addresses_38 : decode cX5_addresses 38 = .ok (.if_icmp .ne 20, 3) := by decide +kernel
theorem dX5_addresses_41 : decode cX5_addresses 41 = .ok (.iload_n 2, 1) := by decide +kernel
theorem dX5_addresses_42 : decode cX5_addresses 42 = .ok (.ifCond .eq 12, 3) := by decide +kernel
theorem dX5_addresses_45 : decode cX5_addresses 45 = .ok (.aload_n 0, 1) := by decide +kernel
theorem dX5_addresses_46 : decode cX5_addresses 46 = .ok (.iload 4, 2) := by decide +kernel
theorem dX5_addresses_48 : decode cX5_addresses 48 = .ok (.invokevirtual 82, 3) := by decide +kernel
theorem dX5_addresses_51 : decode cX5_addresses 51 = .ok (.ifCond .ne 7, 3) := by decide +kernel
theorem dX5_addresses_54 : decode cX5_addresses 54 = .ok (.iconst 1, 1) := by decide +kernel
theorem dX5_addresses_55 : decode cX5_addresses 55 = .ok (.goto 4, 3) := by decide +kernel
theorem dX5_addresses_58 : decode cX5_addresses 58 = .ok (.iconst 0, 1) := by decide +kernel
theorem dX5_addresses_59 : decode cX5_addresses 59 = .ok (.istore 5, 2) := by decide +kernel
theorem dX5_addresses_61 : decode cX5_addresses 61 = .ok (.iload_n 3, 1) := by decide +kernel
theorem dX5_addresses_62 : decode cX5_addresses 62 = .ok (.iload 5, 2) := by decide +kernel
theorem dX5_addresses_64 : decode cX5_addresses 64 = .ok (.ifCond .eq 7, 3) := by decide +kernel
theorem dX5_addresses_67 : decode cX5_addresses 67 = .ok (.iconst 1, 1) := by decide +kernel
theorem dX5_addresses_68 : decode cX5_addresses 68 = .ok (.goto 4, 3) := by decide +kernel
theorem dX5_addresses_71 : decode cX5_addresses 71 = .ok (.iconst 0, 1) := by decide +kernel
theorem dX5_addresses_72 : decode cX5_addresses 72 = .ok (.iadd, 1) := by decide +kernel
theorem dX5_addresses_73 : decode cX5_addresses 73 = .ok (.istore_n 3, 1) := by decide +kernel
theorem dX5_addresses_74 : decode cX5_addresses 74 = .ok (.iinc 4 1, 3) := by decide +kernel
theorem dX5_addresses_77 : decode cX5_addresses 77 = .ok (.goto (-72), 3) := by decide +kernel
theorem dX5_addresses_80 : decode cX5_addresses 80 = .ok (.iload_n 3, 1) := by decide +kernel
theorem dX5_addresses_81 : decode cX5_addresses 81 = .ok (.ireturn, 1) := by decide +kernel
theorem dX5_sumOn_0 : decode cX5_sumOn 0 = .ok (.iconst 0, 1) := by decide +kernel
theorem dX5_sumOn_1 : decode cX5_sumOn 1 = .ok (.istore_n 3, 1) := by decide +kernel
theorem dX5_sumOn_2 : decode cX5_sumOn 2 = .ok (.iconst 0, 1) := by decide +kernel
theorem dX5_sumOn_3 : decode cX5_sumOn 3 = .ok (.istore 4, 2) := by decide +kernel
theorem dX5_sumOn_5 : decode cX5_sumOn 5 = .ok (.iload 4, 2) := by decide +kernel
theorem dX5_sumOn_7 : decode cX5_sumOn 7 = .ok (.bipush 12, 2) := by decide +kernel
theorem dX5_sumOn_9 : decode cX5_sumOn 9 = .ok (.if_icmp .ge 26, 3) := by decide +kernel
theorem dX5_sumOn_12 : decode cX5_sumOn 12 = .ok (.iload_n 3, 1) := by decide +kernel
theorem dX5_sumOn_13 : decode cX5_sumOn 13 = .ok (.aload_n 0, 1) := by decide +kernel
theorem dX5_sumOn_14 : decode cX5_sumOn 14 = .ok (.getfield 7, 3) := by decide +kernel
theorem dX5_sumOn_17 : decode cX5_sumOn 17 = .ok (.iload_n 2, 1) := by decide +kernel
theorem dX5_sumOn_18 : decode cX5_sumOn 18 = .ok (.bipush 12, 2) := by decide +kernel
theorem dX5_sumOn_20 : decode cX5_sumOn 20 = .ok (.iload_n 1, 1) := by decide +kernel
theorem dX5_sumOn_21 : decode cX5_sumOn 21 = .ok (.imul, 1) := by decide +kernel
theorem dX5_sumOn_22 : decode cX5_sumOn 22 = .ok (.iadd, 1) := by decide +kernel
theorem dX5_sumOn_23 : decode cX5_sumOn 23 = .ok (.iload 4, 2) := by decide +kernel
theorem dX5_sumOn_25 : decode cX5_sumOn 25 = .ok (.iadd, 1) := by decide +kernel
theorem dX5_sumOn_26 : decode cX5_sumOn 26 = .ok (.iaload, 1) := by decide +kernel
theorem dX5_sumOn_27 : decode cX5_sumOn 27 = .ok (.iadd, 1) := by decide +kernel
theorem dX5_sumOn_28 : decode cX5_sumOn 28 = .ok (.istore_n 3, 1) := by decide +kernel
theorem dX5_sumOn_29 : decode cX5_sumOn 29 = .ok (.iinc 4 1, 3) := by decide +kernel
theorem dX5_sumOn_32 : decode cX5_sumOn 32 = .ok (.goto (-27), 3) := by decide +kernel
theorem dX5_sumOn_35 : decode cX5_sumOn 35 = .ok (.iload_n 3, 1) := by decide +kernel
theorem dX5_sumOn_36 : decode cX5_sumOn 36 = .ok (.ireturn, 1) := by decide +kernel
set_option maxRecDepth 20000 in
theorem ggX5_track_X5_in : GoodIn wsX5_track wsX5_in := goodIn_r _ [5] rfl (by decide +kernel)
set_option maxRecDepth 20000 in
theorem gX5_track_X5_in : GoodIn wsX5_track (va_wsS RX5 49 yX5_in wsX5_in) := goodIn_app (goodIn_of _ (by decide +kernel)) ggX5_track_X5_in
set_option maxRecDepth 20000 in
theorem ggX5_track_X5_addresses : GoodIn wsX5_track wsX5_addresses := goodIn_r _ [9, 10, 11, 12, 4, 13, 14, 15, 16, 17, 18, 19, 20, 21, 22, 27, 28, 29, 30, 31, 32, 33, 34, 35, 36, 37, 38, 39, 40] rfl (by decide +kernel)
set_option maxRecDepth 20000 in
theorem gX5_track_X5_addresses : GoodIn wsX5_track (wsV RX5 117 RX5 yX5_addresses wsX5_addresses) := goodIn_app (goodIn_of _ (by decide +kernel)) ggX5_track_X5_addresses
set_option maxRecDepth 20000 in
theorem ggX5_track_X5_sumOn : GoodIn wsX5_track wsX5_sumOn := goodIn_r _ [26, 14, 27, 28, 29, 30, 31, 32, 33, 34, 35, 36, 37, 38, 39, 40] rfl (by decide +kernel)
set_option maxRecDepth 20000 in
theorem gX5_track_X5_sumOn : GoodIn wsX5_track (wsV RX5 121 RX5 yX5_sumOn wsX5_sumOn) := goodIn_app (goodIn_of _ (by decide +kernel)) ggX5_track_X5_sumOn
theorem dX5_track_0 : decode cX5_track 0 = .ok (.iload_n 1, 1) := by decide +kernel
theorem dX5_track_1 : decode cX5_track 1 = .ok (.i2l, 1) := by decide +kernel
theorem dX5_track_2 : decode cX5_track 2 = .ok (.lconst 0, 1) := by decide +kernel
theorem dX5_track_3 : decode cX5_track 3 = .ok (.ldc2_w 113, 3) := by decide +kernel
theorem dX5_track_6 : decode cX5_track 6 = .ok (.invokestatic 49, 3) := by decide +kernel
theorem dX5_track_9 : decode cX5_track 9 = .ok (.ifCond .ne 5, 3) := by decide +kernel
theorem dX5_track_12 : decode cX5_track 12 = .ok (.iconst (-1), 1) := by decide +kernel
theorem dX5_track_13 : decode cX5_track 13 = .ok (.ireturn, 1) := by decide +kernel
theorem dX5_track_14 : decode cX5_track 14 = .ok (.iload_n 2, 1) := by decide +kernel
theorem dX5_track_15 : decode cX5_track 15 = .ok (.tableswitch 63 0 3 #[29, 29, 45, 54], 29) := by decide +kernel
theorem dX5_track_44 : decode cX5_track 44 = .ok (.aload_n 0, 1) := by decide +kernel
theorem dX5_track_45 : decode cX5_track 45 = .ok (.iload_n 1, 1) := by decide +kernel
theorem dX5_track_46 : decode cX5_track 46 = .ok (.iload_n 2, 1) := by decide +kernel
theorem dX5_track_47 : decode cX5_track 47 = .ok (.iconst 1, 1) := by decide +kernel
theorem dX5_track_48 : decode cX5_track 48 = .ok (.if_icmp .ne 7, 3) := by decide +kernel
theorem dX5_track_51 : decode cX5_track 51 = .ok (.iconst 1, 1) := by decide +kernel
theorem dX5_track_52 : decode cX5_track 52 = .ok (.goto 4, 3) := by decide +kernel
theorem dX5_track_55 : decode cX5_track 55 = .ok (.iconst 0, 1) := by decide +kernel
theorem dX5_track_56 : decode cX5_track 56 = .ok (.invokevirtual 117, 3) := by decide +kernel
theorem dX5_track_59 : decode cX5_track 59 = .ok (.ireturn, 1) := by decide +kernel
theorem dX5_track_60 : decode cX5_track 60 = .ok (.aload_n 0, 1) := by decide +kernel
theorem dX5_track_61 : decode cX5_track 61 = .ok (.iload_n 1, 1) := by decide +kernel
theorem dX5_track_62 : decode cX5_track 62 = .ok (.sipush 216, 3) := by decide +kernel
theorem dX5_track_65 : decode cX5_track 65 = .ok (.invokevirtual 121, 3) := by decide +kernel
theorem dX5_track_68 : decode cX5_track 68 = .ok (.ireturn, 1) := by decide +kernel
theorem dX5_track_69 : decode cX5_track 69 = .ok (.aload_n 0, 1) := by decide +kernel
theorem dX5_track_70 : decode cX5_track 70 = .ok (.iload_n 1, 1) := by decide +kernel
theorem dX5_track_71 : decode cX5_track 71 = .ok (.sipush 420, 3) := by decide +kernel
theorem dX5_track_74 : decode cX5_track 74 = .ok (.invokevirtual 121, 3) := by decide +kernel
theorem dX5_track_77 : decode cX5_track 77 = .ok (.ireturn, 1) := by decide +kernel
theorem dX5_track_78 : decode cX5_track 78 = .ok (.bipush (-2), 2) := by decide +kernel
theorem dX5_track_80 : decode cX5_track 80 = .ok (.ireturn, 1) := by decide +kernel
set_option maxRecDepth 20000 in
theorem ggX5_greatestBlur_X5_sectorOf : GoodIn wsX5_greatestBlur wsX5_sectorOf := goodIn_r _ [6, 1, 7, 8, 9, 10, 11, 12, 13, 14, 15, 16, 17, 18, 19, 20] rfl (by decide +kernel)
set_option maxRecDepth 20000 in
theorem gX5_greatestBlur_X5_sectorOf : GoodIn wsX5_greatestBlur (wsV RX5 53 RX5 yX5_sectorOf wsX5_sectorOf) := goodIn_app (goodIn_of _ (by decide +kernel)) ggX5_greatestBlur_X5_sectorOf
theorem dX5_greatestBlur_0 : decode cX5_greatestBlur 0 = .ok (.iconst 0, 1) := by decide +kernel
theorem dX5_greatestBlur_1 : decode cX5_greatestBlur 1 = .ok (.istore_n 1, 1) := by decide +kernel
theorem dX5_greatestBlur_2 : decode cX5_greatestBlur 2 = .ok (.iconst 0, 1) := by decide +kernel
theorem dX5_greatestBlur_3 : decode cX5_greatestBlur 3 = .ok (.istore_n 2, 1) := by decide +kernel
theorem dX5_greatestBlur_4 : decode cX5_greatestBlur 4 = .ok (.iload_n 2, 1) := by decide +kernel
theorem dX5_greatestBlur_5 : decode cX5_greatestBlur 5 = .ok (.sipush 192, 3) := by decide +kernel
theorem dX5_greatestBlur_8 : decode cX5_greatestBlur 8 = .ok (.if_icmp .ge 35, 3) := by decide +kernel
theorem dX5_greatestBlur_11 : decode cX5_greatestBlur 11 = .ok (.aload_n 0, 1) := by decide +kernel
theorem dX5_greatestBlur_12 : decode cX5_greatestBlur 12 = .ok (.getfield 7, 3) := by decide +kernel
theorem dX5_greatestBlur_15 : decode cX5_greatestBlur 15 = .ok (.sipush 216, 3) := by decide +kernel
theorem dX5_greatestBlur_18 : decode cX5_greatestBlur 18 = .ok (.aload_n 0, 1) := by decide +kernel
theorem dX5_greatestBlur_19 : decode cX5_greatestBlur 19 = .ok (.iload_n 2, 1) := by decide +kernel
theorem dX5_greatestBlur_20 : decode cX5_greatestBlur 20 = .ok (.invokevirtual 53, 3) := by decide +kernel
theorem dX5_greatestBlur_23 : decode cX5_greatestBlur 23 = .ok (.iadd, 1) := by decide +kernel
theorem dX5_greatestBlur_24 : decode cX5_greatestBlur 24 = .ok (.iaload, 1) := by decide +kernel
theorem dX5_greatestBlur_25 : decode cX5_greatestBlur 25 = .ok (.istore_n 3, 1) := by decide +kernel
theorem dX5_greatestBlur_26 : decode cX5_greatestBlur 26 = .ok (.iload_n 3, 1) := by decide +kernel
theorem dX5_greatestBlur_27 : decode cX5_greatestBlur 27 = .ok (.iload_n 1, 1) := by decide +kernel
theorem dX5_greatestBlur_28 : decode cX5_greatestBlur 28 = .ok (.if_icmp .le 7, 3) := by decide +kernel
theorem dX5_greatestBlur_31 : decode cX5_greatestBlur 31 = .ok (.iload_n 3, 1) := by decide +kernel
theorem dX5_greatestBlur_32 : decode cX5_greatestBlur 32 = .ok (.goto 4, 3) := by decide +kernel
theorem dX5_greatestBlur_35 : decode cX5_greatestBlur 35 = .ok (.iload_n 1, 1) := by decide +kernel
theorem dX5_greatestBlur_36 : decode cX5_greatestBlur 36 = .ok (.istore_n 1, 1) := by decide +kernel
theorem dX5_greatestBlur_37 : decode cX5_greatestBlur 37 = .ok (.iinc 2 1, 3) := by decide +kernel
theorem dX5_greatestBlur_40 : decode cX5_greatestBlur 40 = .ok (.goto (-36), 3) := by decide +kernel
theorem dX5_greatestBlur_43 : decode cX5_greatestBlur 43 = .ok (.iload_n 1, 1) := by decide +kernel
theorem dX5_greatestBlur_44 : decode cX5_greatestBlur 44 = .ok (.ireturn, 1) := by decide +kernel
set_option maxRecDepth 20000 in
theorem ggX5_count_X5_addresses : GoodIn wsX5_count wsX5_addresses := goodIn_r _ [9, 10, 11, 12, 8, 13, 1, 14, 15, 16, 17, 18, 19, 20, 21, 29, 30, 31, 32, 33, 34, 35, 36, 37, 38, 39, 40, 41, 42] rfl (by decide +kernel)
set_option maxRecDepth 20000 in
theorem gX5_count_X5_addresses : GoodIn wsX5_count (wsV RX5 117 RX5 yX5_addresses wsX5_addresses) := goodIn_app (goodIn_of _ (by decide +kernel)) ggX5_count_X5_addresses
set_option maxRecDepth 20000 in
theorem ggX5_count_X5_greatestBlur : GoodIn wsX5_count wsX5_greatestBlur := goodIn_r _ [25, 1, 14, 15, 16, 8, 17, 29, 30, 31, 32, 33, 34, 35, 36, 37, 38, 39, 40, 41, 42] rfl (by decide +kernel)
set_option maxRecDepth 20000 in
theorem gX5_count_X5_greatestBlur : GoodIn wsX5_count (wsV RX5 124 RX5 yX5_greatestBlur wsX5_greatestBlur) := goodIn_app (goodIn_of _ (by decide +kernel)) ggX5_count_X5_greatestBlur
set_option maxRecDepth 20000 in
theorem ggX5_count_X5_in : GoodIn wsX5_count wsX5_in := goodIn_r _ [28] rfl (by decide +kernel)
set_option maxRecDepth 20000 in
theorem gX5_count_X5_in : GoodIn wsX5_count (va_wsS RX5 49 yX5_in wsX5_in) := goodIn_app (goodIn_of _ (by decide +kernel)) ggX5_count_X5_in
theorem dX5_count_0 : decode cX5_count 0 = .ok (.iload_n 1, 1) := by decide +kernel
theorem dX5_count_1 : decode cX5_count 1 = .ok (.tableswitch 123 7 17 #[59, 69, 77, 77, 95, 95, 95, 95, 108, 113, 118], 59) := by decide +kernel
theorem dX5_count_60 : decode cX5_count 60 = .ok (.aload_n 0, 1) := by decide +kernel
theorem dX5_count_61 : decode cX5_count 61 = .ok (.getfield 7, 3) := by decide +kernel
theorem dX5_count_64 : decode cX5_count 64 = .ok (.iconst 5, 1) := by decide +kernel
theorem dX5_count_65 : decode cX5_count 65 = .ok (.iaload, 1) := by decide +kernel
theorem dX5_count_66 : decode cX5_count 66 = .ok (.bipush 12, 2) := by decide +kernel
theorem dX5_count_68 : decode cX5_count 68 = .ok (.irem, 1) := by decide +kernel
theorem dX5_count_69 : decode cX5_count 69 = .ok (.ireturn, 1) := by decide +kernel
theorem dX5_count_70 : decode cX5_count 70 = .ok (.aload_n 0, 1) := by decide +kernel
theorem dX5_count_71 : decode cX5_count 71 = .ok (.getfield 7, 3) := by decide +kernel
theorem dX5_count_74 : decode cX5_count 74 = .ok (.bipush 7, 2) := by decide +kernel
theorem dX5_count_76 : decode cX5_count 76 = .ok (.iaload, 1) := by decide +kernel
theorem dX5_count_77 : decode cX5_count 77 = .ok (.ireturn, 1) := by decide +kernel
theorem dX5_count_78 : decode cX5_count 78 = .ok (.aload_n 0, 1) := by decide +kernel
theorem dX5_count_79 : decode cX5_count 79 = .ok (.bipush (-6), 2) := by decide +kernel
theorem dX5_count_81 : decode cX5_count 81 = .ok (.iload_n 1, 1) := by decide +kernel
theorem dX5_count_82 : decode cX5_count 82 = .ok (.bipush 10, 2) := by decide +kernel
theorem dX5_count_84 : decode cX5_count 84 = .ok (.if_icmp .ne 7, 3) := by decide +kernel
theorem dX5_count_87 : decode cX5_count 87 = .ok (.iconst 1, 1) := by decide +kernel
theorem dX5_count_88 : decode cX5_count 88 = .ok (.goto 4, 3) := by decide +kernel
theorem dX5_count_91 : decode cX5_count 91 = .ok (.iconst 0, 1) := by decide +kernel
theorem dX5_count_92 : decode cX5_count 92 = .ok (.invokevirtual 117, 3) := by decide +kernel
theorem dX5_count_95 : decode cX5_count 95 = .ok (.ireturn, 1) := by decide +kernel
theorem dX5_count_96 : decode cX5_count 96 = .ok (.aload_n 0, 1) := by decide +kernel
theorem dX5_count_97 : decode cX5_count 97 = .ok (.getfield 7, 3) := by decide +kernel
theorem dX5_count_100 : decode cX5_count 100 = .ok (.bipush 8, 2) := by decide +kernel
theorem dX5_count_102 : decode cX5_count 102 = .ok (.iload_n 1, 1) := by decide +kernel
theorem dX5_count_103 : decode cX5_count 103 = .ok (.iadd, 1) := by decide +kernel
theorem dX5_count_104 : decode cX5_count 104 = .ok (.bipush 11, 2) := by decide +kernel
theorem dX5_count_106 : decode cX5_count 106 = .ok (.isub, 1) := by decide +kernel
theorem dX5_count_107 : decode cX5_count 107 = .ok (.iaload, 1) := by decide +kernel
theorem dX5_count_108 : decode cX5_count 108 = .ok (.ireturn, 1) := by decide +kernel
theorem dX5_count_109 : decode cX5_count 109 = .ok (.aload_n 0, 1) := by decide +kernel
theorem dX5_count_110 : decode cX5_count 110 = .ok (.invokevirtual 124, 3) := by decide +kernel
theorem dX5_count_113 : decode cX5_count 113 = .ok (.ireturn, 1) := by decide +kernel
theorem dX5_count_114 : decode cX5_count 114 = .ok (.aload_n 0, 1) := by decide +kernel
theorem dX5_count_115 : decode cX5_count 115 = .ok (.getfield 128, 3) := by decide +kernel
theorem dX5_count_118 : decode cX5_count 118 = .ok (.ireturn, 1) := by decide +kernel
theorem dX5_count_119 : decode cX5_count 119 = .ok (.aload_n 0, 1) := by decide +kernel
theorem dX5_count_120 : decode cX5_count 120 = .ok (.getfield 37, 3) := by decide +kernel
theorem dX5_count_123 : decode cX5_count 123 = .ok (.ireturn, 1) := by decide +kernel
theorem dX5_count_124 : decode cX5_count 124 = .ok (.iload_n 1, 1) := by decide +kernel
theorem dX5_count_125 : decode cX5_count 125 = .ok (.i2l, 1) := by decide +kernel
theorem dX5_count_126 : decode cX5_count 126 = .ok (.lconst 0, 1) := by decide +kernel
theorem dX5_count_127 : decode cX5_count 127 = .ok (.ldc2_w 131, 3) := by decide +kernel
theorem dX5_count_130 : decode cX5_count 130 = .ok (.invokestatic 49, 3) := by decide +kernel
theorem dX5_count_133 : decode cX5_count 133 = .ok (.ifCond .eq 12, 3) := by decide +kernel
theorem dX5_count_136 : decode cX5_count 136 = .ok (.aload_n 0, 1) := by decide +kernel
theorem dX5_count_137 : decode cX5_count 137 = .ok (.getfield 7, 3) := by decide +kernel
theorem dX5_count_140 : decode cX5_count 140 = .ok (.iload_n 1, 1) := by decide +kernel
theorem dX5_count_141 : decode cX5_count 141 = .ok (.iaload, 1) := by decide +kernel
theorem dX5_count_142 : decode cX5_count 142 = .ok (.goto 5, 3) := by decide +kernel
theorem dX5_count_145 : decode cX5_count 145 = .ok (.bipush (-2), 2) := by decide +kernel
theorem dX5_count_147 : decode cX5_count 147 = .ok (.ireturn, 1) := by decide +kernel
set_option maxRecDepth 20000 in
theorem ggX5_ticksFor_X5_isAddress : GoodIn wsX5_ticksFor wsX5_isAddress := goodIn_r _ [4, 5, 6, 7, 3, 8] rfl (by decide +kernel)
set_option maxRecDepth 20000 in
theorem gX5_ticksFor_X5_isAddress : GoodIn wsX5_ticksFor (va_wsS RX5 64 yX5_isAddress wsX5_isAddress) := goodIn_app (goodIn_of _ (by decide +kernel)) ggX5_ticksFor_X5_isAddress
set_option maxRecDepth 20000 in
theorem ggX5_ticksFor_X5_sectorToWrite : GoodIn wsX5_ticksFor wsX5_sectorToWrite := goodIn_r _ [12, 13, 14, 15, 16, 3, 17, 22, 23, 24, 25, 26, 27, 28, 29, 30, 31, 32, 33, 34, 35] rfl (by decide +kernel)
set_option maxRecDepth 20000 in
theorem gX5_ticksFor_X5_sectorToWrite : GoodIn wsX5_ticksFor (wsV RX5 67 RX5 yX5_sectorToWrite wsX5_sectorToWrite) := goodIn_app (goodIn_of _ (by decide +kernel)) ggX5_ticksFor_X5_sectorToWrite
set_option maxRecDepth 20000 in
theorem ggX5_ticksFor_X5_sectorOf : GoodIn wsX5_ticksFor wsX5_sectorOf := goodIn_r _ [17, 13, 22, 23, 24, 25, 26, 27, 28, 29, 30, 31, 32, 33, 34, 35] rfl (by decide +kernel)
set_option maxRecDepth 20000 in
theorem gX5_ticksFor_X5_sectorOf : GoodIn wsX5_ticksFor (wsV RX5 53 RX5 yX5_sectorOf wsX5_sectorOf) := goodIn_app (goodIn_of _ (by decide +kernel)) ggX5_ticksFor_X5_sectorOf
set_option maxRecDepth 20000 in
theorem ggX5_ticksFor_X5_takes : GoodIn wsX5_ticksFor wsX5_takes := goodIn_r _ [21, 13, 22, 23, 24, 25, 26, 27, 28, 29, 30, 31, 32, 33, 34, 35] rfl (by decide +kernel)
set_option maxRecDepth 20000 in
theorem gX5_ticksFor_X5_takes : GoodIn wsX5_ticksFor (wsV RX5 61 RX5 yX5_takes wsX5_takes) := goodIn_app (goodIn_of _ (by decide +kernel)) ggX5_ticksFor_X5_takes
theorem dX5_ticksFor_0 : decode cX5_ticksFor 0 = .ok (.iload_n 1, 1) := by decide +kernel
theorem dX5_ticksFor_1 : decode cX5_ticksFor 1 = .ok (.invokestatic 64, 3) := by decide +kernel
theorem dX5_ticksFor_4 : decode cX5_ticksFor 4 = .ok (.ifCond .eq 27, 3) := by decide +kernel
theorem dX5_ticksFor_7 : decode cX5_ticksFor 7 = .ok (.aload_n 0, 1) := by decide +kernel
theorem dX5_ticksFor_8 : decode cX5_ticksFor 8 = .ok (.iload_n 2, 1) := by decide +kernel
theorem dX5_ticksFor_9 : decode cX5_ticksFor 9 = .ok (.ifCond .eq 11, 3) := by decide +kernel
theorem dX5_ticksFor_12 : decode cX5_ticksFor 12 = .ok (.aload_n 0, 1) := by decide +kernel
theorem dX5_ticksFor_13 : decode cX5_ticksFor 13 = .ok (.iload_n 1, 1) := by decide +kernel
theorem dX5_ticksFor_14 : decode cX5_ticksFor 14 = .ok (.invokevirtual 67, 3) := by decide +kernel
theorem dX5_ticksFor_17 : decode cX5_ticksFor 17 = .ok (.goto 8, 3) := by decide +kernel
theorem dX5_ticksFor_20 : decode cX5_ticksFor 20 = .ok (.aload_n 0, 1) := by decide +kernel
theorem dX5_ticksFor_21 : decode cX5_ticksFor 21 = .ok (.iload_n 1, 1) := by decide +kernel
theorem dX5_ticksFor_22 : decode cX5_ticksFor 22 = .ok (.invokevirtual 53, 3) := by decide +kernel
theorem dX5_ticksFor_25 : decode cX5_ticksFor 25 = .ok (.invokevirtual 61, 3) := by decide +kernel
theorem dX5_ticksFor_28 : decode cX5_ticksFor 28 = .ok (.goto 4, 3) := by decide +kernel
theorem dX5_ticksFor_31 : decode cX5_ticksFor 31 = .ok (.iconst (-1), 1) := by decide +kernel
theorem dX5_ticksFor_32 : decode cX5_ticksFor 32 = .ok (.ireturn, 1) := by decide +kernel
set_option maxRecDepth 20000 in
theorem ggX5_ifRun_X5_fault : GoodIn wsX5_ifRun wsX5_fault := goodIn_r _ [6, 7, 8, 9, 10, 11, 12, 5, 13, 14, 15, 16, 17, 18, 19, 20, 21, 22, 23, 24, 25, 26, 27, 28, 29, 30, 31, 32, 96, 97, 98, 99, 100, 101, 102, 103, 104, 105, 106, 107, 108, 109] rfl (by decide +kernel)
set_option maxRecDepth 20000 in
theorem gX5_ifRun_X5_fault : GoodIn wsX5_ifRun (wsV RX5 133 RX5 yX5_fault wsX5_fault) := goodIn_app (goodIn_of _ (by decide +kernel)) ggX5_ifRun_X5_fault
set_option maxRecDepth 20000 in
theorem ggX5_ifRun_X5_keeps : GoodIn wsX5_ifRun wsX5_keeps := goodIn_r _ [36, 37, 1, 96, 97, 98, 99, 100, 101, 102, 103, 104, 105, 106, 107, 108, 109] rfl (by decide +kernel)
set_option maxRecDepth 20000 in
theorem gX5_ifRun_X5_keeps : GoodIn wsX5_ifRun (wsV RX5 102 RX5 yX5_keeps wsX5_keeps) := goodIn_app (goodIn_of _ (by decide +kernel)) ggX5_ifRun_X5_keeps
set_option maxRecDepth 20000 in
theorem ggX5_ifRun_X5_runs : GoodIn wsX5_ifRun wsX5_runs := goodIn_r _ [41, 8, 42, 14, 43, 44, 45, 5, 46, 1, 47, 48, 49, 50, 16, 51, 52, 53, 54, 55, 56, 57, 58, 59, 60, 61, 62, 63, 64, 65, 66, 67, 68, 69, 70, 71, 72, 73, 74, 75, 76, 77, 78, 79, 80, 81, 82, 83, 84, 85, 86, 87, 88, 89, 90, 91, 22, 23, 24, 96, 97, 98, 99, 100, 101, 102, 103, 104, 105, 106, 107, 108, 109] rfl (by decide +kernel)
set_option maxRecDepth 20000 in
theorem gX5_ifRun_X5_runs : GoodIn wsX5_ifRun (wsV RX5 136 RX5 yX5_runs wsX5_runs) := goodIn_app (goodIn_of _ (by decide +kernel)) ggX5_ifRun_X5_runs
set_option maxRecDepth 20000 in
theorem ggX5_ifRun_X5_comesBack : GoodIn wsX5_ifRun wsX5_comesBack := goodIn_r _ [95, 1, 37, 96, 97, 98, 99, 100, 101, 102, 103, 104, 105, 106, 107, 108, 109] rfl (by decide +kernel)
set_option maxRecDepth 20000 in
theorem gX5_ifRun_X5_comesBack : GoodIn wsX5_ifRun (wsV RX5 41 RX5 yX5_comesBack wsX5_comesBack) := goodIn_app (goodIn_of _ (by decide +kernel)) ggX5_ifRun_X5_comesBack
theorem dX5_ifRun_0 : decode cX5_ifRun 0 = .ok (.aload_n 0, 1) := by decide +kernel
theorem dX5_ifRun_1 : decode cX5_ifRun 1 = .ok (.invokevirtual 133, 3) := by decide +kernel
theorem dX5_ifRun_4 : decode cX5_ifRun 4 = .ok (.bipush (-6), 2) := by decide +kernel
theorem dX5_ifRun_6 : decode cX5_ifRun 6 = .ok (.if_icmp .eq 6, 3) := by decide +kernel
theorem dX5_ifRun_9 : decode cX5_ifRun 9 = .ok (.bipush (-3), 2) := by decide +kernel
theorem dX5_ifRun_11 : decode cX5_ifRun 11 = .ok (.ireturn, 1) := by decide +kernel
theorem dX5_ifRun_12 : decode cX5_ifRun 12 = .ok (.aload_n 0, 1) := by decide +kernel
theorem dX5_ifRun_13 : decode cX5_ifRun 13 = .ok (.invokevirtual 102, 3) := by decide +kernel
theorem dX5_ifRun_16 : decode cX5_ifRun 16 = .ok (.aload_n 0, 1) := by decide +kernel
theorem dX5_ifRun_17 : decode cX5_ifRun 17 = .ok (.getfield 7, 3) := by decide +kernel
theorem dX5_ifRun_20 : decode cX5_ifRun 20 = .ok (.iconst 5, 1) := by decide +kernel
theorem dX5_ifRun_21 : decode cX5_ifRun 21 = .ok (.iaload, 1) := by decide +kernel
theorem dX5_ifRun_22 : decode cX5_ifRun 22 = .ok (.istore_n 2, 1) := by decide +kernel
theorem dX5_ifRun_23 : decode cX5_ifRun 23 = .ok (.aload_n 0, 1) := by decide +kernel
theorem dX5_ifRun_24 : decode cX5_ifRun 24 = .ok (.iload_n 1, 1) := by decide +kernel
theorem dX5_ifRun_25 : decode cX5_ifRun 25 = .ok (.invokevirtual 136, 3) := by decide +kernel
theorem dX5_ifRun_28 : decode cX5_ifRun 28 = .ok (.istore_n 3, 1) := by decide +kernel
theorem dX5_ifRun_29 : decode cX5_ifRun 29 = .ok (.aload_n 0, 1) := by decide +kernel
theorem dX5_ifRun_30 : decode cX5_ifRun 30 = .ok (.getfield 7, 3) := by decide +kernel
theorem dX5_ifRun_33 : decode cX5_ifRun 33 = .ok (.iconst 5, 1) := by decide +kernel
theorem dX5_ifRun_34 : decode cX5_ifRun 34 = .ok (.iaload, 1) := by decide +kernel
theorem dX5_ifRun_35 : decode cX5_ifRun 35 = .ok (.iload_n 2, 1) := by decide +kernel
theorem dX5_ifRun_36 : decode cX5_ifRun 36 = .ok (.isub, 1) := by decide +kernel
theorem dX5_ifRun_37 : decode cX5_ifRun 37 = .ok (.istore 4, 2) := by decide +kernel
theorem dX5_ifRun_39 : decode cX5_ifRun 39 = .ok (.aload_n 0, 1) := by decide +kernel
theorem dX5_ifRun_40 : decode cX5_ifRun 40 = .ok (.invokevirtual 41, 3) := by decide +kernel
theorem dX5_ifRun_43 : decode cX5_ifRun 43 = .ok (.iload 4, 2) := by decide +kernel
theorem dX5_ifRun_45 : decode cX5_ifRun 45 = .ok (.ireturn, 1) := by decide +kernel
set_option maxRecDepth 20000 in
theorem ggX5_untilLost_X5_isAddress : GoodIn wsX5_untilLost wsX5_isAddress := goodIn_r _ [4, 5, 6, 7, 3, 8] rfl (by decide +kernel)
set_option maxRecDepth 20000 in
theorem gX5_untilLost_X5_isAddress : GoodIn wsX5_untilLost (va_wsS RX5 64 yX5_isAddress wsX5_isAddress) := goodIn_app (goodIn_of _ (by decide +kernel)) ggX5_untilLost_X5_isAddress
set_option maxRecDepth 20000 in
theorem ggX5_untilLost_X5_canBeRead : GoodIn wsX5_untilLost wsX5_canBeRead := goodIn_r _ [12, 13, 14, 15, 16, 3, 17, 18, 19, 20, 21, 43, 44, 45, 46, 47, 48, 49, 50, 51, 52, 53, 54, 55, 56] rfl (by decide +kernel)
set_option maxRecDepth 20000 in
theorem gX5_untilLost_X5_canBeRead : GoodIn wsX5_untilLost (wsV RX5 82 RX5 yX5_canBeRead wsX5_canBeRead) := goodIn_app (goodIn_of _ (by decide +kernel)) ggX5_untilLost_X5_canBeRead
set_option maxRecDepth 20000 in
theorem ggX5_untilLost_X5_keeps : GoodIn wsX5_untilLost wsX5_keeps := goodIn_r _ [25, 26, 13, 43, 44, 45, 46, 47, 48, 49, 50, 51, 52, 53, 54, 55, 56] rfl (by decide +kernel)
set_option maxRecDepth 20000 in
theorem gX5_untilLost_X5_keeps : GoodIn wsX5_untilLost (wsV RX5 102 RX5 yX5_keeps wsX5_keeps) := goodIn_app (goodIn_of _ (by decide +kernel)) ggX5_untilLost_X5_keeps
set_option maxRecDepth 20000 in
theorem ggX5_untilLost_X5_puts : GoodIn wsX5_untilLost wsX5_puts := goodIn_r _ [30, 13, 31, 32, 33, 3, 34, 18, 19, 20, 21, 35, 36, 37, 38, 1, 2, 4, 5, 6, 7, 8, 43, 44, 45, 46, 47, 48, 49, 50, 51, 52, 53, 54, 55, 56] rfl (by decide +kernel)
set_option maxRecDepth 20000 in
theorem gX5_untilLost_X5_puts : GoodIn wsX5_untilLost (wsV RX5 79 RX5 yX5_puts wsX5_puts) := goodIn_app (goodIn_of _ (by decide +kernel)) ggX5_untilLost_X5_puts
set_option maxRecDepth 20000 in
theorem ggX5_untilLost_X5_comesBack : GoodIn wsX5_untilLost wsX5_comesBack := goodIn_r _ [42, 13, 26, 43, 44, 45, 46, 47, 48, 49, 50, 51, 52, 53, 54, 55, 56] rfl (by decide +kernel)
set_option maxRecDepth 20000 in
theorem gX5_untilLost_X5_comesBack : GoodIn wsX5_untilLost (wsV RX5 41 RX5 yX5_comesBack wsX5_comesBack) := goodIn_app (goodIn_of _ (by decide +kernel)) ggX5_untilLost_X5_comesBack
theorem dX5_untilLost_0 : decode cX5_untilLost 0 = .ok (.iload_n 1, 1) := by decide +kernel
theorem dX5_untilLost_1 : decode cX5_untilLost 1 = .ok (.invokestatic 64, 3) := by decide +kernel
theorem dX5_untilLost_4 : decode cX5_untilLost 4 = .ok (.ifCond .eq 10, 3) := by decide +kernel
theorem dX5_untilLost_7 : decode cX5_untilLost 7 = .ok (.iload_n 2, 1) := by decide +kernel
theorem dX5_untilLost_8 : decode cX5_untilLost 8 = .ok (.invokestatic 64, 3) := by decide +kernel
theorem dX5_untilLost_11 : decode cX5_untilLost 11 = .ok (.ifCond .ne 5, 3) := by decide +kernel
theorem dX5_untilLost_14 : decode cX5_untilLost 14 = .ok (.iconst (-1), 1) := by decide +kernel
theorem dX5_untilLost_15 : decode cX5_untilLost 15 = .ok (.ireturn, 1) := by decide +kernel
theorem dX5_untilLost_16 : decode cX5_untilLost 16 = .ok (.iload_n 1, 1) := by decide +kernel
theorem dX5_untilLost_17 : decode cX5_untilLost 17 = .ok (.iload_n 2, 1) := by decide +kernel
theorem dX5_untilLost_18 : decode cX5_untilLost 18 = .ok (.if_icmp .ne 6, 3) := by decide +kernel
theorem dX5_untilLost_21 : decode cX5_untilLost 21 = .ok (.bipush (-2), 2) := by decide +kernel
theorem dX5_untilLost_23 : decode cX5_untilLost 23 = .ok (.ireturn, 1) := by decide +kernel
theorem dX5_untilLost_24 : decode cX5_untilLost 24 = .ok (.aload_n 0, 1) := by decide +kernel
theorem dX5_untilLost_25 : decode cX5_untilLost 25 = .ok (.iload_n 2, 1) := by decide +kernel
theorem dX5_untilLost_26 : decode cX5_untilLost 26 = .ok (.invokevirtual 82, 3) := by decide +kernel
theorem dX5_untilLost_29 : decode cX5_untilLost 29 = .ok (.ifCond .ne 6, 3) := by decide +kernel
theorem dX5_untilLost_32 : decode cX5_untilLost 32 = .ok (.bipush (-5), 2) := by decide +kernel
theorem dX5_untilLost_34 : decode cX5_untilLost 34 = .ok (.ireturn, 1) := by decide +kernel
theorem dX5_untilLost_35 : decode cX5_untilLost 35 = .ok (.aload_n 0, 1) := by decide +kernel
theorem dX5_untilLost_36 : decode cX5_untilLost 36 = .ok (.invokevirtual 102, 3) := by decide +kernel
theorem dX5_untilLost_39 : decode cX5_untilLost 39 = .ok (.iconst 0, 1) := by decide +kernel
theorem dX5_untilLost_40 : decode cX5_untilLost 40 = .ok (.istore_n 3, 1) := by decide +kernel
theorem dX5_untilLost_41 : decode cX5_untilLost 41 = .ok (.aload_n 0, 1) := by decide +kernel
theorem dX5_untilLost_42 : decode cX5_untilLost 42 = .ok (.iload_n 2, 1) := by decide +kernel
theorem dX5_untilLost_43 : decode cX5_untilLost 43 = .ok (.invokevirtual 82, 3) := by decide +kernel
theorem dX5_untilLost_46 : decode cX5_untilLost 46 = .ok (.ifCond .eq 22, 3) := by decide +kernel
theorem dX5_untilLost_49 : decode cX5_untilLost 49 = .ok (.iload_n 3, 1) := by decide +kernel
theorem dX5_untilLost_50 : decode cX5_untilLost 50 = .ok (.sipush 500, 3) := by decide +kernel
theorem dX5_untilLost_53 : decode cX5_untilLost 53 = .ok (.if_icmp .gt 15, 3) := by decide +kernel
theorem dX5_untilLost_56 : decode cX5_untilLost 56 = .ok (.aload_n 0, 1) := by decide +kernel
theorem dX5_untilLost_57 : decode cX5_untilLost 57 = .ok (.iload_n 1, 1) := by decide +kernel
theorem dX5_untilLost_58 : decode cX5_untilLost 58 = .ok (.iconst 0, 1) := by decide +kernel
theorem dX5_untilLost_59 : decode cX5_untilLost 59 = .ok (.invokevirtual 79, 3) := by decide +kernel
theorem dX5_untilLost_62 : decode cX5_untilLost 62 = .ok (.iinc 3 1, 3) := by decide +kernel
theorem dX5_untilLost_65 : decode cX5_untilLost 65 = .ok (.goto (-24), 3) := by decide +kernel
theorem dX5_untilLost_68 : decode cX5_untilLost 68 = .ok (.aload_n 0, 1) := by decide +kernel
theorem dX5_untilLost_69 : decode cX5_untilLost 69 = .ok (.invokevirtual 41, 3) := by decide +kernel
theorem dX5_untilLost_72 : decode cX5_untilLost 72 = .ok (.iload_n 3, 1) := by decide +kernel
theorem dX5_untilLost_73 : decode cX5_untilLost 73 = .ok (.sipush 500, 3) := by decide +kernel
theorem dX5_untilLost_76 : decode cX5_untilLost 76 = .ok (.if_icmp .le 8, 3) := by decide +kernel
theorem dX5_untilLost_79 : decode cX5_untilLost 79 = .ok (.bipush (-6), 2) := by decide +kernel
theorem dX5_untilLost_81 : decode cX5_untilLost 81 = .ok (.goto 4, 3) := by decide +kernel
theorem dX5_untilLost_84 : decode cX5_untilLost 84 = .ok (.iload_n 3, 1) := by decide +kernel
theorem dX5_untilLost_85 : decode cX5_untilLost 85 = .ok (.ireturn, 1) := by decide +kernel
set_option maxRecDepth 20000 in
theorem ggX5_worst_X5_canBeRead : GoodIn wsX5_worst wsX5_canBeRead := goodIn_r _ [6, 1, 7, 8, 9, 5, 10, 11, 12, 13, 14, 15, 16, 17, 18, 19, 20, 21, 22, 23, 24, 25, 26, 27, 28] rfl (by decide +kernel)
set_option maxRecDepth 20000 in
theorem gX5_worst_X5_canBeRead : GoodIn wsX5_worst (wsV RX5 82 RX5 yX5_canBeRead wsX5_canBeRead) := goodIn_app (goodIn_of _ (by decide +kernel)) ggX5_worst_X5_canBeRead
set_option maxRecDepth 20000 in
theorem ggX5_worst_X5_sectorOf : GoodIn wsX5_worst wsX5_sectorOf := goodIn_r _ [14, 1, 15, 16, 17, 18, 19, 20, 21, 22, 23, 24, 25, 26, 27, 28] rfl (by decide +kernel)
set_option maxRecDepth 20000 in
theorem gX5_worst_X5_sectorOf : GoodIn wsX5_worst (wsV RX5 53 RX5 yX5_sectorOf wsX5_sectorOf) := goodIn_app (goodIn_of _ (by decide +kernel)) ggX5_worst_X5_sectorOf
theorem dX5_worst_0 : decode cX5_worst 0 = .ok (.bipush (-6), 2) := by decide +kernel
theorem dX5_worst_2 : decode cX5_worst 2 = .ok (.istore_n 1, 1) := by decide +kernel
theorem dX5_worst_3 : decode cX5_worst 3 = .ok (.iconst 0, 1) := by decide +kernel
theorem dX5_worst_4 : decode cX5_worst 4 = .ok (.istore_n 2, 1) := by decide +kernel
theorem dX5_worst_5 : decode cX5_worst 5 = .ok (.iload_n 2, 1) := by decide +kernel
theorem dX5_worst_6 : decode cX5_worst 6 = .ok (.sipush 192, 3) := by decide +kernel
theorem dX5_worst_9 : decode cX5_worst 9 = .ok (.if_icmp .ge 70, 3) := by decide +kernel
theorem dX5_worst_12 : decode cX5_worst 12 = .ok (.aload_n 0, 1) := by decide +kernel
theorem dX5_worst_13 : decode cX5_worst 13 = .ok (.iload_n 2, 1) := by decide +kernel
theorem dX5_worst_14 : decode cX5_worst 14 = .ok (.invokevirtual 82, 3) := by decide +kernel
theorem dX5_worst_17 : decode cX5_worst 17 = .ok (.ifCond .eq 44, 3) := by decide +kernel
theorem dX5_worst_20 : decode cX5_worst 20 = .ok (.iload_n 1, 1) := by decide +kernel
theorem dX5_worst_21 : decode cX5_worst 21 = .ok (.bipush (-6), 2) := by decide +kernel
theorem dX5_worst_23 : decode cX5_worst 23 = .ok (.if_icmp .eq 34, 3) := by decide +kernel
theorem dX5_worst_26 : decode cX5_worst 26 = .ok (.aload_n 0, 1) := by decide +kernel
theorem dX5_worst_27 : decode cX5_worst 27 = .ok (.getfield 7, 3) := by decide +kernel
theorem dX5_worst_30 : decode cX5_worst 30 = .ok (.sipush 216, 3) := by decide +kernel
theorem dX5_worst_33 : decode cX5_worst 33 = .ok (.aload_n 0, 1) := by decide +kernel
theorem dX5_worst_34 : decode cX5_worst 34 = .ok (.iload_n 2, 1) := by decide +kernel
theorem dX5_worst_35 : decode cX5_worst 35 = .ok (.invokevirtual 53, 3) := by decide +kernel
theorem dX5_worst_38 : decode cX5_worst 38 = .ok (.iadd, 1) := by decide +kernel
theorem dX5_worst_39 : decode cX5_worst 39 = .ok (.iaload, 1) := by decide +kernel
theorem dX5_worst_40 : decode cX5_worst 40 = .ok (.aload_n 0, 1) := by decide +kernel
theorem dX5_worst_41 : decode cX5_worst 41 = .ok (.getfield 7, 3) := by decide +kernel
theorem dX5_worst_44 : decode cX5_worst 44 = .ok (.sipush 216, 3) := by decide +kernel
theorem dX5_worst_47 : decode cX5_worst 47 = .ok (.aload_n 0, 1) := by decide +kernel
theorem dX5_worst_48 : decode cX5_worst 48 = .ok (.iload_n 1, 1) := by decide +kernel
theorem dX5_worst_49 : decode cX5_worst 49 = .ok (.invokevirtual 53, 3) := by decide +kernel
theorem dX5_worst_52 : decode cX5_worst 52 = .ok (.iadd, 1) := by decide +kernel
theorem dX5_worst_53 : decode cX5_worst 53 = .ok (.iaload, 1) := by decide +kernel
theorem dX5_worst_54 : decode cX5_worst 54 = .ok (.if_icmp .le 7, 3) := by decide +kernel
theorem dX5_worst_57 : decode cX5_worst 57 = .ok (.iconst 1, 1) := by decide +kernel
theorem dX5_worst_58 : decode cX5_worst 58 = .ok (.goto 4, 3) := by decide +kernel
theorem dX5_worst_61 : decode cX5_worst 61 = .ok (.iconst 0, 1) := by decide +kernel
theorem dX5_worst_62 : decode cX5_worst 62 = .ok (.istore_n 3, 1) := by decide +kernel
theorem dX5_worst_63 : decode cX5_worst 63 = .ok (.iload_n 3, 1) := by decide +kernel
theorem dX5_worst_64 : decode cX5_worst 64 = .ok (.ifCond .eq 7, 3) := by decide +kernel
theorem dX5_worst_67 : decode cX5_worst 67 = .ok (.iload_n 2, 1) := by decide +kernel
theorem dX5_worst_68 : decode cX5_worst 68 = .ok (.goto 4, 3) := by decide +kernel
theorem dX5_worst_71 : decode cX5_worst 71 = .ok (.iload_n 1, 1) := by decide +kernel
theorem dX5_worst_72 : decode cX5_worst 72 = .ok (.istore_n 1, 1) := by decide +kernel
theorem dX5_worst_73 : decode cX5_worst 73 = .ok (.iinc 2 1, 3) := by decide +kernel
theorem dX5_worst_76 : decode cX5_worst 76 = .ok (.goto (-71), 3) := by decide +kernel
theorem dX5_worst_79 : decode cX5_worst 79 = .ok (.iload_n 1, 1) := by decide +kernel
theorem dX5_worst_80 : decode cX5_worst 80 = .ok (.ireturn, 1) := by decide +kernel
set_option maxRecDepth 20000 in
theorem ggX5_charactersOf_X5_in : GoodIn wsX5_charactersOf wsX5_in := goodIn_r _ [7] rfl (by decide +kernel)
set_option maxRecDepth 20000 in
theorem gX5_charactersOf_X5_in : GoodIn wsX5_charactersOf (va_wsS RX5 49 yX5_in wsX5_in) := goodIn_app (goodIn_of _ (by decide +kernel)) ggX5_charactersOf_X5_in
theorem dX5_charactersOf_0 : decode cX5_charactersOf 0 = .ok (.lload_n 0, 1) := by decide +kernel
theorem dX5_charactersOf_1 : decode cX5_charactersOf 1 = .ok (.lstore_n 2, 1) := by decide +kernel
theorem dX5_charactersOf_2 : decode cX5_charactersOf 2 = .ok (.iconst 0, 1) := by decide +kernel
theorem dX5_charactersOf_3 : decode cX5_charactersOf 3 = .ok (.istore 4, 2) := by decide +kernel
theorem dX5_charactersOf_5 : decode cX5_charactersOf 5 = .ok (.iload 4, 2) := by decide +kernel
theorem dX5_charactersOf_7 : decode cX5_charactersOf 7 = .ok (.bipush 8, 2) := by decide +kernel
theorem dX5_charactersOf_9 : decode cX5_charactersOf 9 = .ok (.if_icmp .ge 31, 3) := by decide +kernel
theorem dX5_charactersOf_12 : decode cX5_charactersOf 12 = .ok (.lload_n 2, 1) := by decide +kernel
theorem dX5_charactersOf_13 : decode cX5_charactersOf 13 = .ok (.ldc2_w 108, 3) := by decide +kernel
theorem dX5_charactersOf_16 : decode cX5_charactersOf 16 = .ok (.land, 1) := by decide +kernel
theorem dX5_charactersOf_17 : decode cX5_charactersOf 17 = .ok (.ldc2_w 140, 3) := by decide +kernel
theorem dX5_charactersOf_20 : decode cX5_charactersOf 20 = .ok (.ldc2_w 142, 3) := by decide +kernel
theorem dX5_charactersOf_23 : decode cX5_charactersOf 23 = .ok (.invokestatic 49, 3) := by decide +kernel
theorem dX5_charactersOf_26 : decode cX5_charactersOf 26 = .ok (.ifCond .eq 14, 3) := by decide +kernel
theorem dX5_charactersOf_29 : decode cX5_charactersOf 29 = .ok (.lload_n 2, 1) := by decide +kernel
theorem dX5_charactersOf_30 : decode cX5_charactersOf 30 = .ok (.bipush 8, 2) := by decide +kernel
theorem dX5_charactersOf_32 : decode cX5_charactersOf 32 = .ok (.lushr, 1) := by decide +kernel
theorem dX5_charactersOf_33 : decode cX5_charactersOf 33 = .ok (.lstore_n 2, 1) := by decide +kernel
theorem dX5_charactersOf_34 : decode cX5_charactersOf 34 = .ok (.iinc 4 1, 3) := by decide +kernel
theorem dX5_charactersOf_37 : decode cX5_charactersOf 37 = .ok (.goto (-32), 3) := by decide +kernel
theorem dX5_charactersOf_40 : decode cX5_charactersOf 40 = .ok (.lload_n 2, 1) := by decide +kernel
theorem dX5_charactersOf_41 : decode cX5_charactersOf 41 = .ok (.lconst 0, 1) := by decide +kernel
theorem dX5_charactersOf_42 : decode cX5_charactersOf 42 = .ok (.lcmp, 1) := by decide +kernel
theorem dX5_charactersOf_43 : decode cX5_charactersOf 43 = .ok (.ifCond .ne 8, 3) := by decide +kernel
theorem dX5_charactersOf_46 : decode cX5_charactersOf 46 = .ok (.iload 4, 2) := by decide +kernel
theorem dX5_charactersOf_48 : decode cX5_charactersOf 48 = .ok (.goto 4, 3) := by decide +kernel
theorem dX5_charactersOf_51 : decode cX5_charactersOf 51 = .ok (.iconst 0, 1) := by decide +kernel
theorem dX5_charactersOf_52 : decode cX5_charactersOf 52 = .ok (.ireturn, 1) := by decide +kernel
set_option maxRecDepth 20000 in
theorem ggX5_put_X5_charactersOf : GoodIn wsX5_put wsX5_charactersOf := goodIn_r _ [7, 3, 8, 9, 10, 11, 6, 12] rfl (by decide +kernel)
set_option maxRecDepth 20000 in
theorem gX5_put_X5_charactersOf : GoodIn wsX5_put (va_wsS RX5 144 yX5_charactersOf wsX5_charactersOf) := goodIn_app (goodIn_of _ (by decide +kernel)) ggX5_put_X5_charactersOf
theorem dX5_put_0 : decode cX5_put 0 = .ok (.lload_n 1, 1) := by decide +kernel
theorem dX5_put_1 : decode cX5_put 1 = .ok (.invokestatic 144, 3) := by decide +kernel
theorem dX5_put_4 : decode cX5_put 4 = .ok (.istore_n 3, 1) := by decide +kernel
theorem dX5_put_5 : decode cX5_put 5 = .ok (.iload_n 3, 1) := by decide +kernel
theorem dX5_put_6 : decode cX5_put 6 = .ok (.ifCond .ne 6, 3) := by decide +kernel
theorem dX5_put_9 : decode cX5_put 9 = .ok (.bipush (-2), 2) := by decide +kernel
theorem dX5_put_11 : decode cX5_put 11 = .ok (.ireturn, 1) := by decide +kernel
theorem dX5_put_12 : decode cX5_put 12 = .ok (.aload_n 0, 1) := by decide +kernel
theorem dX5_put_13 : decode cX5_put 13 = .ok (.getfield 128, 3) := by decide +kernel
theorem dX5_put_16 : decode cX5_put 16 = .ok (.iload_n 3, 1) := by decide +kernel
theorem dX5_put_17 : decode cX5_put 17 = .ok (.iadd, 1) := by decide +kernel
theorem dX5_put_18 : decode cX5_put 18 = .ok (.bipush 60, 2) := by decide +kernel
theorem dX5_put_20 : decode cX5_put 20 = .ok (.if_icmp .le 6, 3) := by decide +kernel
theorem dX5_put_23 : decode cX5_put 23 = .ok (.bipush (-4), 2) := by decide +kernel
theorem dX5_put_25 : decode cX5_put 25 = .ok (.ireturn, 1) := by decide +kernel
theorem dX5_put_26 : decode cX5_put 26 = .ok (.iconst 0, 1) := by decide +kernel
theorem dX5_put_27 : decode cX5_put 27 = .ok (.istore 4, 2) := by decide +kernel
theorem dX5_put_29 : decode cX5_put 29 = .ok (.iload 4, 2) := by decide +kernel
theorem dX5_put_31 : decode cX5_put 31 = .ok (.iload_n 3, 1) := by decide +kernel
theorem dX5_put_32 : decode cX5_put 32 = .ok (.if_icmp .ge 37, 3) := by decide +kernel
theorem dX5_put_35 : decode cX5_put 35 = .ok (.aload_n 0, 1) := by decide +kernel
theorem dX5_put_36 : decode cX5_put 36 = .ok (.getfield 25, 3) := by decide +kernel
theorem dX5_put_39 : decode cX5_put 39 = .ok (.aload_n 0, 1) := by decide +kernel
theorem dX5_put_40 : decode cX5_put 40 = .ok (.getfield 128, 3) := by decide +kernel
theorem dX5_put_43 : decode cX5_put 43 = .ok (.iload 4, 2) := by decide +kernel
theorem dX5_put_45 : decode cX5_put 45 = .ok (.iadd, 1) := by decide +kernel
theorem dX5_put_46 : decode cX5_put 46 = .ok (.lload_n 1, 1) := by decide +kernel
theorem dX5_put_47 : decode cX5_put 47 = .ok (.bipush 8, 2) := by decide +kernel
theorem dX5_put_49 : decode cX5_put 49 = .ok (.iload_n 3, 1) := by decide +kernel
theorem dX5_put_50 : decode cX5_put 50 = .ok (.iconst 1, 1) := by decide +kernel
theorem dX5_put_51 : decode cX5_put 51 = .ok (.isub, 1) := by decide +kernel
theorem dX5_put_52 : decode cX5_put 52 = .ok (.iload 4, 2) := by decide +kernel
theorem dX5_put_54 : decode cX5_put 54 = .ok (.isub, 1) := by decide +kernel
theorem dX5_put_55 : decode cX5_put 55 = .ok (.imul, 1) := by decide +kernel
theorem dX5_put_56 : decode cX5_put 56 = .ok (.lushr, 1) := by decide +kernel
theorem dX5_put_57 : decode cX5_put 57 = .ok (.ldc2_w 108, 3) := by decide +kernel
theorem dX5_put_60 : decode cX5_put 60 = .ok (.land, 1) := by decide +kernel
theorem dX5_put_61 : decode cX5_put 61 = .ok (.l2i, 1) := by decide +kernel
theorem dX5_put_62 : decode cX5_put 62 = .ok (.iastore, 1) := by decide +kernel
theorem dX5_put_63 : decode cX5_put 63 = .ok (.iinc 4 1, 3) := by decide +kernel
theorem dX5_put_66 : decode cX5_put 66 = .ok (.goto (-37), 3) := by decide +kernel
theorem dX5_put_69 : decode cX5_put 69 = .ok (.aload_n 0, 1) := by decide +kernel
theorem dX5_put_70 : decode cX5_put 70 = .ok (.dup, 1) := by decide +kernel
theorem dX5_put_71 : decode cX5_put 71 = .ok (.getfield 128, 3) := by decide +kernel
theorem dX5_put_74 : decode cX5_put 74 = .ok (.iload_n 3, 1) := by decide +kernel
theorem dX5_put_75 : decode cX5_put 75 = .ok (.iadd, 1) := by decide +kernel
theorem dX5_put_76 : decode cX5_put 76 = .ok (.putfield 128, 3) := by decide +kernel
theorem dX5_put_79 : decode cX5_put 79 = .ok (.aload_n 0, 1) := by decide +kernel
theorem dX5_put_80 : decode cX5_put 80 = .ok (.getfield 128, 3) := by decide +kernel
theorem dX5_put_83 : decode cX5_put 83 = .ok (.ireturn, 1) := by decide +kernel
theorem dX5_wipe_0 : decode cX5_wipe 0 = .ok (.aload_n 0, 1) := by decide +kernel
theorem dX5_wipe_1 : decode cX5_wipe 1 = .ok (.getfield 128, 3) := by decide +kernel
theorem dX5_wipe_4 : decode cX5_wipe 4 = .ok (.istore_n 1, 1) := by decide +kernel
theorem dX5_wipe_5 : decode cX5_wipe 5 = .ok (.aload_n 0, 1) := by decide +kernel
theorem dX5_wipe_6 : decode cX5_wipe 6 = .ok (.iconst 0, 1) := by decide +kernel
theorem dX5_wipe_7 : decode cX5_wipe 7 = .ok (.putfield 128, 3) := by decide +kernel
theorem dX5_wipe_10 : decode cX5_wipe 10 = .ok (.iload_n 1, 1) := by decide +kernel
theorem dX5_wipe_11 : decode cX5_wipe 11 = .ok (.ireturn, 1) := by decide +kernel
set_option maxRecDepth 20000 in
theorem ggX5_isHere_X5_in : GoodIn wsX5_isHere wsX5_in := goodIn_r _ [7] rfl (by decide +kernel)
set_option maxRecDepth 20000 in
theorem gX5_isHere_X5_in : GoodIn wsX5_isHere (va_wsS RX5 49 yX5_in wsX5_in) := goodIn_app (goodIn_of _ (by decide +kernel)) ggX5_isHere_X5_in
theorem dX5_isHere_0 : decode cX5_isHere 0 = .ok (.aload_n 0, 1) := by decide +kernel
theorem dX5_isHere_1 : decode cX5_isHere 1 = .ok (.getfield 148, 3) := by decide +kernel
theorem dX5_isHere_4 : decode cX5_isHere 4 = .ok (.aload_n 0, 1) := by decide +kernel
theorem dX5_isHere_5 : decode cX5_isHere 5 = .ok (.getfield 128, 3) := by decide +kernel
theorem dX5_isHere_8 : decode cX5_isHere 8 = .ok (.if_icmp .ge 27, 3) := by decide +kernel
theorem dX5_isHere_11 : decode cX5_isHere 11 = .ok (.aload_n 0, 1) := by decide +kernel
theorem dX5_isHere_12 : decode cX5_isHere 12 = .ok (.getfield 25, 3) := by decide +kernel
theorem dX5_isHere_15 : decode cX5_isHere 15 = .ok (.aload_n 0, 1) := by decide +kernel
theorem dX5_isHere_16 : decode cX5_isHere 16 = .ok (.getfield 148, 3) := by decide +kernel
theorem dX5_isHere_19 : decode cX5_isHere 19 = .ok (.iaload, 1) := by decide +kernel
theorem dX5_isHere_20 : decode cX5_isHere 20 = .ok (.i2l, 1) := by decide +kernel
theorem dX5_isHere_21 : decode cX5_isHere 21 = .ok (.iload_n 1, 1) := by decide +kernel
theorem dX5_isHere_22 : decode cX5_isHere 22 = .ok (.i2l, 1) := by decide +kernel
theorem dX5_isHere_23 : decode cX5_isHere 23 = .ok (.iload_n 2, 1) := by decide +kernel
theorem dX5_isHere_24 : decode cX5_isHere 24 = .ok (.i2l, 1) := by decide +kernel
theorem dX5_isHere_25 : decode cX5_isHere 25 = .ok (.invokestatic 49, 3) := by decide +kernel
theorem dX5_isHere_28 : decode cX5_isHere 28 = .ok (.ifCond .eq 7, 3) := by decide +kernel
theorem dX5_isHere_31 : decode cX5_isHere 31 = .ok (.iconst 1, 1) := by decide +kernel
theorem dX5_isHere_32 : decode cX5_isHere 32 = .ok (.goto 4, 3) := by decide +kernel
theorem dX5_isHere_35 : decode cX5_isHere 35 = .ok (.iconst 0, 1) := by decide +kernel
theorem dX5_isHere_36 : decode cX5_isHere 36 = .ok (.ireturn, 1) := by decide +kernel
set_option maxRecDepth 20000 in
theorem ggX5_takesOne_X5_isHere : GoodIn wsX5_takesOne wsX5_isHere := goodIn_r _ [6, 1, 7, 8, 9, 10, 5, 11, 12, 13, 14, 15, 16, 17, 18, 19, 20, 21, 22, 23, 24, 25] rfl (by decide +kernel)
set_option maxRecDepth 20000 in
theorem gX5_takesOne_X5_isHere : GoodIn wsX5_takesOne (wsV RX5 151 RX5 yX5_isHere wsX5_isHere) := goodIn_app (goodIn_of _ (by decide +kernel)) ggX5_takesOne_X5_isHere
theorem dX5_takesOne_0 : decode cX5_takesOne 0 = .ok (.aload_n 0, 1) := by decide +kernel
theorem dX5_takesOne_1 : decode cX5_takesOne 1 = .ok (.iload_n 1, 1) := by decide +kernel
theorem dX5_takesOne_2 : decode cX5_takesOne 2 = .ok (.iload_n 1, 1) := by decide +kernel
theorem dX5_takesOne_3 : decode cX5_takesOne 3 = .ok (.invokevirtual 151, 3) := by decide +kernel
theorem dX5_takesOne_6 : decode cX5_takesOne 6 = .ok (.istore_n 2, 1) := by decide +kernel
theorem dX5_takesOne_7 : decode cX5_takesOne 7 = .ok (.aload_n 0, 1) := by decide +kernel
theorem dX5_takesOne_8 : decode cX5_takesOne 8 = .ok (.dup, 1) := by decide +kernel
theorem dX5_takesOne_9 : decode cX5_takesOne 9 = .ok (.getfield 148, 3) := by decide +kernel
theorem dX5_takesOne_12 : decode cX5_takesOne 12 = .ok (.iload_n 2, 1) := by decide +kernel
theorem dX5_takesOne_13 : decode cX5_takesOne 13 = .ok (.ifCond .eq 7, 3) := by decide +kernel
theorem dX5_takesOne_16 : decode cX5_takesOne 16 = .ok (.iconst 1, 1) := by decide +kernel
theorem dX5_takesOne_17 : decode cX5_takesOne 17 = .ok (.goto 4, 3) := by decide +kernel
theorem dX5_takesOne_20 : decode cX5_takesOne 20 = .ok (.iconst 0, 1) := by decide +kernel
theorem dX5_takesOne_21 : decode cX5_takesOne 21 = .ok (.iadd, 1) := by decide +kernel
theorem dX5_takesOne_22 : decode cX5_takesOne 22 = .ok (.putfield 148, 3) := by decide +kernel
theorem dX5_takesOne_25 : decode cX5_takesOne 25 = .ok (.iload_n 2, 1) := by decide +kernel
theorem dX5_takesOne_26 : decode cX5_takesOne 26 = .ok (.ireturn, 1) := by decide +kernel
set_option maxRecDepth 20000 in
theorem ggX5_readsNumber_X5_isHere : GoodIn wsX5_readsNumber wsX5_isHere := goodIn_r _ [8, 2, 9, 1, 10, 11, 7, 12, 13, 14, 15, 16, 17, 18, 19, 20, 21, 22, 23, 24, 25, 26] rfl (by decide +kernel)
set_option maxRecDepth 20000 in
theorem gX5_readsNumber_X5_isHere : GoodIn wsX5_readsNumber (wsV RX5 151 RX5 yX5_isHere wsX5_isHere) := goodIn_app (goodIn_of _ (by decide +kernel)) ggX5_readsNumber_X5_isHere
theorem dX5_readsNumber_0 : decode cX5_readsNumber 0 = .ok (.aload_n 0, 1) := by decide +kernel
theorem dX5_readsNumber_1 : decode cX5_readsNumber 1 = .ok (.bipush 48, 2) := by decide +kernel
theorem dX5_readsNumber_3 : decode cX5_readsNumber 3 = .ok (.bipush 57, 2) := by decide +kernel
theorem dX5_readsNumber_5 : decode cX5_readsNumber 5 = .ok (.invokevirtual 151, 3) := by decide +kernel
theorem dX5_readsNumber_8 : decode cX5_readsNumber 8 = .ok (.ifCond .ne 5, 3) := by decide +kernel
theorem dX5_readsNumber_11 : decode cX5_readsNumber 11 = .ok (.iconst 0, 1) := by decide +kernel
theorem dX5_readsNumber_12 : decode cX5_readsNumber 12 = .ok (.ireturn, 1) := by decide +kernel
theorem dX5_readsNumber_13 : decode cX5_readsNumber 13 = .ok (.aload_n 0, 1) := by decide +kernel
theorem dX5_readsNumber_14 : decode cX5_readsNumber 14 = .ok (.getfield 25, 3) := by decide +kernel
theorem dX5_readsNumber_17 : decode cX5_readsNumber 17 = .ok (.aload_n 0, 1) := by decide +kernel
theorem dX5_readsNumber_18 : decode cX5_readsNumber 18 = .ok (.getfield 148, 3) := by decide +kernel
theorem dX5_readsNumber_21 : decode cX5_readsNumber 21 = .ok (.iaload, 1) := by decide +kernel
theorem dX5_readsNumber_22 : decode cX5_readsNumber 22 = .ok (.bipush 48, 2) := by decide +kernel
theorem dX5_readsNumber_24 : decode cX5_readsNumber 24 = .ok (.isub, 1) := by decide +kernel
theorem dX5_readsNumber_25 : decode cX5_readsNumber 25 = .ok (.istore_n 2, 1) := by decide +kernel
theorem dX5_readsNumber_26 : decode cX5_readsNumber 26 = .ok (.aload_n 0, 1) := by decide +kernel
theorem dX5_readsNumber_27 : decode cX5_readsNumber 27 = .ok (.dup, 1) := by decide +kernel
theorem dX5_readsNumber_28 : decode cX5_readsNumber 28 = .ok (.getfield 148, 3) := by decide +kernel
theorem dX5_readsNumber_31 : decode cX5_readsNumber 31 = .ok (.iconst 1, 1) := by decide +kernel
theorem dX5_readsNumber_32 : decode cX5_readsNumber 32 = .ok (.iadd, 1) := by decide +kernel
theorem dX5_readsNumber_33 : decode cX5_readsNumber 33 = .ok (.putfield 148, 3) := by decide +kernel
theorem dX5_readsNumber_36 : decode cX5_readsNumber 36 = .ok (.iload_n 2, 1) := by decide +kernel
theorem dX5_readsNumber_37 : decode cX5_readsNumber 37 = .ok (.ifCond .le 66, 3) := by decide +kernel
theorem dX5_readsNumber_40 : decode cX5_readsNumber 40 = .ok (.aload_n 0, 1) := by decide +kernel
theorem dX5_readsNumber_41 : decode cX5_readsNumber 41 = .ok (.bipush 48, 2) := by decide +kernel
theorem dX5_readsNumber_43 : decode cX5_readsNumber 43 = .ok (.bipush 57, 2) := by decide +kernel
theorem dX5_readsNumber_45 : decode cX5_readsNumber 45 = .ok (.invokevirtual 151, 3) := by decide +kernel
theorem dX5_readsNumber_48 : decode cX5_readsNumber 48 = .ok (.ifCond .eq 55, 3) := by decide +kernel
theorem dX5_readsNumber_51 : decode cX5_readsNumber 51 = .ok (.bipush 10, 2) := by decide +kernel
theorem dX5_readsNumber_53 : decode cX5_readsNumber 53 = .ok (.iload_n 2, 1) := by decide +kernel
theorem dX5_readsNumber_54 : decode cX5_readsNumber 54 = .ok (.imul, 1) := by decide +kernel
theorem dX5_readsNumber_55 : decode cX5_readsNumber 55 = .ok (.aload_n 0, 1) := by decide +kernel
theorem dX5_readsNumber_56 : decode cX5_readsNumber 56 = .ok (.getfield 25, 3) := by decide +kernel
theorem dX5_readsNumber_59 : decode cX5_readsNumber 59 = .ok (.aload_n 0, 1) := by decide +kernel
theorem dX5_readsNumber_60 : decode cX5_readsNumber 60 = .ok (.getfield 148, 3) := by decide +kernel
theorem dX5_readsNumber_63 : decode cX5_readsNumber 63 = .ok (.iaload, 1) := by decide +kernel
theorem dX5_readsNumber_64 : decode cX5_readsNumber 64 = .ok (.iadd, 1) := by decide +kernel
theorem dX5_readsNumber_65 : decode cX5_readsNumber 65 = .ok (.bipush 48, 2) := by decide +kernel
theorem dX5_readsNumber_67 : decode cX5_readsNumber 67 = .ok (.isub, 1) := by decide +kernel
theorem dX5_readsNumber_68 : decode cX5_readsNumber 68 = .ok (.iload_n 1, 1) := by decide +kernel
theorem dX5_readsNumber_69 : decode cX5_readsNumber 69 = .ok (.if_icmp .gt 34, 3) := by decide +kernel
theorem dX5_readsNumber_72 : decode cX5_readsNumber 72 = .ok (.bipush 10, 2) := by decide +kernel
theorem dX5_readsNumber_74 : decode cX5_readsNumber 74 = .ok (.iload_n 2, 1) := by decide +kernel
theorem dX5_readsNumber_75 : decode cX5_readsNumber 75 = .ok (.imul, 1) := by decide +kernel
theorem dX5_readsNumber_76 : decode cX5_readsNumber 76 = .ok (.aload_n 0, 1) := by decide +kernel
theorem dX5_readsNumber_77 : decode cX5_readsNumber 77 = .ok (.getfield 25, 3) := by decide +kernel
theorem dX5_readsNumber_80 : decode cX5_readsNumber 80 = .ok (.aload_n 0, 1) := by decide +kernel
theorem dX5_readsNumber_81 : decode cX5_readsNumber 81 = .ok (.getfield 148, 3) := by decide +kernel
theorem dX5_readsNumber_84 : decode cX5_readsNumber 84 = .ok (.iaload, 1) := by decide +kernel
theorem dX5_readsNumber_85 : decode cX5_readsNumber 85 = .ok (.iadd, 1) := by decide +kernel
theorem dX5_readsNumber_86 : decode cX5_readsNumber 86 = .ok (.bipush 48, 2) := by decide +kernel
theorem dX5_readsNumber_88 : decode cX5_readsNumber 88 = .ok (.isub, 1) := by decide +kernel
theorem dX5_readsNumber_89 : decode cX5_readsNumber 89 = .ok (.istore_n 2, 1) := by decide +kernel
theorem dX5_readsNumber_90 : decode cX5_readsNumber 90 = .ok (.aload_n 0, 1) := by decide +kernel
theorem dX5_readsNumber_91 : decode cX5_readsNumber 91 = .ok (.dup, 1) := by decide +kernel
theorem dX5_readsNumber_92 : decode cX5_readsNumber 92 = .ok (.getfield 148, 3) := by decide +kernel
theorem dX5_readsNumber_95 : decode cX5_readsNumber 95 = .ok (.iconst 1, 1) := by decide +kernel
theorem dX5_readsNumber_96 : decode cX5_readsNumber 96 = .ok (.iadd, 1) := by decide +kernel
theorem dX5_readsNumber_97 : decode cX5_readsNumber 97 = .ok (.putfield 148, 3) := by decide +kernel
theorem dX5_readsNumber_100 : decode cX5_readsNumber 100 = .ok (.goto (-64), 3) := by decide +kernel
theorem dX5_readsNumber_103 : decode cX5_readsNumber 103 = .ok (.aload_n 0, 1) := by decide +kernel
theorem dX5_readsNumber_104 : decode cX5_readsNumber 104 = .ok (.iload_n 2, 1) := by decide +kernel
theorem dX5_readsNumber_105 : decode cX5_readsNumber 105 = .ok (.putfield 154, 3) := by decide +kernel
theorem dX5_readsNumber_108 : decode cX5_readsNumber 108 = .ok (.iconst 1, 1) := by decide +kernel
theorem dX5_readsNumber_109 : decode cX5_readsNumber 109 = .ok (.ireturn, 1) := by decide +kernel
set_option maxRecDepth 20000 in
theorem ggX5_readsRequest_X5_isHere : GoodIn wsX5_readsRequest wsX5_isHere := goodIn_r _ [9, 10, 11, 12, 13, 14, 8, 15, 24, 25, 26, 27, 28, 29, 30, 31, 32, 33, 34, 35, 36, 37] rfl (by decide +kernel)
set_option maxRecDepth 20000 in
theorem gX5_readsRequest_X5_isHere : GoodIn wsX5_readsRequest (wsV RX5 151 RX5 yX5_isHere wsX5_isHere) := goodIn_app (goodIn_of _ (by decide +kernel)) ggX5_readsRequest_X5_isHere
set_option maxRecDepth 20000 in
theorem ggX5_readsRequest_X5_takesOne : GoodIn wsX5_readsRequest wsX5_takesOne := goodIn_r _ [19, 10, 5, 6, 7, 8, 9, 11, 12, 13, 14, 15, 24, 25, 26, 27, 28, 29, 30, 31, 32, 33, 34, 35, 36, 37] rfl (by decide +kernel)
set_option maxRecDepth 20000 in
theorem gX5_readsRequest_X5_takesOne : GoodIn wsX5_readsRequest (wsV RX5 157 RX5 yX5_takesOne wsX5_takesOne) := goodIn_app (goodIn_of _ (by decide +kernel)) ggX5_readsRequest_X5_takesOne
set_option maxRecDepth 20000 in
theorem ggX5_readsRequest_X5_readsNumber : GoodIn wsX5_readsRequest wsX5_readsNumber := goodIn_r _ [23, 12, 10, 3, 5, 6, 7, 8, 9, 11, 13, 14, 15, 24, 25, 26, 27, 28, 29, 30, 31, 32, 33, 34, 35, 36, 37] rfl (by decide +kernel)
set_option maxRecDepth 20000 in
theorem gX5_readsRequest_X5_readsNumber : GoodIn wsX5_readsRequest (wsV RX5 160 RX5 yX5_readsNumber wsX5_readsNumber) := goodIn_app (goodIn_of _ (by decide +kernel)) ggX5_readsRequest_X5_readsNumber
theorem dX5_readsRequest_0 : decode cX5_readsRequest 0 = .ok (.aload_n 0, 1) := by decide +kernel
theorem dX5_readsRequest_1 : decode cX5_readsRequest 1 = .ok (.bipush 119, 2) := by decide +kernel
theorem dX5_readsRequest_3 : decode cX5_readsRequest 3 = .ok (.bipush 119, 2) := by decide +kernel
theorem dX5_readsRequest_5 : decode cX5_readsRequest 5 = .ok (.invokevirtual 151, 3) := by decide +kernel
theorem dX5_readsRequest_8 : decode cX5_readsRequest 8 = .ok (.istore_n 1, 1) := by decide +kernel
theorem dX5_readsRequest_9 : decode cX5_readsRequest 9 = .ok (.aload_n 0, 1) := by decide +kernel
theorem dX5_readsRequest_10 : decode cX5_readsRequest 10 = .ok (.bipush 119, 2) := by decide +kernel
theorem dX5_readsRequest_12 : decode cX5_readsRequest 12 = .ok (.invokevirtual 157, 3) := by decide +kernel
theorem dX5_readsRequest_15 : decode cX5_readsRequest 15 = .ok (.ifCond .ne 12, 3) := by decide +kernel
theorem dX5_readsRequest_18 : decode cX5_readsRequest 18 = .ok (.aload_n 0, 1) := by decide +kernel
theorem dX5_readsRequest_19 : decode cX5_readsRequest 19 = .ok (.bipush 114, 2) := by decide +kernel
theorem dX5_readsRequest_21 : decode cX5_readsRequest 21 = .ok (.invokevirtual 157, 3) := by decide +kernel
theorem dX5_readsRequest_24 : decode cX5_readsRequest 24 = .ok (.ifCond .eq 13, 3) := by decide +kernel
theorem dX5_readsRequest_27 : decode cX5_readsRequest 27 = .ok (.aload_n 0, 1) := by decide +kernel
theorem dX5_readsRequest_28 : decode cX5_readsRequest 28 = .ok (.sipush 191, 3) := by decide +kernel
theorem dX5_readsRequest_31 : decode cX5_readsRequest 31 = .ok (.invokevirtual 160, 3) := by decide +kernel
theorem dX5_readsRequest_34 : decode cX5_readsRequest 34 = .ok (.ifCond .ne 5, 3) := by decide +kernel
theorem dX5_readsRequest_37 : decode cX5_readsRequest 37 = .ok (.iconst 0, 1) := by decide +kernel
theorem dX5_readsRequest_38 : decode cX5_readsRequest 38 = .ok (.ireturn, 1) := by decide +kernel
theorem dX5_readsRequest_39 : decode cX5_readsRequest 39 = .ok (.aload_n 0, 1) := by decide +kernel
theorem dX5_readsRequest_40 : decode cX5_readsRequest 40 = .ok (.getfield 28, 3) := by decide +kernel
theorem dX5_readsRequest_43 : decode cX5_readsRequest 43 = .ok (.aload_n 0, 1) := by decide +kernel
theorem dX5_readsRequest_44 : decode cX5_readsRequest 44 = .ok (.getfield 163, 3) := by decide +kernel
theorem dX5_readsRequest_47 : decode cX5_readsRequest 47 = .ok (.aload_n 0, 1) := by decide +kernel
theorem dX5_readsRequest_48 : decode cX5_readsRequest 48 = .ok (.getfield 154, 3) := by decide +kernel
theorem dX5_readsRequest_51 : decode cX5_readsRequest 51 = .ok (.iastore, 1) := by decide +kernel
theorem dX5_readsRequest_52 : decode cX5_readsRequest 52 = .ok (.aload_n 0, 1) := by decide +kernel
theorem dX5_readsRequest_53 : decode cX5_readsRequest 53 = .ok (.getfield 31, 3) := by decide +kernel
theorem dX5_readsRequest_56 : decode cX5_readsRequest 56 = .ok (.aload_n 0, 1) := by decide +kernel
theorem dX5_readsRequest_57 : decode cX5_readsRequest 57 = .ok (.getfield 163, 3) := by decide +kernel
theorem dX5_readsRequest_60 : decode cX5_readsRequest 60 = .ok (.iconst (-1), 1) := by decide +kernel
theorem dX5_readsRequest_61 : decode cX5_readsRequest 61 = .ok (.iastore, 1) := by decide +kernel
theorem dX5_readsRequest_62 : decode cX5_readsRequest 62 = .ok (.iload_n 1, 1) := by decide +kernel
theorem dX5_readsRequest_63 : decode cX5_readsRequest 63 = .ok (.ifCond .eq 24, 3) := by decide +kernel
theorem dX5_readsRequest_66 : decode cX5_readsRequest 66 = .ok (.aload_n 0, 1) := by decide +kernel
theorem dX5_readsRequest_67 : decode cX5_readsRequest 67 = .ok (.bipush 61, 2) := by decide +kernel
theorem dX5_readsRequest_69 : decode cX5_readsRequest 69 = .ok (.invokevirtual 157, 3) := by decide +kernel
theorem dX5_readsRequest_72 : decode cX5_readsRequest 72 = .ok (.ifCond .eq 13, 3) := by decide +kernel
theorem dX5_readsRequest_75 : decode cX5_readsRequest 75 = .ok (.aload_n 0, 1) := by decide +kernel
theorem dX5_readsRequest_76 : decode cX5_readsRequest 76 = .ok (.sipush 255, 3) := by decide +kernel
theorem dX5_readsRequest_79 : decode cX5_readsRequest 79 = .ok (.invokevirtual 160, 3) := by decide +kernel
theorem dX5_readsRequest_82 : decode cX5_readsRequest 82 = .ok (.ifCond .ne 5, 3) := by decide +kernel
theorem dX5_readsRequest_85 : decode cX5_readsRequest 85 = .ok (.iconst 0, 1) := by decide +kernel
theorem dX5_readsRequest_86 : decode cX5_readsRequest 86 = .ok (.ireturn, 1) := by decide +kernel
theorem dX5_readsRequest_87 : decode cX5_readsRequest 87 = .ok (.aload_n 0, 1) := by decide +kernel
theorem dX5_readsRequest_88 : decode cX5_readsRequest 88 = .ok (.getfield 31, 3) := by decide +kernel
theorem dX5_readsRequest_91 : decode cX5_readsRequest 91 = .ok (.aload_n 0, 1) := by decide +kernel
theorem dX5_readsRequest_92 : decode cX5_readsRequest 92 = .ok (.getfield 163, 3) := by decide +kernel
theorem dX5_readsRequest_95 : decode cX5_readsRequest 95 = .ok (.iload_n 1, 1) := by decide +kernel
theorem dX5_readsRequest_96 : decode cX5_readsRequest 96 = .ok (.ifCond .eq 10, 3) := by decide +kernel
theorem dX5_readsRequest_99 : decode cX5_readsRequest 99 = .ok (.aload_n 0, 1) := by decide +kernel
theorem dX5_readsRequest_100 : decode cX5_readsRequest 100 = .ok (.getfield 154, 3) := by decide +kernel
theorem dX5_readsRequest_103 : decode cX5_readsRequest 103 = .ok (.goto 4, 3) := by decide +kernel
theorem dX5_readsRequest_106 : decode cX5_readsRequest 106 = .ok (.iconst (-1), 1) := by decide +kernel
theorem dX5_readsRequest_107 : decode cX5_readsRequest 107 = .ok (.iastore, 1) := by decide +kernel
theorem dX5_readsRequest_108 : decode cX5_readsRequest 108 = .ok (.aload_n 0, 1) := by decide +kernel
theorem dX5_readsRequest_109 : decode cX5_readsRequest 109 = .ok (.dup, 1) := by decide +kernel
theorem dX5_readsRequest_110 : decode cX5_readsRequest 110 = .ok (.getfield 163, 3) := by decide +kernel
theorem dX5_readsRequest_113 : decode cX5_readsRequest 113 = .ok (.iconst 1, 1) := by decide +kernel
theorem dX5_readsRequest_114 : decode cX5_readsRequest 114 = .ok (.iadd, 1) := by decide +kernel
theorem dX5_readsRequest_115 : decode cX5_readsRequest 115 = .ok (.putfield 163, 3) := by decide +kernel
theorem dX5_readsRequest_118 : decode cX5_readsRequest 118 = .ok (.iconst 1, 1) := by decide +kernel
theorem dX5_readsRequest_119 : decode cX5_readsRequest 119 = .ok (.ireturn, 1) := by decide +kernel
set_option maxRecDepth 20000 in
theorem ggX5_fault_X5_readsRequest : GoodIn wsX5_fault wsX5_readsRequest := goodIn_r _ [8, 9, 2, 10, 11, 12, 13, 14, 7, 15, 1, 3, 16, 17, 18, 19, 20, 21, 22, 23, 24, 25, 26, 27, 28, 29, 30, 31, 32, 33, 34, 35, 36, 37, 38, 39, 40, 41] rfl (by decide +kernel)
set_option maxRecDepth 20000 in
theorem gX5_fault_X5_readsRequest : GoodIn wsX5_fault (wsV RX5 166 RX5 yX5_readsRequest wsX5_readsRequest) := goodIn_app (goodIn_of _ (by decide +kernel)) ggX5_fault_X5_readsRequest
set_option maxRecDepth 20000 in
theorem ggX5_fault_X5_takesOne : GoodIn wsX5_fault wsX5_takesOne := goodIn_r _ [23, 1, 12, 13, 14, 7, 15, 3, 16, 17, 18, 19, 28, 29, 30, 31, 32, 33, 34, 35, 36, 37, 38, 39, 40, 41] rfl (by decide +kernel)
set_option maxRecDepth 20000 in
theorem gX5_fault_X5_takesOne : GoodIn wsX5_fault (wsV RX5 157 RX5 yX5_takesOne wsX5_takesOne) := goodIn_app (goodIn_of _ (by decide +kernel)) ggX5_fault_X5_takesOne
theorem dX5_fault_0 : decode cX5_fault 0 = .ok (.aload_n 0, 1) := by decide +kernel
theorem dX5_fault_1 : decode cX5_fault 1 = .ok (.iconst 0, 1) := by decide +kernel
theorem dX5_fault_2 : decode cX5_fault 2 = .ok (.putfield 148, 3) := by decide +kernel
theorem dX5_fault_5 : decode cX5_fault 5 = .ok (.aload_n 0, 1) := by decide +kernel
theorem dX5_fault_6 : decode cX5_fault 6 = .ok (.iconst 0, 1) := by decide +kernel
theorem dX5_fault_7 : decode cX5_fault 7 = .ok (.putfield 163, 3) := by decide +kernel
theorem dX5_fault_10 : decode cX5_fault 10 = .ok (.iconst 1, 1) := by decide +kernel
theorem dX5_fault_11 : decode cX5_fault 11 = .ok (.istore_n 1, 1) := by decide +kernel
theorem dX5_fault_12 : decode cX5_fault 12 = .ok (.iload_n 1, 1) := by decide +kernel
theorem dX5_fault_13 : decode cX5_fault 13 = .ok (.ifCond .eq 25, 3) := by decide +kernel
theorem dX5_fault_16 : decode cX5_fault 16 = .ok (.aload_n 0, 1) := by decide +kernel
theorem dX5_fault_17 : decode cX5_fault 17 = .ok (.invokevirtual 166, 3) := by decide +kernel
theorem dX5_fault_20 : decode cX5_fault 20 = .ok (.ifCond .ne 8, 3) := by decide +kernel
theorem dX5_fault_23 : decode cX5_fault 23 = .ok (.aload_n 0, 1) := by decide +kernel
theorem dX5_fault_24 : decode cX5_fault 24 = .ok (.getfield 148, 3) := by decide +kernel
theorem dX5_fault_27 : decode cX5_fault 27 = .ok (.ireturn, 1) := by decide +kernel
theorem dX5_fault_28 : decode cX5_fault 28 = .ok (.aload_n 0, 1) := by decide +kernel
theorem dX5_fault_29 : decode cX5_fault 29 = .ok (.bipush 59, 2) := by decide +kernel
theorem dX5_fault_31 : decode cX5_fault 31 = .ok (.invokevirtual 157, 3) := by decide +kernel
theorem dX5_fault_34 : decode cX5_fault 34 = .ok (.istore_n 1, 1) := by decide +kernel
theorem dX5_fault_35 : decode cX5_fault 35 = .ok (.goto (-23), 3) := by decide +kernel
theorem dX5_fault_38 : decode cX5_fault 38 = .ok (.aload_n 0, 1) := by decide +kernel
theorem dX5_fault_39 : decode cX5_fault 39 = .ok (.getfield 148, 3) := by decide +kernel
theorem dX5_fault_42 : decode cX5_fault 42 = .ok (.aload_n 0, 1) := by decide +kernel
theorem dX5_fault_43 : decode cX5_fault 43 = .ok (.getfield 128, 3) := by decide +kernel
theorem dX5_fault_46 : decode cX5_fault 46 = .ok (.if_icmp .ne 8, 3) := by decide +kernel
theorem dX5_fault_49 : decode cX5_fault 49 = .ok (.bipush (-6), 2) := by decide +kernel
theorem dX5_fault_51 : decode cX5_fault 51 = .ok (.goto 7, 3) := by decide +kernel
theorem dX5_fault_54 : decode cX5_fault 54 = .ok (.aload_n 0, 1) := by decide +kernel
theorem dX5_fault_55 : decode cX5_fault 55 = .ok (.getfield 148, 3) := by decide +kernel
theorem dX5_fault_58 : decode cX5_fault 58 = .ok (.ireturn, 1) := by decide +kernel
set_option maxRecDepth 20000 in
theorem ggX5_isDone_X5_doRead : GoodIn wsX5_isDone wsX5_doRead := goodIn_r _ [7, 8, 9, 10, 11, 12, 6, 13, 14, 15, 16, 17, 18, 19, 20, 21, 22, 23, 24, 25, 26, 27, 28, 29, 53, 54, 55, 56, 57, 58, 59, 60, 61, 62, 63, 64, 65, 66] rfl (by decide +kernel)
set_option maxRecDepth 20000 in
theorem gX5_isDone_X5_doRead : GoodIn wsX5_isDone (wsV RX5 85 RX5 yX5_doRead wsX5_doRead) := goodIn_app (goodIn_of _ (by decide +kernel)) ggX5_isDone_X5_doRead
set_option maxRecDepth 20000 in
theorem ggX5_isDone_X5_doWrite : GoodIn wsX5_isDone wsX5_doWrite := goodIn_r _ [33, 8, 9, 34, 35, 36, 6, 37, 18, 19, 20, 21, 22, 23, 24, 25, 26, 27, 28, 29, 38, 39, 40, 41, 42, 43, 44, 45, 46, 47, 48, 49, 50, 51, 52, 53, 54, 55, 56, 57, 58, 59, 60, 61, 62, 63, 64, 65, 66] rfl (by decide +kernel)
set_option maxRecDepth 20000 in
theorem gX5_isDone_X5_doWrite : GoodIn wsX5_isDone (wsV RX5 88 RX5 yX5_doWrite wsX5_doWrite) := goodIn_app (goodIn_of _ (by decide +kernel)) ggX5_isDone_X5_doWrite
theorem dX5_isDone_0 : decode cX5_isDone 0 = .ok (.aload_n 0, 1) := by decide +kernel
theorem dX5_isDone_1 : decode cX5_isDone 1 = .ok (.getfield 31, 3) := by decide +kernel
theorem dX5_isDone_4 : decode cX5_isDone 4 = .ok (.iload_n 1, 1) := by decide +kernel
theorem dX5_isDone_5 : decode cX5_isDone 5 = .ok (.iaload, 1) := by decide +kernel
theorem dX5_isDone_6 : decode cX5_isDone 6 = .ok (.ifCond .ge 16, 3) := by decide +kernel
theorem dX5_isDone_9 : decode cX5_isDone 9 = .ok (.aload_n 0, 1) := by decide +kernel
theorem dX5_isDone_10 : decode cX5_isDone 10 = .ok (.aload_n 0, 1) := by decide +kernel
theorem dX5_isDone_11 : decode cX5_isDone 11 = .ok (.getfield 28, 3) := by decide +kernel
theorem dX5_isDone_14 : decode cX5_isDone 14 = .ok (.iload_n 1, 1) := by decide +kernel
theorem dX5_isDone_15 : decode cX5_isDone 15 = .ok (.iaload, 1) := by decide +kernel
theorem dX5_isDone_16 : decode cX5_isDone 16 = .ok (.invokevirtual 85, 3) := by decide +kernel
theorem dX5_isDone_19 : decode cX5_isDone 19 = .ok (.goto 19, 3) := by decide +kernel
theorem dX5_isDone_22 : decode cX5_isDone 22 = .ok (.aload_n 0, 1) := by decide +kernel
theorem dX5_isDone_23 : decode cX5_isDone 23 = .ok (.aload_n 0, 1) := by decide +kernel
theorem dX5_isDone_24 : decode cX5_isDone 24 = .ok (.getfield 28, 3) := by decide +kernel
theorem dX5_isDone_27 : decode cX5_isDone 27 = .ok (.iload_n 1, 1) := by decide +kernel
theorem dX5_isDone_28 : decode cX5_isDone 28 = .ok (.iaload, 1) := by decide +kernel
theorem dX5_isDone_29 : decode cX5_isDone 29 = .ok (.aload_n 0, 1) := by decide +kernel
theorem dX5_isDone_30 : decode cX5_isDone 30 = .ok (.getfield 31, 3) := by decide +kernel
theorem dX5_isDone_33 : decode cX5_isDone 33 = .ok (.iload_n 1, 1) := by decide +kernel
theorem dX5_isDone_34 : decode cX5_isDone 34 = .ok (.iaload, 1) := by decide +kernel
theorem dX5_isDone_35 : decode cX5_isDone 35 = .ok (.invokevirtual 88, 3) := by decide +kernel
theorem dX5_isDone_38 : decode cX5_isDone 38 = .ok (.istore_n 2, 1) := by decide +kernel
theorem dX5_isDone_39 : decode cX5_isDone 39 = .ok (.iload_n 2, 1) := by decide +kernel
theorem dX5_isDone_40 : decode cX5_isDone 40 = .ok (.ifCond .lt 7, 3) := by decide +kernel
theorem dX5_isDone_43 : decode cX5_isDone 43 = .ok (.iconst 1, 1) := by decide +kernel
theorem dX5_isDone_44 : decode cX5_isDone 44 = .ok (.goto 4, 3) := by decide +kernel
theorem dX5_isDone_47 : decode cX5_isDone 47 = .ok (.iconst 0, 1) := by decide +kernel
theorem dX5_isDone_48 : decode cX5_isDone 48 = .ok (.ireturn, 1) := by decide +kernel
set_option maxRecDepth 20000 in
theorem ggX5_runs_X5_sectorOf : GoodIn wsX5_runs wsX5_sectorOf := goodIn_r _ [8, 9, 59, 60, 61, 62, 63, 64, 65, 66, 67, 68, 69, 70, 71, 72] rfl (by decide +kernel)
set_option maxRecDepth 20000 in
theorem gX5_runs_X5_sectorOf : GoodIn wsX5_runs (wsV RX5 53 RX5 yX5_sectorOf wsX5_sectorOf) := goodIn_app (goodIn_of _ (by decide +kernel)) ggX5_runs_X5_sectorOf
set_option maxRecDepth 20000 in
theorem ggX5_runs_X5_isDone : GoodIn wsX5_runs wsX5_isDone := goodIn_r _ [13, 14, 3, 15, 16, 17, 7, 18, 9, 19, 20, 21, 22, 23, 24, 25, 26, 27, 4, 5, 6, 8, 28, 29, 30, 31, 32, 33, 34, 35, 36, 37, 38, 39, 40, 41, 42, 43, 44, 45, 46, 47, 48, 49, 50, 51, 52, 53, 54, 55, 56, 57, 58, 59, 60, 61, 62, 63, 64, 65, 66, 67, 68, 69, 70, 71, 72] rfl (by decide +kernel)
set_option maxRecDepth 20000 in
theorem gX5_runs_X5_isDone : GoodIn wsX5_runs (wsV RX5 170 RX5 yX5_isDone wsX5_isDone) := goodIn_app (goodIn_of _ (by decide +kernel)) ggX5_runs_X5_isDone
theorem dX5_runs_0 : decode cX5_runs 0 = .ok (.iconst 0, 1) := by decide +kernel
theorem dX5_runs_1 : decode cX5_runs 1 = .ok (.istore_n 2, 1) := by decide +kernel
theorem dX5_runs_2 : decode cX5_runs 2 = .ok (.iload_n 2, 1) := by decide +kernel
theorem dX5_runs_3 : decode cX5_runs 3 = .ok (.aload_n 0, 1) := by decide +kernel
theorem dX5_runs_4 : decode cX5_runs 4 = .ok (.getfield 163, 3) := by decide +kernel
theorem dX5_runs_7 : decode cX5_runs 7 = .ok (.if_icmp .ge 36, 3) := by decide +kernel
theorem dX5_runs_10 : decode cX5_runs 10 = .ok (.aload_n 0, 1) := by decide +kernel
theorem dX5_runs_11 : decode cX5_runs 11 = .ok (.getfield 34, 3) := by decide +kernel
theorem dX5_runs_14 : decode cX5_runs 14 = .ok (.iload_n 2, 1) := by decide +kernel
theorem dX5_runs_15 : decode cX5_runs 15 = .ok (.iload_n 1, 1) := by decide +kernel
theorem dX5_runs_16 : decode cX5_runs 16 = .ok (.ifCond .eq 19, 3) := by decide +kernel
theorem dX5_runs_19 : decode cX5_runs 19 = .ok (.aload_n 0, 1) := by decide +kernel
theorem dX5_runs_20 : decode cX5_runs 20 = .ok (.aload_n 0, 1) := by decide +kernel
theorem dX5_runs_21 : decode cX5_runs 21 = .ok (.getfield 28, 3) := by decide +kernel
theorem dX5_runs_24 : decode cX5_runs 24 = .ok (.iload_n 2, 1) := by decide +kernel
theorem dX5_runs_25 : decode cX5_runs 25 = .ok (.iaload, 1) := by decide +kernel
theorem dX5_runs_26 : decode cX5_runs 26 = .ok (.invokevirtual 53, 3) := by decide +kernel
theorem dX5_runs_29 : decode cX5_runs 29 = .ok (.bipush 12, 2) := by decide +kernel
theorem dX5_runs_31 : decode cX5_runs 31 = .ok (.idiv, 1) := by decide +kernel
theorem dX5_runs_32 : decode cX5_runs 32 = .ok (.goto 4, 3) := by decide +kernel
theorem dX5_runs_35 : decode cX5_runs 35 = .ok (.iconst 0, 1) := by decide +kernel
theorem dX5_runs_36 : decode cX5_runs 36 = .ok (.iastore, 1) := by decide +kernel
theorem dX5_runs_37 : decode cX5_runs 37 = .ok (.iinc 2 1, 3) := by decide +kernel
theorem dX5_runs_40 : decode cX5_runs 40 = .ok (.goto (-38), 3) := by decide +kernel
theorem dX5_runs_43 : decode cX5_runs 43 = .ok (.iconst 0, 1) := by decide +kernel
theorem dX5_runs_44 : decode cX5_runs 44 = .ok (.istore_n 2, 1) := by decide +kernel
theorem dX5_runs_45 : decode cX5_runs 45 = .ok (.iconst 0, 1) := by decide +kernel
theorem dX5_runs_46 : decode cX5_runs 46 = .ok (.istore_n 3, 1) := by decide +kernel
theorem dX5_runs_47 : decode cX5_runs 47 = .ok (.iload_n 3, 1) := by decide +kernel
theorem dX5_runs_48 : decode cX5_runs 48 = .ok (.bipush 16, 2) := by decide +kernel
theorem dX5_runs_50 : decode cX5_runs 50 = .ok (.if_icmp .gt 55, 3) := by decide +kernel
theorem dX5_runs_53 : decode cX5_runs 53 = .ok (.iconst 0, 1) := by decide +kernel
theorem dX5_runs_54 : decode cX5_runs 54 = .ok (.istore 4, 2) := by decide +kernel
theorem dX5_runs_56 : decode cX5_runs 56 = .ok (.iload 4, 2) := by decide +kernel
theorem dX5_runs_58 : decode cX5_runs 58 = .ok (.aload_n 0, 1) := by decide +kernel
theorem dX5_runs_59 : decode cX5_runs 59 = .ok (.getfield 163, 3) := by decide +kernel
theorem dX5_runs_62 : decode cX5_runs 62 = .ok (.if_icmp .ge 37, 3) := by decide +kernel
theorem dX5_runs_65 : decode cX5_runs 65 = .ok (.aload_n 0, 1) := by decide +kernel
theorem dX5_runs_66 : decode cX5_runs 66 = .ok (.getfield 34, 3) := by decide +kernel
theorem dX5_runs_69 : decode cX5_runs 69 = .ok (.iload 4, 2) := by decide +kernel
theorem dX5_runs_71 : decode cX5_runs 71 = .ok (.iaload, 1) := by decide +kernel
theorem dX5_runs_72 : decode cX5_runs 72 = .ok (.iload_n 3, 1) := by decide +kernel
theorem dX5_runs_73 : decode cX5_runs 73 = .ok (.if_icmp .ne 20, 3) := by decide +kernel
theorem dX5_runs_76 : decode cX5_runs 76 = .ok (.iload_n 2, 1) := by decide +kernel
theorem dX5_runs_77 : decode cX5_runs 77 = .ok (.aload_n 0, 1) := by decide +kernel
theorem dX5_runs_78 : decode cX5_runs 78 = .ok (.iload 4, 2) := by decide +kernel
theorem dX5_runs_80 : decode cX5_runs 80 = .ok (.invokevirtual 170, 3) := by decide +kernel
theorem dX5_runs_83 : decode cX5_runs 83 = .ok (.ifCond .eq 7, 3) := by decide +kernel
theorem dX5_runs_86 : decode cX5_runs 86 = .ok (.iconst 1, 1) := by decide +kernel
theorem dX5_runs_87 : decode cX5_runs 87 = .ok (.goto 4, 3) := by decide +kernel
theorem dX5_runs_90 : decode cX5_runs 90 = .ok (.iconst 0, 1) := by decide +kernel
theorem dX5_runs_91 : decode cX5_runs 91 = .ok (.iadd, 1) := by decide +kernel
theorem dX5_runs_92 : decode cX5_runs 92 = .ok (.istore_n 2, 1) := by decide +kernel
theorem dX5_runs_93 : decode cX5_runs 93 = .ok (.iinc 4 1, 3) := by decide +kernel
theorem dX5_runs_96 : decode cX5_runs 96 = .ok (.goto (-40), 3) := by decide +kernel
theorem dX5_runs_99 : decode cX5_runs 99 = .ok (.iinc 3 1, 3) := by decide +kernel
theorem dX5_runs_102 : decode cX5_runs 102 = .ok (.goto (-55), 3) := by decide +kernel
theorem dX5_runs_105 : decode cX5_runs 105 = .ok (.iload_n 2, 1) := by decide +kernel
theorem dX5_runs_106 : decode cX5_runs 106 = .ok (.ireturn, 1) := by decide +kernel
set_option maxRecDepth 20000 in
theorem ggX5_run_X5_fault : GoodIn wsX5_run wsX5_fault := goodIn_r _ [6, 7, 8, 1, 9, 10, 11, 5, 12, 13, 14, 15, 16, 17, 18, 19, 20, 21, 22, 23, 24, 25, 26, 27, 28, 29, 30, 31, 106, 107, 108, 109, 110, 111, 112, 113, 114, 115, 116, 117, 118, 119] rfl (by decide +kernel)
set_option maxRecDepth 20000 in
theorem gX5_run_X5_fault : GoodIn wsX5_run (wsV RX5 133 RX5 yX5_fault wsX5_fault) := goodIn_app (goodIn_of _ (by decide +kernel)) ggX5_run_X5_fault
set_option maxRecDepth 20000 in
theorem ggX5_run_X5_keeps : GoodIn wsX5_run wsX5_keeps := goodIn_r _ [35, 36, 37, 106, 107, 108, 109, 110, 111, 112, 113, 114, 115, 116, 117, 118, 119] rfl (by decide +kernel)
set_option maxRecDepth 20000 in
theorem gX5_run_X5_keeps : GoodIn wsX5_run (wsV RX5 102 RX5 yX5_keeps wsX5_keeps) := goodIn_app (goodIn_of _ (by decide +kernel)) ggX5_run_X5_keeps
set_option maxRecDepth 20000 in
theorem ggX5_run_X5_runs : GoodIn wsX5_run wsX5_runs := goodIn_r _ [41, 8, 42, 13, 43, 44, 45, 5, 46, 37, 47, 48, 49, 50, 15, 51, 52, 53, 54, 55, 56, 57, 58, 59, 60, 61, 62, 63, 64, 65, 66, 67, 68, 69, 70, 71, 72, 73, 74, 75, 76, 77, 78, 79, 80, 81, 82, 83, 84, 85, 86, 87, 88, 89, 90, 91, 21, 22, 23, 106, 107, 108, 109, 110, 111, 112, 113, 114, 115, 116, 117, 118, 119] rfl (by decide +kernel)
set_option maxRecDepth 20000 in
theorem gX5_run_X5_runs : GoodIn wsX5_run (wsV RX5 136 RX5 yX5_runs wsX5_runs) := goodIn_app (goodIn_of _ (by decide +kernel)) ggX5_run_X5_runs
set_option maxRecDepth 20000 in
theorem ggX5_run_X5_ends : GoodIn wsX5_run wsX5_ends := goodIn_r _ [95, 96, 97, 98, 5, 99, 37, 36, 100, 101, 102, 103, 104, 105, 106, 107, 108, 109, 110, 111, 112, 113, 114, 115, 116, 117, 118, 119] rfl (by decide +kernel)
set_option maxRecDepth 20000 in
theorem gX5_run_X5_ends : GoodIn wsX5_run (wsV RX5 105 RX5 yX5_ends wsX5_ends) := goodIn_app (goodIn_of _ (by decide +kernel)) ggX5_run_X5_ends
theorem dX5_run_0 : decode cX5_run 0 = .ok (.aload_n 0, 1) := by decide +kernel
theorem dX5_run_1 : decode cX5_run 1 = .ok (.invokevirtual 133, 3) := by decide +kernel
theorem dX5_run_4 : decode cX5_run 4 = .ok (.bipush (-6), 2) := by decide +kernel
theorem dX5_run_6 : decode cX5_run 6 = .ok (.if_icmp .eq 6, 3) := by decide +kernel
theorem dX5_run_9 : decode cX5_run 9 = .ok (.bipush (-3), 2) := by decide +kernel
theorem dX5_run_11 : decode cX5_run 11 = .ok (.ireturn, 1) := by decide +kernel
theorem dX5_run_12 : decode cX5_run 12 = .ok (.aload_n 0, 1) := by decide +kernel
theorem dX5_run_13 : decode cX5_run 13 = .ok (.invokevirtual 102, 3) := by decide +kernel
theorem dX5_run_16 : decode cX5_run 16 = .ok (.aload_n 0, 1) := by decide +kernel
theorem dX5_run_17 : decode cX5_run 17 = .ok (.aload_n 0, 1) := by decide +kernel
theorem dX5_run_18 : decode cX5_run 18 = .ok (.iload_n 1, 1) := by decide +kernel
theorem dX5_run_19 : decode cX5_run 19 = .ok (.invokevirtual 136, 3) := by decide +kernel
theorem dX5_run_22 : decode cX5_run 22 = .ok (.invokevirtual 105, 3) := by decide +kernel
theorem dX5_run_25 : decode cX5_run 25 = .ok (.istore_n 2, 1) := by decide +kernel
theorem dX5_run_26 : decode cX5_run 26 = .ok (.aload_n 0, 1) := by decide +kernel
theorem dX5_run_27 : decode cX5_run 27 = .ok (.iconst 0, 1) := by decide +kernel
theorem dX5_run_28 : decode cX5_run 28 = .ok (.putfield 128, 3) := by decide +kernel
theorem dX5_run_31 : decode cX5_run 31 = .ok (.iload_n 2, 1) := by decide +kernel
theorem dX5_run_32 : decode cX5_run 32 = .ok (.ireturn, 1) := by decide +kernel
theorem dX5_undo_0 : decode cX5_undo 0 = .ok (.aload_n 0, 1) := by decide +kernel
theorem dX5_undo_1 : decode cX5_undo 1 = .ok (.getfield 37, 3) := by decide +kernel
theorem dX5_undo_4 : decode cX5_undo 4 = .ok (.ifCond .ne 6, 3) := by decide +kernel
theorem dX5_undo_7 : decode cX5_undo 7 = .ok (.bipush (-5), 2) := by decide +kernel
theorem dX5_undo_9 : decode cX5_undo 9 = .ok (.ireturn, 1) := by decide +kernel
theorem dX5_undo_10 : decode cX5_undo 10 = .ok (.aload_n 0, 1) := by decide +kernel
theorem dX5_undo_11 : decode cX5_undo 11 = .ok (.dup, 1) := by decide +kernel
theorem dX5_undo_12 : decode cX5_undo 12 = .ok (.getfield 37, 3) := by decide +kernel
theorem dX5_undo_15 : decode cX5_undo 15 = .ok (.iconst 1, 1) := by decide +kernel
theorem dX5_undo_16 : decode cX5_undo 16 = .ok (.isub, 1) := by decide +kernel
theorem dX5_undo_17 : decode cX5_undo 17 = .ok (.putfield 37, 3) := by decide +kernel
theorem dX5_undo_20 : decode cX5_undo 20 = .ok (.iconst 0, 1) := by decide +kernel
theorem dX5_undo_21 : decode cX5_undo 21 = .ok (.istore_n 1, 1) := by decide +kernel
theorem dX5_undo_22 : decode cX5_undo 22 = .ok (.iload_n 1, 1) := by decide +kernel
theorem dX5_undo_23 : decode cX5_undo 23 = .ok (.sipush 816, 3) := by decide +kernel
theorem dX5_undo_26 : decode cX5_undo 26 = .ok (.if_icmp .ge 30, 3) := by decide +kernel
theorem dX5_undo_29 : decode cX5_undo 29 = .ok (.aload_n 0, 1) := by decide +kernel
theorem dX5_undo_30 : decode cX5_undo 30 = .ok (.getfield 7, 3) := by decide +kernel
theorem dX5_undo_33 : decode cX5_undo 33 = .ok (.iload_n 1, 1) := by decide +kernel
theorem dX5_undo_34 : decode cX5_undo 34 = .ok (.aload_n 0, 1) := by decide +kernel
theorem dX5_undo_35 : decode cX5_undo 35 = .ok (.getfield 16, 3) := by decide +kernel
theorem dX5_undo_38 : decode cX5_undo 38 = .ok (.sipush 816, 3) := by decide +kernel
theorem dX5_undo_41 : decode cX5_undo 41 = .ok (.aload_n 0, 1) := by decide +kernel
theorem dX5_undo_42 : decode cX5_undo 42 = .ok (.getfield 37, 3) := by decide +kernel
theorem dX5_undo_45 : decode cX5_undo 45 = .ok (.imul, 1) := by decide +kernel
theorem dX5_undo_46 : decode cX5_undo 46 = .ok (.iload_n 1, 1) := by decide +kernel
theorem dX5_undo_47 : decode cX5_undo 47 = .ok (.iadd, 1) := by decide +kernel
theorem dX5_undo_48 : decode cX5_undo 48 = .ok (.iaload, 1) := by decide +kernel
theorem dX5_undo_49 : decode cX5_undo 49 = .ok (.iastore, 1) := by decide +kernel
theorem dX5_undo_50 : decode cX5_undo 50 = .ok (.iinc 1 1, 3) := by decide +kernel
theorem dX5_undo_53 : decode cX5_undo 53 = .ok (.goto (-31), 3) := by decide +kernel
theorem dX5_undo_56 : decode cX5_undo 56 = .ok (.aload_n 0, 1) := by decide +kernel
theorem dX5_undo_57 : decode cX5_undo 57 = .ok (.getfield 37, 3) := by decide +kernel
theorem dX5_undo_60 : decode cX5_undo 60 = .ok (.ireturn, 1) := by decide +kernel
theorem dX5_isSlot_0 : decode cX5_isSlot 0 = .ok (.iload_n 0, 1) := by decide +kernel
theorem dX5_isSlot_1 : decode cX5_isSlot 1 = .ok (.ifCond .eq 8, 3) := by decide +kernel
theorem dX5_isSlot_4 : decode cX5_isSlot 4 = .ok (.iload_n 0, 1) := by decide +kernel
theorem dX5_isSlot_5 : decode cX5_isSlot 5 = .ok (.iconst 1, 1) := by decide +kernel
theorem dX5_isSlot_6 : decode cX5_isSlot 6 = .ok (.if_icmp .ne 7, 3) := by decide +kernel
theorem dX5_isSlot_9 : decode cX5_isSlot 9 = .ok (.iconst 1, 1) := by decide +kernel
theorem dX5_isSlot_10 : decode cX5_isSlot 10 = .ok (.goto 4, 3) := by decide +kernel
theorem dX5_isSlot_13 : decode cX5_isSlot 13 = .ok (.iconst 0, 1) := by decide +kernel
theorem dX5_isSlot_14 : decode cX5_isSlot 14 = .ok (.ireturn, 1) := by decide +kernel
set_option maxRecDepth 20000 in
theorem ggX5_save_X5_isSlot : GoodIn wsX5_save wsX5_isSlot := goodIn_r _ [7] rfl (by decide +kernel)
set_option maxRecDepth 20000 in
theorem gX5_save_X5_isSlot : GoodIn wsX5_save (va_wsS RX5 173 yX5_isSlot wsX5_isSlot) := goodIn_app (goodIn_of _ (by decide +kernel)) ggX5_save_X5_isSlot
set_option maxRecDepth 20000 in
theorem ggX5_save_X5_addresses : GoodIn wsX5_save wsX5_addresses := goodIn_r _ [11, 12, 13, 14, 6, 15, 2, 16, 17, 18, 19, 20, 21, 22, 23, 24, 25, 26, 27, 28, 29, 30, 31, 32, 33, 34, 35, 36, 37] rfl (by decide +kernel)
set_option maxRecDepth 20000 in
theorem gX5_save_X5_addresses : GoodIn wsX5_save (wsV RX5 117 RX5 yX5_addresses wsX5_addresses) := goodIn_app (goodIn_of _ (by decide +kernel)) ggX5_save_X5_addresses
theorem dX5_save_0 : decode cX5_save 0 = .ok (.iload_n 1, 1) := by decide +kernel
theorem dX5_save_1 : decode cX5_save 1 = .ok (.invokestatic 173, 3) := by decide +kernel
theorem dX5_save_4 : decode cX5_save 4 = .ok (.ifCond .ne 6, 3) := by decide +kernel
theorem dX5_save_7 : decode cX5_save 7 = .ok (.bipush (-2), 2) := by decide +kernel
theorem dX5_save_9 : decode cX5_save 9 = .ok (.ireturn, 1) := by decide +kernel
theorem dX5_save_10 : decode cX5_save 10 = .ok (.iconst 0, 1) := by decide +kernel
theorem dX5_save_11 : decode cX5_save 11 = .ok (.istore_n 2, 1) := by decide +kernel
theorem dX5_save_12 : decode cX5_save 12 = .ok (.iload_n 2, 1) := by decide +kernel
theorem dX5_save_13 : decode cX5_save 13 = .ok (.sipush 816, 3) := by decide +kernel
theorem dX5_save_16 : decode cX5_save 16 = .ok (.if_icmp .ge 27, 3) := by decide +kernel
theorem dX5_save_19 : decode cX5_save 19 = .ok (.aload_n 0, 1) := by decide +kernel
theorem dX5_save_20 : decode cX5_save 20 = .ok (.getfield 19, 3) := by decide +kernel
theorem dX5_save_23 : decode cX5_save 23 = .ok (.sipush 816, 3) := by decide +kernel
theorem dX5_save_26 : decode cX5_save 26 = .ok (.iload_n 1, 1) := by decide +kernel
theorem dX5_save_27 : decode cX5_save 27 = .ok (.imul, 1) := by decide +kernel
theorem dX5_save_28 : decode cX5_save 28 = .ok (.iload_n 2, 1) := by decide +kernel
theorem dX5_save_29 : decode cX5_save 29 = .ok (.iadd, 1) := by decide +kernel
theorem dX5_save_30 : decode cX5_save 30 = .ok (.aload_n 0, 1) := by decide +kernel
theorem dX5_save_31 : decode cX5_save 31 = .ok (.getfield 7, 3) := by decide +kernel
theorem dX5_save_34 : decode cX5_save 34 = .ok (.iload_n 2, 1) := by decide +kernel
theorem dX5_save_35 : decode cX5_save 35 = .ok (.iaload, 1) := by decide +kernel
theorem dX5_save_36 : decode cX5_save 36 = .ok (.iastore, 1) := by decide +kernel
theorem dX5_save_37 : decode cX5_save 37 = .ok (.iinc 2 1, 3) := by decide +kernel
theorem dX5_save_40 : decode cX5_save 40 = .ok (.goto (-28), 3) := by decide +kernel
theorem dX5_save_43 : decode cX5_save 43 = .ok (.aload_n 0, 1) := by decide +kernel
theorem dX5_save_44 : decode cX5_save 44 = .ok (.getfield 22, 3) := by decide +kernel
theorem dX5_save_47 : decode cX5_save 47 = .ok (.iload_n 1, 1) := by decide +kernel
theorem dX5_save_48 : decode cX5_save 48 = .ok (.iconst 1, 1) := by decide +kernel
theorem dX5_save_49 : decode cX5_save 49 = .ok (.iastore, 1) := by decide +kernel
theorem dX5_save_50 : decode cX5_save 50 = .ok (.aload_n 0, 1) := by decide +kernel
theorem dX5_save_51 : decode cX5_save 51 = .ok (.bipush (-6), 2) := by decide +kernel
theorem dX5_save_53 : decode cX5_save 53 = .ok (.iconst 0, 1) := by decide +kernel
theorem dX5_save_54 : decode cX5_save 54 = .ok (.invokevirtual 117, 3) := by decide +kernel
theorem dX5_save_57 : decode cX5_save 57 = .ok (.ireturn, 1) := by decide +kernel
set_option maxRecDepth 20000 in
theorem ggX5_restore_X5_isSlot : GoodIn wsX5_restore wsX5_isSlot := goodIn_r _ [7] rfl (by decide +kernel)
set_option maxRecDepth 20000 in
theorem gX5_restore_X5_isSlot : GoodIn wsX5_restore (va_wsS RX5 173 yX5_isSlot wsX5_isSlot) := goodIn_app (goodIn_of _ (by decide +kernel)) ggX5_restore_X5_isSlot
set_option maxRecDepth 20000 in
theorem ggX5_restore_X5_keeps : GoodIn wsX5_restore wsX5_keeps := goodIn_r _ [11, 12, 2, 43, 44, 45, 46, 47, 48, 49, 50, 51, 52, 53, 54, 55, 56] rfl (by decide +kernel)
set_option maxRecDepth 20000 in
theorem gX5_restore_X5_keeps : GoodIn wsX5_restore (wsV RX5 102 RX5 yX5_keeps wsX5_keeps) := goodIn_app (goodIn_of _ (by decide +kernel)) ggX5_restore_X5_keeps
set_option maxRecDepth 20000 in
theorem ggX5_restore_X5_addresses : GoodIn wsX5_restore wsX5_addresses := goodIn_r _ [16, 17, 18, 19, 6, 20, 2, 21, 22, 23, 24, 25, 26, 27, 28, 43, 44, 45, 46, 47, 48, 49, 50, 51, 52, 53, 54, 55, 56] rfl (by decide +kernel)
set_option maxRecDepth 20000 in
theorem gX5_restore_X5_addresses : GoodIn wsX5_restore (wsV RX5 117 RX5 yX5_addresses wsX5_addresses) := goodIn_app (goodIn_of _ (by decide +kernel)) ggX5_restore_X5_addresses
set_option maxRecDepth 20000 in
theorem ggX5_restore_X5_ends : GoodIn wsX5_restore wsX5_ends := goodIn_r _ [32, 33, 34, 35, 6, 36, 2, 12, 37, 38, 39, 40, 41, 42, 43, 44, 45, 46, 47, 48, 49, 50, 51, 52, 53, 54, 55, 56] rfl (by decide +kernel)
set_option maxRecDepth 20000 in
theorem gX5_restore_X5_ends : GoodIn wsX5_restore (wsV RX5 105 RX5 yX5_ends wsX5_ends) := goodIn_app (goodIn_of _ (by decide +kernel)) ggX5_restore_X5_ends
theorem dX5_restore_0 : decode cX5_restore 0 = .ok (.iload_n 1, 1) := by decide +kernel
theorem dX5_restore_1 : decode cX5_restore 1 = .ok (.invokestatic 173, 3) := by decide +kernel
theorem dX5_restore_4 : decode cX5_restore 4 = .ok (.ifCond .ne 6, 3) := by decide +kernel
theorem dX5_restore_7 : decode cX5_restore 7 = .ok (.bipush (-2), 2) := by decide +kernel
theorem dX5_restore_9 : decode cX5_restore 9 = .ok (.ireturn, 1) := by decide +kernel
theorem dX5_restore_10 : decode cX5_restore 10 = .ok (.aload_n 0, 1) := by decide +kernel
theorem dX5_restore_11 : decode cX5_restore 11 = .ok (.getfield 22, 3) := by decide +kernel
theorem dX5_restore_14 : decode cX5_restore 14 = .ok (.iload_n 1, 1) := by decide +kernel
theorem dX5_restore_15 : decode cX5_restore 15 = .ok (.iaload, 1) := by decide +kernel
theorem dX5_restore_16 : decode cX5_restore 16 = .ok (.ifCond .ne 6, 3) := by decide +kernel
theorem dX5_restore_19 : decode cX5_restore 19 = .ok (.bipush (-5), 2) := by decide +kernel
theorem dX5_restore_21 : decode cX5_restore 21 = .ok (.ireturn, 1) := by decide +kernel
theorem dX5_restore_22 : decode cX5_restore 22 = .ok (.aload_n 0, 1) := by decide +kernel
theorem dX5_restore_23 : decode cX5_restore 23 = .ok (.invokevirtual 102, 3) := by decide +kernel
theorem dX5_restore_26 : decode cX5_restore 26 = .ok (.iconst 0, 1) := by decide +kernel
theorem dX5_restore_27 : decode cX5_restore 27 = .ok (.istore_n 2, 1) := by decide +kernel
theorem dX5_restore_28 : decode cX5_restore 28 = .ok (.iload_n 2, 1) := by decide +kernel
theorem dX5_restore_29 : decode cX5_restore 29 = .ok (.sipush 816, 3) := by decide +kernel
theorem dX5_restore_32 : decode cX5_restore 32 = .ok (.if_icmp .ge 27, 3) := by decide +kernel
theorem dX5_restore_35 : decode cX5_restore 35 = .ok (.aload_n 0, 1) := by decide +kernel
theorem dX5_restore_36 : decode cX5_restore 36 = .ok (.getfield 7, 3) := by decide +kernel
theorem dX5_restore_39 : decode cX5_restore 39 = .ok (.iload_n 2, 1) := by decide +kernel
theorem dX5_restore_40 : decode cX5_restore 40 = .ok (.aload_n 0, 1) := by decide +kernel
theorem dX5_restore_41 : decode cX5_restore 41 = .ok (.getfield 19, 3) := by decide +kernel
theorem dX5_restore_44 : decode cX5_restore 44 = .ok (.sipush 816, 3) := by decide +kernel
theorem dX5_restore_47 : decode cX5_restore 47 = .ok (.iload_n 1, 1) := by decide +kernel
theorem dX5_restore_48 : decode cX5_restore 48 = .ok (.imul, 1) := by decide +kernel
theorem dX5_restore_49 : decode cX5_restore 49 = .ok (.iload_n 2, 1) := by decide +kernel
theorem dX5_restore_50 : decode cX5_restore 50 = .ok (.iadd, 1) := by decide +kernel
theorem dX5_restore_51 : decode cX5_restore 51 = .ok (.iaload, 1) := by decide +kernel
theorem dX5_restore_52 : decode cX5_restore 52 = .ok (.iastore, 1) := by decide +kernel
theorem dX5_restore_53 : decode cX5_restore 53 = .ok (.iinc 2 1, 3) := by decide +kernel
theorem dX5_restore_56 : decode cX5_restore 56 = .ok (.goto (-28), 3) := by decide +kernel
theorem dX5_restore_59 : decode cX5_restore 59 = .ok (.aload_n 0, 1) := by decide +kernel
theorem dX5_restore_60 : decode cX5_restore 60 = .ok (.aload_n 0, 1) := by decide +kernel
theorem dX5_restore_61 : decode cX5_restore 61 = .ok (.bipush (-6), 2) := by decide +kernel
theorem dX5_restore_63 : decode cX5_restore 63 = .ok (.iconst 0, 1) := by decide +kernel
theorem dX5_restore_64 : decode cX5_restore 64 = .ok (.invokevirtual 117, 3) := by decide +kernel
theorem dX5_restore_67 : decode cX5_restore 67 = .ok (.invokevirtual 105, 3) := by decide +kernel
theorem dX5_restore_70 : decode cX5_restore 70 = .ok (.ireturn, 1) := by decide +kernel
theorem dJ9_floorMod_7cf53_0 : decode cJ9_floorMod_7cf53 0 = .ok (.iload_n 0, 1) := by decide +kernel
theorem dJ9_floorMod_7cf53_1 : decode cJ9_floorMod_7cf53 1 = .ok (.iload_n 1, 1) := by decide +kernel
theorem dJ9_floorMod_7cf53_2 : decode cJ9_floorMod_7cf53 2 = .ok (.irem, 1) := by decide +kernel
theorem dJ9_floorMod_7cf53_3 : decode cJ9_floorMod_7cf53 3 = .ok (.istore_n 2, 1) := by decide +kernel
theorem dJ9_floorMod_7cf53_4 : decode cJ9_floorMod_7cf53 4 = .ok (.iload_n 0, 1) := by decide +kernel
theorem dJ9_floorMod_7cf53_5 : decode cJ9_floorMod_7cf53 5 = .ok (.iload_n 1, 1) := by decide +kernel
theorem dJ9_floorMod_7cf53_6 : decode cJ9_floorMod_7cf53 6 = .ok (.ixor, 1) := by decide +kernel
theorem dJ9_floorMod_7cf53_7 : decode cJ9_floorMod_7cf53 7 = .ok (.ifCond .ge 11, 3) := by decide +kernel
theorem dJ9_floorMod_7cf53_10 : decode cJ9_floorMod_7cf53 10 = .ok (.iload_n 2, 1) := by decide +kernel
theorem dJ9_floorMod_7cf53_11 : decode cJ9_floorMod_7cf53 11 = .ok (.ifCond .eq 7, 3) := by decide +kernel
theorem dJ9_floorMod_7cf53_14 : decode cJ9_floorMod_7cf53 14 = .ok (.iload_n 2, 1) := by decide +kernel
theorem dJ9_floorMod_7cf53_15 : decode cJ9_floorMod_7cf53 15 = .ok (.iload_n 1, 1) := by decide +kernel
theorem dJ9_floorMod_7cf53_16 : decode cJ9_floorMod_7cf53 16 = .ok (.iadd, 1) := by decide +kernel
theorem dJ9_floorMod_7cf53_17 : decode cJ9_floorMod_7cf53 17 = .ok (.ireturn, 1) := by decide +kernel
theorem dJ9_floorMod_7cf53_18 : decode cJ9_floorMod_7cf53 18 = .ok (.iload_n 2, 1) := by decide +kernel
theorem dJ9_floorMod_7cf53_19 : decode cJ9_floorMod_7cf53 19 = .ok (.ireturn, 1) := by decide +kernel
theorem dJ9_abs_0f7a4_0 : decode cJ9_abs_0f7a4 0 = .ok (.iload_n 0, 1) := by decide +kernel
theorem dJ9_abs_0f7a4_1 : decode cJ9_abs_0f7a4 1 = .ok (.ifCond .ge 8, 3) := by decide +kernel
theorem dJ9_abs_0f7a4_4 : decode cJ9_abs_0f7a4 4 = .ok (.iload_n 0, 1) := by decide +kernel
theorem dJ9_abs_0f7a4_5 : decode cJ9_abs_0f7a4 5 = .ok (.ineg, 1) := by decide +kernel
theorem dJ9_abs_0f7a4_6 : decode cJ9_abs_0f7a4 6 = .ok (.goto 4, 3) := by decide +kernel
theorem dJ9_abs_0f7a4_9 : decode cJ9_abs_0f7a4 9 = .ok (.iload_n 0, 1) := by decide +kernel
theorem dJ9_abs_0f7a4_10 : decode cJ9_abs_0f7a4 10 = .ok (.ireturn, 1) := by decide +kernel
theorem dJ9_max_7cf53_0 : decode cJ9_max_7cf53 0 = .ok (.iload_n 0, 1) := by decide +kernel
theorem dJ9_max_7cf53_1 : decode cJ9_max_7cf53 1 = .ok (.iload_n 1, 1) := by decide +kernel
theorem dJ9_max_7cf53_2 : decode cJ9_max_7cf53 2 = .ok (.if_icmp .lt 7, 3) := by decide +kernel
theorem dJ9_max_7cf53_5 : decode cJ9_max_7cf53 5 = .ok (.iload_n 0, 1) := by decide +kernel
theorem dJ9_max_7cf53_6 : decode cJ9_max_7cf53 6 = .ok (.goto 4, 3) := by decide +kernel
theorem dJ9_max_7cf53_9 : decode cJ9_max_7cf53 9 = .ok (.iload_n 1, 1) := by decide +kernel
theorem dJ9_max_7cf53_10 : decode cJ9_max_7cf53 10 = .ok (.ireturn, 1) := by decide +kernel
theorem dJ9_min_7cf53_0 : decode cJ9_min_7cf53 0 = .ok (.iload_n 0, 1) := by decide +kernel
theorem dJ9_min_7cf53_1 : decode cJ9_min_7cf53 1 = .ok (.iload_n 1, 1) := by decide +kernel
theorem dJ9_min_7cf53_2 : decode cJ9_min_7cf53 2 = .ok (.if_icmp .gt 7, 3) := by decide +kernel
theorem dJ9_min_7cf53_5 : decode cJ9_min_7cf53 5 = .ok (.iload_n 0, 1) := by decide +kernel
theorem dJ9_min_7cf53_6 : decode cJ9_min_7cf53 6 = .ok (.goto 4, 3) := by decide +kernel
theorem dJ9_min_7cf53_9 : decode cJ9_min_7cf53 9 = .ok (.iload_n 1, 1) := by decide +kernel
theorem dJ9_min_7cf53_10 : decode cJ9_min_7cf53 10 = .ok (.ireturn, 1) := by decide +kernel
theorem dJ7_fill_53178_0 : decode cJ7_fill_53178 0 = .ok (.iconst 0, 1) := by decide +kernel
theorem dJ7_fill_53178_1 : decode cJ7_fill_53178 1 = .ok (.istore_n 2, 1) := by decide +kernel
theorem dJ7_fill_53178_2 : decode cJ7_fill_53178 2 = .ok (.aload_n 0, 1) := by decide +kernel
theorem dJ7_fill_53178_3 : decode cJ7_fill_53178 3 = .ok (.arraylength, 1) := by decide +kernel
theorem dJ7_fill_53178_4 : decode cJ7_fill_53178 4 = .ok (.istore_n 3, 1) := by decide +kernel
theorem dJ7_fill_53178_5 : decode cJ7_fill_53178 5 = .ok (.iload_n 2, 1) := by decide +kernel
theorem dJ7_fill_53178_6 : decode cJ7_fill_53178 6 = .ok (.iload_n 3, 1) := by decide +kernel
theorem dJ7_fill_53178_7 : decode cJ7_fill_53178 7 = .ok (.if_icmp .ge 13, 3) := by decide +kernel
theorem dJ7_fill_53178_10 : decode cJ7_fill_53178 10 = .ok (.aload_n 0, 1) := by decide +kernel
theorem dJ7_fill_53178_11 : decode cJ7_fill_53178 11 = .ok (.iload_n 2, 1) := by decide +kernel
theorem dJ7_fill_53178_12 : decode cJ7_fill_53178 12 = .ok (.iload_n 1, 1) := by decide +kernel
theorem dJ7_fill_53178_13 : decode cJ7_fill_53178 13 = .ok (.iastore, 1) := by decide +kernel
theorem dJ7_fill_53178_14 : decode cJ7_fill_53178 14 = .ok (.iinc 2 1, 3) := by decide +kernel
theorem dJ7_fill_53178_17 : decode cJ7_fill_53178 17 = .ok (.goto (-12), 3) := by decide +kernel
theorem dJ7_fill_53178_20 : decode cJ7_fill_53178 20 = .ok (.return_, 1) := by decide +kernel
end
section
/-! what every contract asks of the tables: the classes, the two array classes, the links to nest mates' private members -/
def nW : List Cond := [.methodLinkNest RX4 21 yX2_init RX4, .methodLinkNest RX4 28 yX3_init RX4, .methodLinkNest RX4 35 yX1_init RX4, .methodLinkNest RX0 101 yX4_isSpare RX4, .methodLinkNest RX0 125 yX4_isAddress RX4, .methodLinkNest RX0 43 yX4_copyRow RX4, .methodLinkNest RX0 53 yX4_at RX4, .methodLinkNest RX0 57 yX4_lay RX4, .methodLinkNest RX0 75 yX4_trackOf RX4, .methodLinkNest RX2 21 yX4_lay RX4, .methodLinkNest RX2 25 yX4_at RX4, .methodLinkNest RX3 61 yX4_lay RX4, .methodLinkNest RX3 68 yX4_at RX4, .methodLinkNest RX3 85 yX4_trackOf RX4, .fieldLinkNest RX0 9 "GrooveTurns" "FIRST_SETTINGS" "[I" "GrooveTurns"]
theorem nW_shape : ∀ w ∈ nW, (∃ a i x h, w = .methodLinkNest a i x h) ∨ (∃ a i b n d h, w = .fieldLinkNest a i b n d h) := by
  intro w hw
  simp only [nW, List.mem_cons, List.not_mem_nil, or_false] at hw
  rcases hw with rfl | rfl | rfl | rfl | rfl | rfl | rfl | rfl | rfl | rfl | rfl | rfl | rfl | rfl | rfl
  all_goals first | exact Or.inl ⟨_, _, _, _, rfl⟩ | exact Or.inr ⟨_, _, _, _, _, _, rfl⟩
abbrev GG : Type := va_G × ClassId × ClassId
abbrev tysG (G : GG) : List (ClassId × FieldType) := [(G.2.1, .int), (G.2.2, .object RX0)]
def cK (G : GG) (U : State) : Prop := va_K G.1 vwCl (tysG G) U ∧ ∀ w ∈ nW, va_Nw w U
theorem cK.warm {G : GG} {s U : State} (hW : s.WarmedH U.vm) (h : cK G s) : cK G U := by
  refine ⟨va_K.moved hW.alike h.1, fun w hw => ?_⟩
  have h1 := h.2 w hw
  rcases nW_shape w hw with ⟨a, i, x, z, rfl⟩ | ⟨a, i, b, n, d, z, rfl⟩
  · exact va_Nw.warmM hW h1
  · exact va_Nw.warmF hW h1
theorem cK.call {G : GG} {U : State} {g : JFrame} {mk : MethodId} {a : Array Value} (h : cK G U) : cK G (U.calling g mk a) := by
  refine ⟨va_K.moved (u := U) (U := U.calling g mk a) (Vm.Alike.refl U.vm) h.1, fun w hw => ?_⟩
  have h1 := h.2 w hw
  rcases nW_shape w hw with ⟨a, i, x, z, rfl⟩ | ⟨a, i, b, n, d, z, rfl⟩
  · exact va_Nw.same rfl rfl h1
  · exact va_Nw.same rfl rfl h1
theorem cK.nest {G : GG} {U : State} (h : cK G U) (i : Nat) {w : Cond} (hi : nW[i]? = some w) : va_Nw w U := h.2 w (List.mem_of_getElem? hi)
/-! the two forms of a contract: one that reads, one that writes its world and makes nothing -/
def QR (v : Option Value) : Array Value → State → Outcome → State → Prop := fun _ st o t => o = .returned v ∧ t.heap = st.heap
def PR (G : GG) (av : List Value) (w : va_W) : Array Value → State → Prop := va_Pc av (fun U => va_P G.1 vwCl w U.heap ∧ cK G U)
abbrev rmm (nf nl : Nat) : Room := { frames := nf, cells := 0, slots := 0, locals := nl }
def Rd (G : GG) (l : Launch) (y : MethodName) (ws : List Cond) (nf nl : Nat) (av : List Value) (w : va_W) (v : Value) : Prop :=
  Met l y ws (rmm nf nl) (PR G av w) (QR (some v)) 0 0 (fun _ => False)
def inW (w : va_W) : Nat → Prop := fun q => ∃ (k : Nat) (e : va_E), w[k]? = some (q, e)
def QW (G : GG) (w0 w1 : va_W) (v : Option Value) : Array Value → State → Outcome → State → Prop := fun _ st o t => o = .returned v ∧ va_P G.1 vwCl w1 t.heap ∧ va_F (inW w0) st t
def PW (G : GG) (av : List Value) (w : va_W) : Array Value → State → Prop := va_Pc av (fun U => va_P G.1 vwCl w U.heap ∧ cK G U ∧ va_D (fun _ => True) w)
def Wr (G : GG) (l : Launch) (y : MethodName) (ws : List Cond) (nf nl : Nat) (av : List Value) (w : va_W) (v : Option Value) (w1 : va_W) : Prop :=
  Met l y ws (rmm nf nl) (PW G av w) (QW G w w1 v) 0 0 (inW w)
theorem PR.blind {G : GG} {av : List Value} {w : va_W} : FrameBlind (PR G av w) := fun a U g mk q => by
  obtain ⟨q0, q1, q2⟩ := q
  exact ⟨q0, q1, q2.call⟩
theorem PW.blind {G : GG} {av : List Value} {w : va_W} : FrameBlind (PW G av w) := fun a U g mk q => by
  obtain ⟨q0, q1, q2, q3⟩ := q
  exact ⟨q0, q1, q2.call, q3⟩
theorem inW.D {w : va_W} {A : Nat → Prop} (h : va_D A w) : va_D (inW w) w := ⟨h.1, fun k q hk => ⟨k, q.2, hk⟩⟩
/-- a world with some of its cells replaced, by their places -/
def pset : va_W → List Nat → va_W → va_W
  | W, i :: is, e :: es => pset (W.set i e) is es
  | W, [], _ => W
  | W, _ :: _, [] => W
theorem pset_cases : ∀ (is : List Nat) (W w w1 : va_W), is.map (fun i => W[i]?) = w.map some → w1.map (·.1) = w.map (·.1) → va_nd is = true → ∀ (k : Nat) (q : Nat × va_E), (pset W is w1)[k]? = some q → (∃ j : Nat, is[j]? = some k ∧ w1[j]? = some q) ∨ (k ∉ is ∧ W[k]? = some q)
  | [], W, w, w1, _, _, _, k, q, h => by
    unfold pset at h
    exact Or.inr ⟨List.not_mem_nil, h⟩
  | i :: is, W, [], w1, hC, _, _, k, q, h => by simp at hC
  | i :: is, W, c :: cs, [], hC, hf, _, k, q, h => by simp at hf
  | i :: is, W, c :: cs, c1 :: cs1, hC, hf, hn, k, q, h => by
    simp only [List.map_cons, List.cons.injEq] at hC hf
    simp only [va_nd, Bool.and_eq_true, decide_eq_true_eq] at hn
    have hl : i < W.length := (List.getElem?_eq_some_iff.mp hC.1).1
    have hC2 : is.map (fun j => (W.set i c1)[j]?) = cs.map some := by
      rw [← hC.2]
      apply List.map_congr_left
      intro j hj
      exact List.getElem?_set_ne (fun z => hn.1 (by rw [z]; exact hj))
    rcases pset_cases is (W.set i c1) cs cs1 hC2 hf.2 hn.2 k q h with ⟨j, h1, h2⟩ | ⟨h1, h2⟩
    · exact Or.inl ⟨j + 1, by rw [List.getElem?_cons_succ]; exact h1, by rw [List.getElem?_cons_succ]; exact h2⟩
    · by_cases hk : k = i
      · subst hk
        rw [List.getElem?_set_self hl] at h2
        exact Or.inl ⟨0, rfl, h2⟩
      · rw [List.getElem?_set_ne (Ne.symm hk)] at h2
        exact Or.inr ⟨fun z => (List.mem_cons.mp z).elim hk h1, h2⟩
theorem at_place {is : List Nat} {W w : va_W} (hC : is.map (fun i => W[i]?) = w.map some) {j : Nat} {q : Nat × va_E} (hq : w[j]? = some q) : ∃ i, is[j]? = some i ∧ W[i]? = some q := by
  have h1 : (is.map (fun i => W[i]?))[j]? = some (some q) := by rw [hC, List.getElem?_map, hq]; rfl
  rw [List.getElem?_map] at h1
  cases hi : is[j]? with
  | none => rw [hi] at h1; cases h1
  | some i => rw [hi] at h1; exact ⟨i, rfl, Option.some.inj h1⟩
theorem of_place {is : List Nat} {W w : va_W} (hC : is.map (fun i => W[i]?) = w.map some) {j k : Nat} (hk : is[j]? = some k) : ∃ q, w[j]? = some q ∧ W[k]? = some q := by
  have h1 : (is.map (fun i => W[i]?))[j]? = some (W[k]?) := by rw [List.getElem?_map, hk]; rfl
  rw [hC, List.getElem?_map] at h1
  cases hw : w[j]? with
  | none => rw [hw] at h1; cases h1
  | some q => rw [hw] at h1; exact ⟨q, rfl, (Option.some.inj h1).symm⟩
theorem same_fst {w w1 : va_W} (hf : w1.map (·.1) = w.map (·.1)) {j : Nat} {q q1 : Nat × va_E} (h : w[j]? = some q) (h1 : w1[j]? = some q1) : q1.1 = q.1 := by
  have e1 : (w1.map (·.1))[j]? = some q1.1 := by rw [List.getElem?_map, h1]; rfl
  rw [hf, List.getElem?_map, h] at e1
  exact (Option.some.inj e1).symm
/-- behind a call that writes: the cells at the places are new, the others as they were -/
theorem pset_ok {A : Nat → Prop} {D : va_G} {cl : List vw_C} {W w w1 : va_W} {H H1 : Heap} (hP : va_P D cl W H) (hD : va_D A W) (is : List Nat) (hC : is.map (fun i => W[i]?) = w.map some) (hf : w1.map (·.1) = w.map (·.1)) (hn : va_nd is = true)
    (hk : ∀ q : Nat, q < H.size → ¬ inW w q → H1[q]? = H[q]?) (hP1 : va_P D cl w1 H1) : va_P D cl (pset W is w1) H1 ∧ va_D A (pset W is w1) := by
  have key : ∀ (k : Nat) (q : Nat × va_E), (pset W is w1)[k]? = some q → ∃ q0, W[k]? = some q0 ∧ q0.1 = q.1 := by
    intro k q h
    rcases pset_cases is W w w1 hC hf hn k q h with ⟨j, h1, h2⟩ | ⟨-, h2⟩
    · obtain ⟨q0, h3, h4⟩ := of_place hC h1
      exact ⟨q0, h4, (same_fst hf h3 h2).symm⟩
    · exact ⟨q, h2, rfl⟩
  refine ⟨fun k q h => ?_, fun i j x y hi hj hxy => ?_, fun k q h => ?_⟩
  · rcases pset_cases is W w w1 hC hf hn k q h with ⟨j, -, h2⟩ | ⟨h1, h2⟩
    · exact hP1 j q h2
    · refine (hP k q h2).kept (hk q.1 (hP k q h2).lt (fun z => ?_))
      obtain ⟨j, e, hj⟩ := z
      obtain ⟨i, h3, h4⟩ := at_place hC hj
      have := hD.1 k i q (q.1, e) h2 h4 rfl
      subst this
      exact h1 (List.mem_of_getElem? h3)
  · obtain ⟨x0, h1, h2⟩ := key i x hi
    obtain ⟨y0, h3, h4⟩ := key j y hj
    exact hD.1 i j x0 y0 h1 h3 (h2.trans (hxy.trans h4.symm))
  · obtain ⟨q0, h1, h2⟩ := key k q h
    rw [← h2]
    exact hD.2 k q0 h1
theorem inW_A {A : Nat → Prop} {W w : va_W} (hD : va_D A W) {is : List Nat} (hC : is.map (fun i => W[i]?) = w.map some) : ∀ q, inW w q → A q := by
  intro q ⟨j, e, hj⟩
  obtain ⟨i, -, h4⟩ := at_place hC hj
  exact hD.2 i (q, e) h4
section RDW
variable {p : Program} {l : Launch} {e : Env} {R : Room} {s : State} {m : MethodId} {args : Array Value} {below : List Frame} {meth : Method} {c : Code} {H : Heap} {locs : List Loc} {cells slots : Nat} {Q : State → Prop}
variable {y : MethodName} {bytes cc : ByteArray} {maxL nL n index nf nl : Nat} {ret : Option FieldType} {ws : List Cond} {Ts : List Cond} {own C host : String} {b : Nat} {As rest st0 : List Value} {ls : Array Slot} {pc : Nat} {G : GG} {w w1 W0 : va_W} {v : Value} {vo : Option Value} {H0 : Heap} {A : Nat → Prop} {aa : Array Value}
/-- behind a reading call -/
theorem rd_go (hr : va_Run p l e R s m args below meth c H locs cells slots 0 0 (F0 m pc ls st0) rest (QR (some v) aa) (fun _ => False)) (kk : W p l e R s m args below meth c H locs cells slots Q (F0 m (pc + 3) ls (v :: rest))) : W p l e R s m args below meth c H locs cells slots Q (F0 m pc ls st0) := by
  intro T hT X
  obtain ⟨v', st₀, t, T', L, h0, X', hL, e1, e2, ⟨hv, hh⟩, st⟩ := hr T hT X
  cases hv
  obtain ⟨t2, a1, b1⟩ := kk T' (by rw [e1, hh, h0]) (Stand.forget X' (fun q h => (hL q h).elim))
  exact ⟨t2, st t2 a1, b1⟩
theorem rdV (hC : Rd G l y ws nf nl (.ref b :: As) w v) (S : CallFix p m c cc nL s args Ts own) (cw : CallW R s args own C index y bytes maxL ret ws (rmm nf nl) 0 0 n) (hv : ∃ cell : Cell, H[b]? = some cell ∧ cell.vm.isStatics = false ∧ s.vm.findClass C = some cell.cls) (hK : cK G s) (hw : va_P G.1 vwCl w H)
    (hn : As.length = n) (hsz : ls.size = nL) (hst : st0 = As.reverse ++ .ref b :: rest) (hW : (rest.map fun v => v.category).sum ≤ 8) (hdg : decode cc pc = .ok (.invokevirtual index, 3)) (hf : cells ≤ R.cells ∧ slots ≤ R.slots)
    (kk : W p l e R s m args below meth c H locs cells slots Q (F0 m (pc + 3) ls (v :: rest))) : W p l e R s m args below meth c H locs cells slots Q (F0 m pc ls st0) :=
  rd_go (va_runV S hC cw ⟨PR.blind, hv, fun U hU hW => ⟨rfl, by rw [hU]; exact hw, hK.warm hW⟩⟩ rfl hn hsz hst (lv_room hW) hdg hf) kk
theorem rdS (hC : Rd G l y ws nf nl As w v) (S : CallFix p m c cc nL s args Ts own) (cw : CallB R s args own index y bytes maxL ret ws (rmm nf nl) 0 0 n ∧ (Cond.static y).before args s = true) (hK : cK G s) (hw : va_P G.1 vwCl w H)
    (hn : As.length = n) (hsz : ls.size = nL) (hst : st0 = As.reverse ++ rest) (hW : (rest.map fun v => v.category).sum ≤ 8) (hdg : decode cc pc = .ok (.invokestatic index, 3)) (hf : cells ≤ R.cells ∧ slots ≤ R.slots)
    (kk : W p l e R s m args below meth c H locs cells slots Q (F0 m (pc + 3) ls (v :: rest))) : W p l e R s m args below meth c H locs cells slots Q (F0 m pc ls st0) :=
  rd_go (va_runS S hC cw ⟨PR.blind, fun U hU hW => ⟨rfl, by rw [hU]; exact hw, hK.warm hW⟩⟩ rfl hn hsz hst (lv_room hW) hdg hf) kk
theorem rdN (hC : Rd G l y ws nf nl As w v) (S : CallFix p m c cc nL s args Ts own) (cw : va_CN R s args own index y host bytes maxL ret ws (rmm nf nl) 0 0 n) (hstat : (Cond.static y).before args s = true) (hK : cK G s) (hw : va_P G.1 vwCl w H)
    (hn : As.length = n) (hsz : ls.size = nL) (hst : st0 = As.reverse ++ rest) (hW : (rest.map fun v => v.category).sum ≤ 8) (hdg : decode cc pc = .ok (.invokestatic index, 3)) (hf : cells ≤ R.cells ∧ slots ≤ R.slots)
    (kk : W p l e R s m args below meth c H locs cells slots Q (F0 m (pc + 3) ls (v :: rest))) : W p l e R s m args below meth c H locs cells slots Q (F0 m pc ls st0) :=
  rd_go (va_runSN S hC ⟨cw, hstat, trivial⟩ ⟨PR.blind, fun U hU hW => ⟨rfl, by rw [hU]; exact hw, hK.warm hW⟩⟩ rfl hn hsz hst (lv_room hW) hdg hf) kk
/-- behind a writing call -/
theorem wr_go (hr : va_Run p l e R s m args below meth c H locs cells slots 0 0 (F0 m pc ls st0) rest (QW G w w1 vo aa) (inW w)) (hP : va_P G.1 vwCl W0 H) (hD : va_D A W0) (hS : va_S A H0 H locs) (is : List Nat) (hc : is.map (fun i => W0[i]?) = w.map some) (hf : w1.map (·.1) = w.map (·.1)) (hnd : va_nd is = true)
    (kk : ∀ (H1 : Heap) (locs1 : List Loc), va_P G.1 vwCl (pset W0 is w1) H1 → va_D A (pset W0 is w1) → va_S A H0 H1 locs1 → W p l e R s m args below meth c H1 locs1 cells slots Q (F0 m (pc + 3) ls (vo.toList ++ rest))) : W p l e R s m args below meth c H locs cells slots Q (F0 m pc ls st0) := by
  intro T hT X
  obtain ⟨v', st₀, t, T', L, h0, X', hL, e1, e2, ⟨hv, hp, hz, hk⟩, st⟩ := hr T hT X
  cases hv
  rw [h0] at hz hk
  have hk1 : ∀ q : Nat, q < H.size → ¬ inW w q → T'.heap[q]? = H[q]? := fun q a b => by rw [e1]; exact hk q a b
  obtain ⟨hP1, hD1⟩ := pset_ok hP hD is hc hf hnd hk1 (by rw [e1]; exact hp)
  have hsub := inW_A hD hc
  obtain ⟨t2, a1, b1⟩ := kk T'.heap (locs ++ L) hP1 hD1 ⟨Nat.le_trans hS.1 (by rw [e1]; exact hz), fun q h1 h2 => (hk1 q (Nat.lt_of_lt_of_le h1 hS.1) (fun z => h2 (hsub q z))).trans (hS.2.1 q h1 h2), fun q hq => by
      rcases List.mem_append.mp hq with h | h
      · exact hS.2.2 q h
      · exact hsub _ (hL q h)⟩ T' rfl X'
  exact ⟨t2, st t2 a1, b1⟩
theorem wrV (hC : Wr G l y ws nf nl (.ref b :: As) w vo w1) (S : CallFix p m c cc nL s args Ts own) (cw : CallW R s args own C index y bytes maxL ret ws (rmm nf nl) 0 0 n) (hv : ∃ cell : Cell, H[b]? = some cell ∧ cell.vm.isStatics = false ∧ s.vm.findClass C = some cell.cls) (hK : cK G s)
    (hP : va_P G.1 vwCl W0 H) (hD : va_D A W0) (hS : va_S A H0 H locs) (is : List Nat) (hc : is.map (fun i => W0[i]?) = w.map some) (hg : is.filterMap (fun i => W0[i]?) = w) (hfs : w1.map (·.1) = w.map (·.1)) (hnd : va_nd is = true)
    (hn : As.length = n) (hsz : ls.size = nL) (hst : st0 = As.reverse ++ .ref b :: rest) (hW : (rest.map fun v => v.category).sum ≤ 8) (hdg : decode cc pc = .ok (.invokevirtual index, 3)) (hf : cells ≤ R.cells ∧ slots ≤ R.slots)
    (kk : ∀ (H1 : Heap) (locs1 : List Loc), va_P G.1 vwCl (pset W0 is w1) H1 → va_D A (pset W0 is w1) → va_S A H0 H1 locs1 → W p l e R s m args below meth c H1 locs1 cells slots Q (F0 m (pc + 3) ls (vo.toList ++ rest))) : W p l e R s m args below meth c H locs cells slots Q (F0 m pc ls st0) :=
  wr_go (va_runV S hC cw ⟨PW.blind, hv, fun U hU hW => ⟨rfl, by rw [hU]; exact hP.sub is hg, hK.warm hW, (hD.sub is hnd hc).weaken (fun _ _ _ _ => trivial)⟩⟩ rfl hn hsz hst (lv_room hW) hdg hf) hP hD hS is hc hfs hnd kk
theorem wrS (hC : Wr G l y ws nf nl As w vo w1) (S : CallFix p m c cc nL s args Ts own) (cw : CallB R s args own index y bytes maxL ret ws (rmm nf nl) 0 0 n ∧ (Cond.static y).before args s = true) (hK : cK G s)
    (hP : va_P G.1 vwCl W0 H) (hD : va_D A W0) (hS : va_S A H0 H locs) (is : List Nat) (hc : is.map (fun i => W0[i]?) = w.map some) (hg : is.filterMap (fun i => W0[i]?) = w) (hfs : w1.map (·.1) = w.map (·.1)) (hnd : va_nd is = true)
    (hn : As.length = n) (hsz : ls.size = nL) (hst : st0 = As.reverse ++ rest) (hW : (rest.map fun v => v.category).sum ≤ 8) (hdg : decode cc pc = .ok (.invokestatic index, 3)) (hf : cells ≤ R.cells ∧ slots ≤ R.slots)
    (kk : ∀ (H1 : Heap) (locs1 : List Loc), va_P G.1 vwCl (pset W0 is w1) H1 → va_D A (pset W0 is w1) → va_S A H0 H1 locs1 → W p l e R s m args below meth c H1 locs1 cells slots Q (F0 m (pc + 3) ls (vo.toList ++ rest))) : W p l e R s m args below meth c H locs cells slots Q (F0 m pc ls st0) :=
  wr_go (va_runS S hC cw ⟨PW.blind, fun U hU hW => ⟨rfl, by rw [hU]; exact hP.sub is hg, hK.warm hW, (hD.sub is hnd hc).weaken (fun _ _ _ _ => trivial)⟩⟩ rfl hn hsz hst (lv_room hW) hdg hf) hP hD hS is hc hfs hnd kk
theorem wrN (hC : Wr G l y ws nf nl As w vo w1) (S : CallFix p m c cc nL s args Ts own) (cw : va_CN R s args own index y host bytes maxL ret ws (rmm nf nl) 0 0 n) (hstat : (Cond.static y).before args s = true) (hK : cK G s)
    (hP : va_P G.1 vwCl W0 H) (hD : va_D A W0) (hS : va_S A H0 H locs) (is : List Nat) (hc : is.map (fun i => W0[i]?) = w.map some) (hg : is.filterMap (fun i => W0[i]?) = w) (hfs : w1.map (·.1) = w.map (·.1)) (hnd : va_nd is = true)
    (hn : As.length = n) (hsz : ls.size = nL) (hst : st0 = As.reverse ++ rest) (hW : (rest.map fun v => v.category).sum ≤ 8) (hdg : decode cc pc = .ok (.invokestatic index, 3)) (hf : cells ≤ R.cells ∧ slots ≤ R.slots)
    (kk : ∀ (H1 : Heap) (locs1 : List Loc), va_P G.1 vwCl (pset W0 is w1) H1 → va_D A (pset W0 is w1) → va_S A H0 H1 locs1 → W p l e R s m args below meth c H1 locs1 cells slots Q (F0 m (pc + 3) ls (vo.toList ++ rest))) : W p l e R s m args below meth c H locs cells slots Q (F0 m pc ls st0) :=
  wr_go (va_runSN S hC ⟨cw, hstat, trivial⟩ ⟨PW.blind, fun U hU hW => ⟨rfl, by rw [hU]; exact hP.sub is hg, hK.warm hW, (hD.sub is hnd hc).weaken (fun _ _ _ _ => trivial)⟩⟩ rfl hn hsz hst (lv_room hW) hdg hf) hP hD hS is hc hfs hnd kk
end RDW
/-! pure words of the shallow readings -/
abbrev jrem (x y : Int32) : Int32 := x - x / y * y
abbrev jmin (x y : Int32) : Int32 := if y < x then y else x
abbrev jmax (x y : Int32) : Int32 := if x < y then y else x
abbrev jabs (x : Int32) : Int32 := if 0 ≤ x then x else 0 - x
abbrev jus (x : Int64) (y : Int32) : Int64 := (x.toUInt64 >>> (y.toInt64.toUInt64 &&& Int64.toUInt64 63)).toInt64
def jinc (f : Nat → Int32) (i x : Int32) : Nat → Int32 := upd f i.toNatClampNeg (f i.toNatClampNeg + x)
def FU : Nat := 6000
theorem sw_out {x : Int32} {lo hi : Int} (h : ∀ k : Int, lo ≤ k → k ≤ hi → ¬ x.toInt = k) : x.toInt < lo ∨ hi < x.toInt := by
  by_cases h1 : x.toInt < lo
  · exact Or.inl h1
  · by_cases h2 : hi < x.toInt
    · exact Or.inr h2
    · exact absurd rfl (h x.toInt (by omega) (by omega))
/-! states and worlds -/
abbrev NI : Type := Nat → Int32
abbrev DS : Type := NI × NI × NI × NI × NI × Int32 × Int32 × Int32 × Int32
def d_st (σ : DS) : NI := σ.1
def d_nu (σ : DS) : NI := σ.2.1
def d_bl (σ : DS) : NI := σ.2.2.1
def d_wr (σ : DS) : NI := σ.2.2.2.1
def d_se (σ : DS) : NI := σ.2.2.2.2.1
def d_sp (σ : DS) : Int32 := σ.2.2.2.2.2.1
def d_rd (σ : DS) : Int32 := σ.2.2.2.2.2.2.1
def d_tk (σ : DS) : Int32 := σ.2.2.2.2.2.2.2.1
def d_hd (σ : DS) : Int32 := σ.2.2.2.2.2.2.2.2
def d_st' (σ : DS) (x : NI) : DS := (x, σ.2)
def d_nu' (σ : DS) (x : NI) : DS := (σ.1, x, σ.2.2)
def d_bl' (σ : DS) (x : NI) : DS := (σ.1, σ.2.1, x, σ.2.2.2)
def d_wr' (σ : DS) (x : NI) : DS := (σ.1, σ.2.1, σ.2.2.1, x, σ.2.2.2.2)
def d_se' (σ : DS) (x : NI) : DS := (σ.1, σ.2.1, σ.2.2.1, σ.2.2.2.1, x, σ.2.2.2.2.2)
def d_sp' (σ : DS) (x : Int32) : DS := (σ.1, σ.2.1, σ.2.2.1, σ.2.2.2.1, σ.2.2.2.2.1, x, σ.2.2.2.2.2.2)
def d_rd' (σ : DS) (x : Int32) : DS := (σ.1, σ.2.1, σ.2.2.1, σ.2.2.2.1, σ.2.2.2.2.1, σ.2.2.2.2.2.1, x, σ.2.2.2.2.2.2.2)
def d_tk' (σ : DS) (x : Int32) : DS := (σ.1, σ.2.1, σ.2.2.1, σ.2.2.2.1, σ.2.2.2.2.1, σ.2.2.2.2.2.1, σ.2.2.2.2.2.2.1, x, σ.2.2.2.2.2.2.2.2)
def d_hd' (σ : DS) (x : Int32) : DS := (σ.1, σ.2.1, σ.2.2.1, σ.2.2.2.1, σ.2.2.2.2.1, σ.2.2.2.2.2.1, σ.2.2.2.2.2.2.1, σ.2.2.2.2.2.2.2.1, x)
abbrev dW (cI : ClassId) (α : Nat → Nat) (σ : DS) : va_W := [(α 0, .inr (0, [.ref (α 1), .ref (α 2), .ref (α 3), .ref (α 4), .ref (α 5), .int (d_sp σ), .int (d_rd σ), .int (d_tk σ), .int (d_hd σ)])), (α 1, .inl (cI, 5, .inl (d_st σ))), (α 2, .inl (cI, 204, .inl (d_nu σ))), (α 3, .inl (cI, 204, .inl (d_bl σ))), (α 4, .inl (cI, 204, .inl (d_wr σ))), (α 5, .inl (cI, 192, .inl (d_se σ)))]
abbrev MS : Type := NI × NI × NI × NI × NI × NI × NI × NI × NI × Int32 × Int32 × Int32 × Int32 × Int32
def m_al (σ : MS) : NI := σ.1
def m_ke (σ : MS) : NI := σ.2.1
def m_hi (σ : MS) : NI := σ.2.2.1
def m_sl (σ : MS) : NI := σ.2.2.2.1
def m_sv (σ : MS) : NI := σ.2.2.2.2.1
def m_tx (σ : MS) : NI := σ.2.2.2.2.2.1
def m_as (σ : MS) : NI := σ.2.2.2.2.2.2.1
def m_nu (σ : MS) : NI := σ.2.2.2.2.2.2.2.1
def m_tr (σ : MS) : NI := σ.2.2.2.2.2.2.2.2.1
def m_hl (σ : MS) : Int32 := σ.2.2.2.2.2.2.2.2.2.1
def m_tl (σ : MS) : Int32 := σ.2.2.2.2.2.2.2.2.2.2.1
def m_so (σ : MS) : Int32 := σ.2.2.2.2.2.2.2.2.2.2.2.1
def m_nm (σ : MS) : Int32 := σ.2.2.2.2.2.2.2.2.2.2.2.2.1
def m_rq (σ : MS) : Int32 := σ.2.2.2.2.2.2.2.2.2.2.2.2.2
def m_mk (a k h s v t q u r : NI) (hl tl so nm rq : Int32) : MS := (a, k, h, s, v, t, q, u, r, hl, tl, so, nm, rq)
def m_al' (σ : MS) (x : NI) : MS := (x, σ.2)
def m_ke' (σ : MS) (x : NI) : MS := (σ.1, x, σ.2.2)
def m_hi' (σ : MS) (x : NI) : MS := m_mk (m_al σ) (m_ke σ) x (m_sl σ) (m_sv σ) (m_tx σ) (m_as σ) (m_nu σ) (m_tr σ) (m_hl σ) (m_tl σ) (m_so σ) (m_nm σ) (m_rq σ)
def m_sl' (σ : MS) (x : NI) : MS := m_mk (m_al σ) (m_ke σ) (m_hi σ) x (m_sv σ) (m_tx σ) (m_as σ) (m_nu σ) (m_tr σ) (m_hl σ) (m_tl σ) (m_so σ) (m_nm σ) (m_rq σ)
def m_sv' (σ : MS) (x : NI) : MS := m_mk (m_al σ) (m_ke σ) (m_hi σ) (m_sl σ) x (m_tx σ) (m_as σ) (m_nu σ) (m_tr σ) (m_hl σ) (m_tl σ) (m_so σ) (m_nm σ) (m_rq σ)
def m_tx' (σ : MS) (x : NI) : MS := m_mk (m_al σ) (m_ke σ) (m_hi σ) (m_sl σ) (m_sv σ) x (m_as σ) (m_nu σ) (m_tr σ) (m_hl σ) (m_tl σ) (m_so σ) (m_nm σ) (m_rq σ)
def m_as' (σ : MS) (x : NI) : MS := m_mk (m_al σ) (m_ke σ) (m_hi σ) (m_sl σ) (m_sv σ) (m_tx σ) x (m_nu σ) (m_tr σ) (m_hl σ) (m_tl σ) (m_so σ) (m_nm σ) (m_rq σ)
def m_nu' (σ : MS) (x : NI) : MS := m_mk (m_al σ) (m_ke σ) (m_hi σ) (m_sl σ) (m_sv σ) (m_tx σ) (m_as σ) x (m_tr σ) (m_hl σ) (m_tl σ) (m_so σ) (m_nm σ) (m_rq σ)
def m_tr' (σ : MS) (x : NI) : MS := m_mk (m_al σ) (m_ke σ) (m_hi σ) (m_sl σ) (m_sv σ) (m_tx σ) (m_as σ) (m_nu σ) x (m_hl σ) (m_tl σ) (m_so σ) (m_nm σ) (m_rq σ)
def m_hl' (σ : MS) (x : Int32) : MS := m_mk (m_al σ) (m_ke σ) (m_hi σ) (m_sl σ) (m_sv σ) (m_tx σ) (m_as σ) (m_nu σ) (m_tr σ) x (m_tl σ) (m_so σ) (m_nm σ) (m_rq σ)
def m_tl' (σ : MS) (x : Int32) : MS := m_mk (m_al σ) (m_ke σ) (m_hi σ) (m_sl σ) (m_sv σ) (m_tx σ) (m_as σ) (m_nu σ) (m_tr σ) (m_hl σ) x (m_so σ) (m_nm σ) (m_rq σ)
def m_so' (σ : MS) (x : Int32) : MS := m_mk (m_al σ) (m_ke σ) (m_hi σ) (m_sl σ) (m_sv σ) (m_tx σ) (m_as σ) (m_nu σ) (m_tr σ) (m_hl σ) (m_tl σ) x (m_nm σ) (m_rq σ)
def m_nm' (σ : MS) (x : Int32) : MS := m_mk (m_al σ) (m_ke σ) (m_hi σ) (m_sl σ) (m_sv σ) (m_tx σ) (m_as σ) (m_nu σ) (m_tr σ) (m_hl σ) (m_tl σ) (m_so σ) x (m_rq σ)
def m_rq' (σ : MS) (x : Int32) : MS := m_mk (m_al σ) (m_ke σ) (m_hi σ) (m_sl σ) (m_sv σ) (m_tx σ) (m_as σ) (m_nu σ) (m_tr σ) (m_hl σ) (m_tl σ) (m_so σ) (m_nm σ) x
abbrev mW (cI : ClassId) (α : Nat → Nat) (σ : MS) : va_W := [(α 0, .inr (5, [.ref (α 1), .ref (α 2), .ref (α 3), .int (m_hl σ), .ref (α 4), .ref (α 5), .ref (α 6), .int (m_tl σ), .int (m_so σ), .int (m_nm σ), .ref (α 7), .ref (α 8), .ref (α 9), .int (m_rq σ)])), (α 1, .inl (cI, 816, .inl (m_al σ))), (α 2, .inl (cI, 816, .inl (m_ke σ))), (α 3, .inl (cI, 4896, .inl (m_hi σ))), (α 4, .inl (cI, 1632, .inl (m_sl σ))), (α 5, .inl (cI, 2, .inl (m_sv σ))), (α 6, .inl (cI, 60, .inl (m_tx σ))), (α 7, .inl (cI, 30, .inl (m_as σ))), (α 8, .inl (cI, 30, .inl (m_nu σ))), (α 9, .inl (cI, 30, .inl (m_tr σ)))]
abbrev QS : Type := NI × NI × NI × Int32 × Int32
def q_ad (σ : QS) : NI := σ.1
def q_nu (σ : QS) : NI := σ.2.1
def q_tr (σ : QS) : NI := σ.2.2.1
def q_sz (σ : QS) : Int32 := σ.2.2.2.1
def q_pl (σ : QS) : Int32 := σ.2.2.2.2
def q_ad' (σ : QS) (x : NI) : QS := (x, σ.2)
def q_nu' (σ : QS) (x : NI) : QS := (σ.1, x, σ.2.2)
def q_tr' (σ : QS) (x : NI) : QS := (σ.1, σ.2.1, x, σ.2.2.2)
def q_sz' (σ : QS) (x : Int32) : QS := (σ.1, σ.2.1, σ.2.2.1, x, σ.2.2.2.2)
def q_pl' (σ : QS) (x : Int32) : QS := (σ.1, σ.2.1, σ.2.2.1, σ.2.2.2.1, x)
abbrev qW (cI : ClassId) (α : Nat → Nat) (σ : QS) : va_W := [(α 0, .inr (3, [.ref (α 1), .ref (α 2), .ref (α 3), .int (q_sz σ), .int (q_pl σ)])), (α 1, .inl (cI, 21, .inl (q_ad σ))), (α 2, .inl (cI, 21, .inl (q_nu σ))), (α 3, .inl (cI, 21, .inl (q_tr σ)))]
abbrev PS : Type := NI × Int32
def p_si (σ : PS) : NI := σ.1
def p_le (σ : PS) : Int32 := σ.2
def p_si' (σ : PS) (x : NI) : PS := (x, σ.2)
def p_le' (σ : PS) (x : Int32) : PS := (σ.1, x)
abbrev pW (cI : ClassId) (α : Nat → Nat) (σ : PS) : va_W := [(α 0, .inr (2, [.ref (α 1), .int (p_le σ)])), (α 1, .inl (cI, 60, .inl (p_si σ)))]
/-- one row of ints -/
abbrev aW (cI : ClassId) (α : Nat) (n : Nat) (f : NI) : va_W := [(α, .inl (cI, n, .inl f))]
/-- what a walk knows of its method -/
def cA (p : Program) (s : State) (m : MethodId) (meth : Method) (c : Code) (args : Array Value) (cc : ByteArray) (nL : Nat) (rt : Option FieldType) (ws : List Cond) (own : String) : Prop :=
  p.tables.exec = Jvm.exec ∧ c.code = cc ∧ meth.sig.returnType = rt ∧ c.maxLocals = nL ∧ s.vm.findClass own = some m.cls ∧ (∀ w ∈ ws, w.before args s = true) ∧ meth.locks = false
theorem nbool {v : Int32} (h : v = 0 ∨ v = 1) : narrow .boolean (.int v) = .int v := by rcases h with rfl | rfl <;> rfl
theorem at_in {x : Int32} {n : Nat} (h1 : ¬ x < 0) (h2 : ¬ nI n ≤ x) (hn : n < 2147483648) : vp_in x n := by
  rcases pk_ix x hn with h | h | ⟨j, hj, rfl⟩
  · exact absurd h h1
  · exact absurd h h2
  · exact vp_in_nI hj hn
theorem nz_of {x : Int32} (h : ¬ x ≤ 0) : ¬ x = 0 := fun e => h (by rw [e]; exact Int32.le_refl 0)
end
section
/-! rows for the fields and arrays of one block, its state a variable; calls whose world is the whole world -/
theorem va_P0 {D : va_G} {cl : List vw_C} {H : Heap} : va_P D cl [] H := fun k q h => by simp at h
theorem va_PL {D : va_G} {cl : List vw_C} {A B : va_W} {H : Heap} (h : va_P D cl (A ++ B) H) : va_P D cl A H := fun k q hk => by
  have hl := (List.getElem?_eq_some_iff.mp hk).1
  exact h k q (by rw [List.getElem?_append_left hl]; exact hk)
theorem va_PR {D : va_G} {cl : List vw_C} {A B : va_W} {H : Heap} (h : va_P D cl (A ++ B) H) : va_P D cl B H := fun k q hk =>
  h (A.length + k) q (by rw [List.getElem?_append_right (by omega)]; rw [Nat.add_sub_cancel_left]; exact hk)
theorem va_DL {X : Nat → Prop} {A B : va_W} (h : va_D X (A ++ B)) : va_D X A := by
  have key : ∀ (k : Nat) (q : Nat × va_E), A[k]? = some q → (A ++ B)[k]? = some q := fun k q hk => by
    rw [List.getElem?_append_left (List.getElem?_eq_some_iff.mp hk).1]; exact hk
  exact ⟨fun i j x y hx hy hxy => h.1 i j x y (key i x hx) (key j y hy) hxy, fun k q hk => h.2 k q (key k q hk)⟩
theorem va_DR {X : Nat → Prop} {A B : va_W} (h : va_D X (A ++ B)) : va_D X B := by
  have key : ∀ (k : Nat) (q : Nat × va_E), B[k]? = some q → (A ++ B)[A.length + k]? = some q := fun k q hk => by
    rw [List.getElem?_append_right (by omega), Nat.add_sub_cancel_left]; exact hk
  refine ⟨fun i j x y hx hy hxy => ?_, fun k q hk => h.2 _ q (key k q hk)⟩
  have := h.1 _ _ x y (key i x hx) (key j y hy) hxy
  omega
theorem va_Dx {X : Nat → Prop} {A B : va_W} (h : va_D X (A ++ B)) {i j : Nat} {x y : Nat × va_E} (hx : A[i]? = some x) (hy : B[j]? = some y) : x.1 ≠ y.1 := fun e => by
  have hl := (List.getElem?_eq_some_iff.mp hx).1
  have := h.1 i (A.length + j) x y (by rw [List.getElem?_append_left hl]; exact hx) (by rw [List.getElem?_append_right (by omega), Nat.add_sub_cancel_left]; exact hy) e
  omega
theorem inW_of {w : va_W} {k : Nat} {q : Nat × va_E} (h : w[k]? = some q) : inW w q.1 := ⟨k, q.2, h⟩
/-- a part of a world was written (its addresses stay), the other part not -/
theorem repL {X : Nat → Prop} {D : va_G} {cl : List vw_C} {A A1 B : va_W} {H H1 : Heap} (hP : va_P D cl (A ++ B) H) (hD : va_D X (A ++ B)) (hf : A1.map (·.1) = A.map (·.1)) (hk : ∀ q : Nat, q < H.size → ¬ inW A q → H1[q]? = H[q]?) (hP1 : va_P D cl A1 H1) : va_P D cl (A1 ++ B) H1 ∧ va_D X (A1 ++ B) := by
  have back : ∀ (k : Nat) (q : Nat × va_E), A1[k]? = some q → ∃ q0, A[k]? = some q0 ∧ q0.1 = q.1 := fun k q hk => by
    have e1 : (A1.map (·.1))[k]? = some q.1 := by rw [List.getElem?_map, hk]; rfl
    rw [hf, List.getElem?_map] at e1
    cases h : A[k]? with
    | none => rw [h] at e1; cases e1
    | some q0 => rw [h] at e1; exact ⟨q0, rfl, Option.some.inj e1⟩
  refine ⟨hP1.app ((va_PR hP).kept fun k q hq => hk q.1 ((va_PR hP) k q hq).lt fun z => ?_), va_D.app ⟨fun i j x y hx hy hxy => ?_, fun k q hq => ?_⟩ (va_DR hD) fun i j x y hx hy hxy => ?_⟩
  · obtain ⟨j, e, hj⟩ := z
    exact va_Dx hD hj hq rfl
  · obtain ⟨x0, h1, h2⟩ := back i x hx
    obtain ⟨y0, h3, h4⟩ := back j y hy
    exact (va_DL hD).1 i j x0 y0 h1 h3 (h2.trans (hxy.trans h4.symm))
  · obtain ⟨q0, h1, h2⟩ := back k q hq
    rw [← h2]
    exact (va_DL hD).2 k q0 h1
  · obtain ⟨x0, h1, h2⟩ := back i x hx
    exact va_Dx hD h1 hy (h2.trans hxy)
theorem repR {X : Nat → Prop} {D : va_G} {cl : List vw_C} {A B B1 : va_W} {H H1 : Heap} (hP : va_P D cl (A ++ B) H) (hD : va_D X (A ++ B)) (hf : B1.map (·.1) = B.map (·.1)) (hk : ∀ q : Nat, q < H.size → ¬ inW B q → H1[q]? = H[q]?) (hP1 : va_P D cl B1 H1) : va_P D cl (A ++ B1) H1 ∧ va_D X (A ++ B1) := by
  have back : ∀ (k : Nat) (q : Nat × va_E), B1[k]? = some q → ∃ q0, B[k]? = some q0 ∧ q0.1 = q.1 := fun k q hk => by
    have e1 : (B1.map (·.1))[k]? = some q.1 := by rw [List.getElem?_map, hk]; rfl
    rw [hf, List.getElem?_map] at e1
    cases h : B[k]? with
    | none => rw [h] at e1; cases e1
    | some q0 => rw [h] at e1; exact ⟨q0, rfl, Option.some.inj e1⟩
  refine ⟨va_P.app ((va_PL hP).kept fun k q hq => hk q.1 ((va_PL hP) k q hq).lt fun z => ?_) hP1, va_D.app (va_DL hD) ⟨fun i j x y hx hy hxy => ?_, fun k q hq => ?_⟩ fun i j x y hx hy hxy => ?_⟩
  · obtain ⟨j, e, hj⟩ := z
    exact va_Dx hD hq hj rfl
  · obtain ⟨x0, h1, h2⟩ := back i x hx
    obtain ⟨y0, h3, h4⟩ := back j y hy
    exact (va_DR hD).1 i j x0 y0 h1 h3 (h2.trans (hxy.trans h4.symm))
  · obtain ⟨q0, h1, h2⟩ := back k q hq
    rw [← h2]
    exact (va_DR hD).2 k q0 h1
  · obtain ⟨y0, h1, h2⟩ := back j y hy
    exact va_Dx hD hx h1 (hxy.trans h2.symm)
section RDX
variable {p : Program} {l : Launch} {e : Env} {R : Room} {s : State} {m : MethodId} {args : Array Value} {below : List Frame} {meth : Method} {c : Code} {H : Heap} {locs : List Loc} {cells slots : Nat} {Q : State → Prop}
variable {y : MethodName} {bytes cc : ByteArray} {maxL nL n index nf nl : Nat} {ret : Option FieldType} {ws : List Cond} {Ts : List Cond} {own C host : String} {b : Nat} {As rest st0 : List Value} {ls : Array Slot} {pc : Nat} {G : GG} {w w1 WA WB : va_W} {v : Value} {vo : Option Value} {H0 : Heap} {A : Nat → Prop} {aa : Array Value} {α : Nat → Nat}

theorem rep0 {X : Nat → Prop} {D : va_G} {cl : List vw_C} {A A1 : va_W} {H1 : Heap} (hD : va_D X A) (hf : A1.map (·.1) = A.map (·.1)) (hP1 : va_P D cl A1 H1) : va_P D cl A1 H1 ∧ va_D X A1 := by
  have back : ∀ (k : Nat) (q : Nat × va_E), A1[k]? = some q → ∃ q0, A[k]? = some q0 ∧ q0.1 = q.1 := fun k q hk => by
    have e1 : (A1.map (·.1))[k]? = some q.1 := by rw [List.getElem?_map, hk]; rfl
    rw [hf, List.getElem?_map] at e1
    cases h : A[k]? with
    | none => rw [h] at e1; cases e1
    | some q0 => rw [h] at e1; exact ⟨q0, rfl, Option.some.inj e1⟩
  refine ⟨hP1, fun i j x y hx hy hxy => ?_, fun k q hq => ?_⟩
  · obtain ⟨x0, h1, h2⟩ := back i x hx
    obtain ⟨y0, h3, h4⟩ := back j y hy
    exact hD.1 i j x0 y0 h1 h3 (h2.trans (hxy.trans h4.symm))
  · obtain ⟨q0, h1, h2⟩ := back k q hq
    rw [← h2]
    exact hD.2 k q0 h1
theorem wr_go0 (hr : va_Run p l e R s m args below meth c H locs cells slots 0 0 (F0 m pc ls st0) rest (QW G w w1 vo aa) (inW w)) (hP : va_P G.1 vwCl w H) (hD : va_D A w) (hS : va_S A H0 H locs) (hf : w1.map (·.1) = w.map (·.1))
    (kk : ∀ (H1 : Heap) (locs1 : List Loc), va_P G.1 vwCl w1 H1 → va_D A w1 → va_S A H0 H1 locs1 → W p l e R s m args below meth c H1 locs1 cells slots Q (F0 m (pc + 3) ls (vo.toList ++ rest))) : W p l e R s m args below meth c H locs cells slots Q (F0 m pc ls st0) := by
  intro T hT X
  obtain ⟨v', st₀, t, T', L, h0, X', hL, e1, e2, ⟨hv, hp, hz, hk⟩, st⟩ := hr T hT X
  cases hv
  rw [h0] at hz hk
  have hk1 : ∀ q : Nat, q < H.size → ¬ inW w q → T'.heap[q]? = H[q]? := fun q a b => by rw [e1]; exact hk q a b
  have hsub : ∀ q, inW w q → A q := fun q ⟨k, e9, hq⟩ => (hD).2 k (q, e9) hq
  obtain ⟨hP1, hD1⟩ := rep0 (H1 := T'.heap) hD hf (by rw [e1]; exact hp)
  obtain ⟨t2, a1, b1⟩ := kk T'.heap (locs ++ L) hP1 hD1 ⟨Nat.le_trans hS.1 (by rw [e1]; exact hz), fun q h1 h2 => (hk1 q (Nat.lt_of_lt_of_le h1 hS.1) (fun z => h2 (hsub q z))).trans (hS.2.1 q h1 h2), fun q hq => by
      rcases List.mem_append.mp hq with h | h
      · exact hS.2.2 q h
      · exact hsub _ (hL q h)⟩ T' rfl X'
  exact ⟨t2, st t2 a1, b1⟩
theorem wrV0 (hC : Wr G l y ws nf nl (.ref b :: As) w vo w1) (S : CallFix p m c cc nL s args Ts own) (cw : CallW R s args own C index y bytes maxL ret ws (rmm nf nl) 0 0 n) (hv : ∃ cell : Cell, H[b]? = some cell ∧ cell.vm.isStatics = false ∧ s.vm.findClass C = some cell.cls) (hK : cK G s) (hP : va_P G.1 vwCl w H) (hD : va_D A w) (hS : va_S A H0 H locs) (hfs : w1.map (·.1) = w.map (·.1))
    (hn : As.length = n) (hsz : ls.size = nL) (hst : st0 = As.reverse ++ .ref b :: rest) (hW : (rest.map fun v => v.category).sum ≤ 8) (hdg : decode cc pc = .ok (.invokevirtual index, 3)) (hf : cells ≤ R.cells ∧ slots ≤ R.slots)
    (kk : ∀ (H1 : Heap) (locs1 : List Loc), va_P G.1 vwCl w1 H1 → va_D A w1 → va_S A H0 H1 locs1 → W p l e R s m args below meth c H1 locs1 cells slots Q (F0 m (pc + 3) ls (vo.toList ++ rest))) : W p l e R s m args below meth c H locs cells slots Q (F0 m pc ls st0) :=
  wr_go0 (va_runV S hC cw ⟨PW.blind, hv, fun U hU hW => ⟨rfl, by rw [hU]; exact hP, hK.warm hW, (hD).weaken (fun _ _ _ _ => trivial)⟩⟩ rfl hn hsz hst (lv_room hW) hdg hf) hP hD hS hfs kk
theorem wrS0 (hC : Wr G l y ws nf nl (As) w vo w1) (S : CallFix p m c cc nL s args Ts own) (cw : CallB R s args own index y bytes maxL ret ws (rmm nf nl) 0 0 n ∧ (Cond.static y).before args s = true) (hK : cK G s) (hP : va_P G.1 vwCl w H) (hD : va_D A w) (hS : va_S A H0 H locs) (hfs : w1.map (·.1) = w.map (·.1))
    (hn : As.length = n) (hsz : ls.size = nL) (hst : st0 = As.reverse ++ rest) (hW : (rest.map fun v => v.category).sum ≤ 8) (hdg : decode cc pc = .ok (.invokestatic index, 3)) (hf : cells ≤ R.cells ∧ slots ≤ R.slots)
    (kk : ∀ (H1 : Heap) (locs1 : List Loc), va_P G.1 vwCl w1 H1 → va_D A w1 → va_S A H0 H1 locs1 → W p l e R s m args below meth c H1 locs1 cells slots Q (F0 m (pc + 3) ls (vo.toList ++ rest))) : W p l e R s m args below meth c H locs cells slots Q (F0 m pc ls st0) :=
  wr_go0 (va_runS S hC cw ⟨PW.blind, fun U hU hW => ⟨rfl, by rw [hU]; exact hP, hK.warm hW, (hD).weaken (fun _ _ _ _ => trivial)⟩⟩ rfl hn hsz hst (lv_room hW) hdg hf) hP hD hS hfs kk
theorem wr_goL (hr : va_Run p l e R s m args below meth c H locs cells slots 0 0 (F0 m pc ls st0) rest (QW G w w1 vo aa) (inW w)) (hP : va_P G.1 vwCl (w ++ WB) H) (hD : va_D A (w ++ WB)) (hS : va_S A H0 H locs) (hf : w1.map (·.1) = w.map (·.1))
    (kk : ∀ (H1 : Heap) (locs1 : List Loc), va_P G.1 vwCl (w1 ++ WB) H1 → va_D A (w1 ++ WB) → va_S A H0 H1 locs1 → W p l e R s m args below meth c H1 locs1 cells slots Q (F0 m (pc + 3) ls (vo.toList ++ rest))) : W p l e R s m args below meth c H locs cells slots Q (F0 m pc ls st0) := by
  intro T hT X
  obtain ⟨v', st₀, t, T', L, h0, X', hL, e1, e2, ⟨hv, hp, hz, hk⟩, st⟩ := hr T hT X
  cases hv
  rw [h0] at hz hk
  have hk1 : ∀ q : Nat, q < H.size → ¬ inW w q → T'.heap[q]? = H[q]? := fun q a b => by rw [e1]; exact hk q a b
  have hsub : ∀ q, inW w q → A q := fun q ⟨k, e9, hq⟩ => (va_DL hD).2 k (q, e9) hq
  obtain ⟨hP1, hD1⟩ := repL hP hD hf hk1 (by rw [e1]; exact hp)
  obtain ⟨t2, a1, b1⟩ := kk T'.heap (locs ++ L) hP1 hD1 ⟨Nat.le_trans hS.1 (by rw [e1]; exact hz), fun q h1 h2 => (hk1 q (Nat.lt_of_lt_of_le h1 hS.1) (fun z => h2 (hsub q z))).trans (hS.2.1 q h1 h2), fun q hq => by
      rcases List.mem_append.mp hq with h | h
      · exact hS.2.2 q h
      · exact hsub _ (hL q h)⟩ T' rfl X'
  exact ⟨t2, st t2 a1, b1⟩
theorem wrVL (hC : Wr G l y ws nf nl (.ref b :: As) w vo w1) (S : CallFix p m c cc nL s args Ts own) (cw : CallW R s args own C index y bytes maxL ret ws (rmm nf nl) 0 0 n) (hv : ∃ cell : Cell, H[b]? = some cell ∧ cell.vm.isStatics = false ∧ s.vm.findClass C = some cell.cls) (hK : cK G s) (hP : va_P G.1 vwCl (w ++ WB) H) (hD : va_D A (w ++ WB)) (hS : va_S A H0 H locs) (hfs : w1.map (·.1) = w.map (·.1))
    (hn : As.length = n) (hsz : ls.size = nL) (hst : st0 = As.reverse ++ .ref b :: rest) (hW : (rest.map fun v => v.category).sum ≤ 8) (hdg : decode cc pc = .ok (.invokevirtual index, 3)) (hf : cells ≤ R.cells ∧ slots ≤ R.slots)
    (kk : ∀ (H1 : Heap) (locs1 : List Loc), va_P G.1 vwCl (w1 ++ WB) H1 → va_D A (w1 ++ WB) → va_S A H0 H1 locs1 → W p l e R s m args below meth c H1 locs1 cells slots Q (F0 m (pc + 3) ls (vo.toList ++ rest))) : W p l e R s m args below meth c H locs cells slots Q (F0 m pc ls st0) :=
  wr_goL (va_runV S hC cw ⟨PW.blind, hv, fun U hU hW => ⟨rfl, by rw [hU]; exact va_PL hP, hK.warm hW, (va_DL hD).weaken (fun _ _ _ _ => trivial)⟩⟩ rfl hn hsz hst (lv_room hW) hdg hf) hP hD hS hfs kk
theorem wrSL (hC : Wr G l y ws nf nl (As) w vo w1) (S : CallFix p m c cc nL s args Ts own) (cw : CallB R s args own index y bytes maxL ret ws (rmm nf nl) 0 0 n ∧ (Cond.static y).before args s = true) (hK : cK G s) (hP : va_P G.1 vwCl (w ++ WB) H) (hD : va_D A (w ++ WB)) (hS : va_S A H0 H locs) (hfs : w1.map (·.1) = w.map (·.1))
    (hn : As.length = n) (hsz : ls.size = nL) (hst : st0 = As.reverse ++ rest) (hW : (rest.map fun v => v.category).sum ≤ 8) (hdg : decode cc pc = .ok (.invokestatic index, 3)) (hf : cells ≤ R.cells ∧ slots ≤ R.slots)
    (kk : ∀ (H1 : Heap) (locs1 : List Loc), va_P G.1 vwCl (w1 ++ WB) H1 → va_D A (w1 ++ WB) → va_S A H0 H1 locs1 → W p l e R s m args below meth c H1 locs1 cells slots Q (F0 m (pc + 3) ls (vo.toList ++ rest))) : W p l e R s m args below meth c H locs cells slots Q (F0 m pc ls st0) :=
  wr_goL (va_runS S hC cw ⟨PW.blind, fun U hU hW => ⟨rfl, by rw [hU]; exact va_PL hP, hK.warm hW, (va_DL hD).weaken (fun _ _ _ _ => trivial)⟩⟩ rfl hn hsz hst (lv_room hW) hdg hf) hP hD hS hfs kk
theorem wr_goR (hr : va_Run p l e R s m args below meth c H locs cells slots 0 0 (F0 m pc ls st0) rest (QW G w w1 vo aa) (inW w)) (hP : va_P G.1 vwCl (WA ++ w) H) (hD : va_D A (WA ++ w)) (hS : va_S A H0 H locs) (hf : w1.map (·.1) = w.map (·.1))
    (kk : ∀ (H1 : Heap) (locs1 : List Loc), va_P G.1 vwCl (WA ++ w1) H1 → va_D A (WA ++ w1) → va_S A H0 H1 locs1 → W p l e R s m args below meth c H1 locs1 cells slots Q (F0 m (pc + 3) ls (vo.toList ++ rest))) : W p l e R s m args below meth c H locs cells slots Q (F0 m pc ls st0) := by
  intro T hT X
  obtain ⟨v', st₀, t, T', L, h0, X', hL, e1, e2, ⟨hv, hp, hz, hk⟩, st⟩ := hr T hT X
  cases hv
  rw [h0] at hz hk
  have hk1 : ∀ q : Nat, q < H.size → ¬ inW w q → T'.heap[q]? = H[q]? := fun q a b => by rw [e1]; exact hk q a b
  have hsub : ∀ q, inW w q → A q := fun q ⟨k, e9, hq⟩ => (va_DR hD).2 k (q, e9) hq
  obtain ⟨hP1, hD1⟩ := repR hP hD hf hk1 (by rw [e1]; exact hp)
  obtain ⟨t2, a1, b1⟩ := kk T'.heap (locs ++ L) hP1 hD1 ⟨Nat.le_trans hS.1 (by rw [e1]; exact hz), fun q h1 h2 => (hk1 q (Nat.lt_of_lt_of_le h1 hS.1) (fun z => h2 (hsub q z))).trans (hS.2.1 q h1 h2), fun q hq => by
      rcases List.mem_append.mp hq with h | h
      · exact hS.2.2 q h
      · exact hsub _ (hL q h)⟩ T' rfl X'
  exact ⟨t2, st t2 a1, b1⟩
theorem wrVR (hC : Wr G l y ws nf nl (.ref b :: As) w vo w1) (S : CallFix p m c cc nL s args Ts own) (cw : CallW R s args own C index y bytes maxL ret ws (rmm nf nl) 0 0 n) (hv : ∃ cell : Cell, H[b]? = some cell ∧ cell.vm.isStatics = false ∧ s.vm.findClass C = some cell.cls) (hK : cK G s) (hP : va_P G.1 vwCl (WA ++ w) H) (hD : va_D A (WA ++ w)) (hS : va_S A H0 H locs) (hfs : w1.map (·.1) = w.map (·.1))
    (hn : As.length = n) (hsz : ls.size = nL) (hst : st0 = As.reverse ++ .ref b :: rest) (hW : (rest.map fun v => v.category).sum ≤ 8) (hdg : decode cc pc = .ok (.invokevirtual index, 3)) (hf : cells ≤ R.cells ∧ slots ≤ R.slots)
    (kk : ∀ (H1 : Heap) (locs1 : List Loc), va_P G.1 vwCl (WA ++ w1) H1 → va_D A (WA ++ w1) → va_S A H0 H1 locs1 → W p l e R s m args below meth c H1 locs1 cells slots Q (F0 m (pc + 3) ls (vo.toList ++ rest))) : W p l e R s m args below meth c H locs cells slots Q (F0 m pc ls st0) :=
  wr_goR (va_runV S hC cw ⟨PW.blind, hv, fun U hU hW => ⟨rfl, by rw [hU]; exact va_PR hP, hK.warm hW, (va_DR hD).weaken (fun _ _ _ _ => trivial)⟩⟩ rfl hn hsz hst (lv_room hW) hdg hf) hP hD hS hfs kk
theorem wrSR (hC : Wr G l y ws nf nl (As) w vo w1) (S : CallFix p m c cc nL s args Ts own) (cw : CallB R s args own index y bytes maxL ret ws (rmm nf nl) 0 0 n ∧ (Cond.static y).before args s = true) (hK : cK G s) (hP : va_P G.1 vwCl (WA ++ w) H) (hD : va_D A (WA ++ w)) (hS : va_S A H0 H locs) (hfs : w1.map (·.1) = w.map (·.1))
    (hn : As.length = n) (hsz : ls.size = nL) (hst : st0 = As.reverse ++ rest) (hW : (rest.map fun v => v.category).sum ≤ 8) (hdg : decode cc pc = .ok (.invokestatic index, 3)) (hf : cells ≤ R.cells ∧ slots ≤ R.slots)
    (kk : ∀ (H1 : Heap) (locs1 : List Loc), va_P G.1 vwCl (WA ++ w1) H1 → va_D A (WA ++ w1) → va_S A H0 H1 locs1 → W p l e R s m args below meth c H1 locs1 cells slots Q (F0 m (pc + 3) ls (vo.toList ++ rest))) : W p l e R s m args below meth c H locs cells slots Q (F0 m pc ls st0) :=
  wr_goR (va_runS S hC cw ⟨PW.blind, fun U hU hW => ⟨rfl, by rw [hU]; exact va_PR hP, hK.warm hW, (va_DR hD).weaken (fun _ _ _ _ => trivial)⟩⟩ rfl hn hsz hst (lv_room hW) hdg hf) hP hD hS hfs kk
theorem fst_D {c : ClassId} {α : Nat → Nat} (σ τ : DS) : (dW c α τ).map (·.1) = (dW c α σ).map (·.1) := rfl
theorem rcv_D {σ : DS} (hK : cK G s) (hP : va_P G.1 vwCl (dW G.2.1 α σ) H) : ∃ cell : Cell, H[α 0]? = some cell ∧ cell.vm.isStatics = false ∧ s.vm.findClass RX0 = some cell.cls := va_recv hK.1 hP (ci := 0) (q0 := 0) rfl rfl
theorem get_D_settings {σ : DS} (hx : p.tables.exec = Jvm.exec) (hb : c.code = cc) (hts : ∀ w ∈ Ts, w.before args s = true) (hin : ∀ w ∈ wsX00, w ∈ Ts) (hown : s.vm.findClass own = some m.cls) (hK : cK G s) (hP : va_P G.1 vwCl (dW G.2.1 α σ) H) (hl : (Cond.fieldLink own index "GrooveTurns$Disc" "settings" "[I").before args s = true) (hdg : decode cc pc = .ok (.getfield index, 3)) (kk : W p l e R s m args below meth c H locs cells slots Q (F0 m (pc + 3) ls (.ref (α 1) :: rest))) : W p l e R s m args below meth c H locs cells slots Q (F0 m pc ls (.ref (α 0) :: rest)) :=
  va_get (D := G.1) (ci := 0) (v := .ref (α 1)) (C := RX0) (T := TX0) (N := 9) hx hb hts hin hown hK.1 hP 0 rfl rfl 0 (by decide) hl (fun _ h => h) rfl hdg kk
theorem get_D_numbers {σ : DS} (hx : p.tables.exec = Jvm.exec) (hb : c.code = cc) (hts : ∀ w ∈ Ts, w.before args s = true) (hin : ∀ w ∈ wsX00, w ∈ Ts) (hown : s.vm.findClass own = some m.cls) (hK : cK G s) (hP : va_P G.1 vwCl (dW G.2.1 α σ) H) (hl : (Cond.fieldLink own index "GrooveTurns$Disc" "numbers" "[I").before args s = true) (hdg : decode cc pc = .ok (.getfield index, 3)) (kk : W p l e R s m args below meth c H locs cells slots Q (F0 m (pc + 3) ls (.ref (α 2) :: rest))) : W p l e R s m args below meth c H locs cells slots Q (F0 m pc ls (.ref (α 0) :: rest)) :=
  va_get (D := G.1) (ci := 0) (v := .ref (α 2)) (C := RX0) (T := TX0) (N := 9) hx hb hts hin hown hK.1 hP 0 rfl rfl 1 (by decide) hl (fun _ h => h) rfl hdg kk
theorem get_D_blurs {σ : DS} (hx : p.tables.exec = Jvm.exec) (hb : c.code = cc) (hts : ∀ w ∈ Ts, w.before args s = true) (hin : ∀ w ∈ wsX00, w ∈ Ts) (hown : s.vm.findClass own = some m.cls) (hK : cK G s) (hP : va_P G.1 vwCl (dW G.2.1 α σ) H) (hl : (Cond.fieldLink own index "GrooveTurns$Disc" "blurs" "[I").before args s = true) (hdg : decode cc pc = .ok (.getfield index, 3)) (kk : W p l e R s m args below meth c H locs cells slots Q (F0 m (pc + 3) ls (.ref (α 3) :: rest))) : W p l e R s m args below meth c H locs cells slots Q (F0 m pc ls (.ref (α 0) :: rest)) :=
  va_get (D := G.1) (ci := 0) (v := .ref (α 3)) (C := RX0) (T := TX0) (N := 9) hx hb hts hin hown hK.1 hP 0 rfl rfl 2 (by decide) hl (fun _ h => h) rfl hdg kk
theorem get_D_writings {σ : DS} (hx : p.tables.exec = Jvm.exec) (hb : c.code = cc) (hts : ∀ w ∈ Ts, w.before args s = true) (hin : ∀ w ∈ wsX00, w ∈ Ts) (hown : s.vm.findClass own = some m.cls) (hK : cK G s) (hP : va_P G.1 vwCl (dW G.2.1 α σ) H) (hl : (Cond.fieldLink own index "GrooveTurns$Disc" "writings" "[I").before args s = true) (hdg : decode cc pc = .ok (.getfield index, 3)) (kk : W p l e R s m args below meth c H locs cells slots Q (F0 m (pc + 3) ls (.ref (α 4) :: rest))) : W p l e R s m args below meth c H locs cells slots Q (F0 m pc ls (.ref (α 0) :: rest)) :=
  va_get (D := G.1) (ci := 0) (v := .ref (α 4)) (C := RX0) (T := TX0) (N := 9) hx hb hts hin hown hK.1 hP 0 rfl rfl 3 (by decide) hl (fun _ h => h) rfl hdg kk
theorem get_D_sectors {σ : DS} (hx : p.tables.exec = Jvm.exec) (hb : c.code = cc) (hts : ∀ w ∈ Ts, w.before args s = true) (hin : ∀ w ∈ wsX00, w ∈ Ts) (hown : s.vm.findClass own = some m.cls) (hK : cK G s) (hP : va_P G.1 vwCl (dW G.2.1 α σ) H) (hl : (Cond.fieldLink own index "GrooveTurns$Disc" "sectors" "[I").before args s = true) (hdg : decode cc pc = .ok (.getfield index, 3)) (kk : W p l e R s m args below meth c H locs cells slots Q (F0 m (pc + 3) ls (.ref (α 5) :: rest))) : W p l e R s m args below meth c H locs cells slots Q (F0 m pc ls (.ref (α 0) :: rest)) :=
  va_get (D := G.1) (ci := 0) (v := .ref (α 5)) (C := RX0) (T := TX0) (N := 9) hx hb hts hin hown hK.1 hP 0 rfl rfl 4 (by decide) hl (fun _ h => h) rfl hdg kk
theorem get_D_sparesTaken {σ : DS} (hx : p.tables.exec = Jvm.exec) (hb : c.code = cc) (hts : ∀ w ∈ Ts, w.before args s = true) (hin : ∀ w ∈ wsX00, w ∈ Ts) (hown : s.vm.findClass own = some m.cls) (hK : cK G s) (hP : va_P G.1 vwCl (dW G.2.1 α σ) H) (hl : (Cond.fieldLink own index "GrooveTurns$Disc" "sparesTaken" "I").before args s = true) (hdg : decode cc pc = .ok (.getfield index, 3)) (kk : W p l e R s m args below meth c H locs cells slots Q (F0 m (pc + 3) ls (.int (d_sp σ) :: rest))) : W p l e R s m args below meth c H locs cells slots Q (F0 m pc ls (.ref (α 0) :: rest)) :=
  va_get (D := G.1) (ci := 0) (v := .int (d_sp σ)) (C := RX0) (T := TX0) (N := 9) hx hb hts hin hown hK.1 hP 0 rfl rfl 5 (by decide) hl (fun _ h => h) rfl hdg kk
theorem put_D_sparesTaken {σ : DS} {v : Int32} (hx : p.tables.exec = Jvm.exec) (hb : c.code = cc) (hts : ∀ w ∈ Ts, w.before args s = true) (hin : ∀ w ∈ wsX00, w ∈ Ts) (hown : s.vm.findClass own = some m.cls) (hK : cK G s) (hP : va_P G.1 vwCl (dW G.2.1 α σ) H) (hD : va_D A (dW G.2.1 α σ)) (hS : va_S A H0 H locs) (hl : (Cond.fieldLink own index "GrooveTurns$Disc" "sparesTaken" "I").before args s = true) (hdg : decode cc pc = .ok (.putfield index, 3)) (kk : ∀ (H1 : Heap) (locs1 : List Loc), va_P G.1 vwCl (dW G.2.1 α (d_sp' σ v)) H1 → va_D A (dW G.2.1 α (d_sp' σ v)) → va_S A H0 H1 locs1 → W p l e R s m args below meth c H1 locs1 cells slots Q (F0 m (pc + 3) ls rest)) : W p l e R s m args below meth c H locs cells slots Q (F0 m pc ls (.int v :: .ref (α 0) :: rest)) :=
  va_put (D := G.1) (ci := 0) (v := .int v) (ty := .int) (C := RX0) (T := TX0) (N := 9) hx hb hts hin tyX0 tyX0_ok nmX0 hown hK.1 hP hD hS 0 rfl rfl 5 (by decide) hl (fun _ h => h) rfl (by decide +kernel) rfl rfl (Nat.le_of_ble_eq_true rfl) hdg kk
theorem get_D_reads {σ : DS} (hx : p.tables.exec = Jvm.exec) (hb : c.code = cc) (hts : ∀ w ∈ Ts, w.before args s = true) (hin : ∀ w ∈ wsX00, w ∈ Ts) (hown : s.vm.findClass own = some m.cls) (hK : cK G s) (hP : va_P G.1 vwCl (dW G.2.1 α σ) H) (hl : (Cond.fieldLink own index "GrooveTurns$Disc" "reads" "I").before args s = true) (hdg : decode cc pc = .ok (.getfield index, 3)) (kk : W p l e R s m args below meth c H locs cells slots Q (F0 m (pc + 3) ls (.int (d_rd σ) :: rest))) : W p l e R s m args below meth c H locs cells slots Q (F0 m pc ls (.ref (α 0) :: rest)) :=
  va_get (D := G.1) (ci := 0) (v := .int (d_rd σ)) (C := RX0) (T := TX0) (N := 9) hx hb hts hin hown hK.1 hP 0 rfl rfl 6 (by decide) hl (fun _ h => h) rfl hdg kk
theorem put_D_reads {σ : DS} {v : Int32} (hx : p.tables.exec = Jvm.exec) (hb : c.code = cc) (hts : ∀ w ∈ Ts, w.before args s = true) (hin : ∀ w ∈ wsX00, w ∈ Ts) (hown : s.vm.findClass own = some m.cls) (hK : cK G s) (hP : va_P G.1 vwCl (dW G.2.1 α σ) H) (hD : va_D A (dW G.2.1 α σ)) (hS : va_S A H0 H locs) (hl : (Cond.fieldLink own index "GrooveTurns$Disc" "reads" "I").before args s = true) (hdg : decode cc pc = .ok (.putfield index, 3)) (kk : ∀ (H1 : Heap) (locs1 : List Loc), va_P G.1 vwCl (dW G.2.1 α (d_rd' σ v)) H1 → va_D A (dW G.2.1 α (d_rd' σ v)) → va_S A H0 H1 locs1 → W p l e R s m args below meth c H1 locs1 cells slots Q (F0 m (pc + 3) ls rest)) : W p l e R s m args below meth c H locs cells slots Q (F0 m pc ls (.int v :: .ref (α 0) :: rest)) :=
  va_put (D := G.1) (ci := 0) (v := .int v) (ty := .int) (C := RX0) (T := TX0) (N := 9) hx hb hts hin tyX0 tyX0_ok nmX0 hown hK.1 hP hD hS 0 rfl rfl 6 (by decide) hl (fun _ h => h) rfl (by decide +kernel) rfl rfl (Nat.le_of_ble_eq_true rfl) hdg kk
theorem get_D_ticks {σ : DS} (hx : p.tables.exec = Jvm.exec) (hb : c.code = cc) (hts : ∀ w ∈ Ts, w.before args s = true) (hin : ∀ w ∈ wsX00, w ∈ Ts) (hown : s.vm.findClass own = some m.cls) (hK : cK G s) (hP : va_P G.1 vwCl (dW G.2.1 α σ) H) (hl : (Cond.fieldLink own index "GrooveTurns$Disc" "ticks" "I").before args s = true) (hdg : decode cc pc = .ok (.getfield index, 3)) (kk : W p l e R s m args below meth c H locs cells slots Q (F0 m (pc + 3) ls (.int (d_tk σ) :: rest))) : W p l e R s m args below meth c H locs cells slots Q (F0 m pc ls (.ref (α 0) :: rest)) :=
  va_get (D := G.1) (ci := 0) (v := .int (d_tk σ)) (C := RX0) (T := TX0) (N := 9) hx hb hts hin hown hK.1 hP 0 rfl rfl 7 (by decide) hl (fun _ h => h) rfl hdg kk
theorem put_D_ticks {σ : DS} {v : Int32} (hx : p.tables.exec = Jvm.exec) (hb : c.code = cc) (hts : ∀ w ∈ Ts, w.before args s = true) (hin : ∀ w ∈ wsX00, w ∈ Ts) (hown : s.vm.findClass own = some m.cls) (hK : cK G s) (hP : va_P G.1 vwCl (dW G.2.1 α σ) H) (hD : va_D A (dW G.2.1 α σ)) (hS : va_S A H0 H locs) (hl : (Cond.fieldLink own index "GrooveTurns$Disc" "ticks" "I").before args s = true) (hdg : decode cc pc = .ok (.putfield index, 3)) (kk : ∀ (H1 : Heap) (locs1 : List Loc), va_P G.1 vwCl (dW G.2.1 α (d_tk' σ v)) H1 → va_D A (dW G.2.1 α (d_tk' σ v)) → va_S A H0 H1 locs1 → W p l e R s m args below meth c H1 locs1 cells slots Q (F0 m (pc + 3) ls rest)) : W p l e R s m args below meth c H locs cells slots Q (F0 m pc ls (.int v :: .ref (α 0) :: rest)) :=
  va_put (D := G.1) (ci := 0) (v := .int v) (ty := .int) (C := RX0) (T := TX0) (N := 9) hx hb hts hin tyX0 tyX0_ok nmX0 hown hK.1 hP hD hS 0 rfl rfl 7 (by decide) hl (fun _ h => h) rfl (by decide +kernel) rfl rfl (Nat.le_of_ble_eq_true rfl) hdg kk
theorem get_D_head {σ : DS} (hx : p.tables.exec = Jvm.exec) (hb : c.code = cc) (hts : ∀ w ∈ Ts, w.before args s = true) (hin : ∀ w ∈ wsX00, w ∈ Ts) (hown : s.vm.findClass own = some m.cls) (hK : cK G s) (hP : va_P G.1 vwCl (dW G.2.1 α σ) H) (hl : (Cond.fieldLink own index "GrooveTurns$Disc" "head" "I").before args s = true) (hdg : decode cc pc = .ok (.getfield index, 3)) (kk : W p l e R s m args below meth c H locs cells slots Q (F0 m (pc + 3) ls (.int (d_hd σ) :: rest))) : W p l e R s m args below meth c H locs cells slots Q (F0 m pc ls (.ref (α 0) :: rest)) :=
  va_get (D := G.1) (ci := 0) (v := .int (d_hd σ)) (C := RX0) (T := TX0) (N := 9) hx hb hts hin hown hK.1 hP 0 rfl rfl 8 (by decide) hl (fun _ h => h) rfl hdg kk
theorem put_D_head {σ : DS} {v : Int32} (hx : p.tables.exec = Jvm.exec) (hb : c.code = cc) (hts : ∀ w ∈ Ts, w.before args s = true) (hin : ∀ w ∈ wsX00, w ∈ Ts) (hown : s.vm.findClass own = some m.cls) (hK : cK G s) (hP : va_P G.1 vwCl (dW G.2.1 α σ) H) (hD : va_D A (dW G.2.1 α σ)) (hS : va_S A H0 H locs) (hl : (Cond.fieldLink own index "GrooveTurns$Disc" "head" "I").before args s = true) (hdg : decode cc pc = .ok (.putfield index, 3)) (kk : ∀ (H1 : Heap) (locs1 : List Loc), va_P G.1 vwCl (dW G.2.1 α (d_hd' σ v)) H1 → va_D A (dW G.2.1 α (d_hd' σ v)) → va_S A H0 H1 locs1 → W p l e R s m args below meth c H1 locs1 cells slots Q (F0 m (pc + 3) ls rest)) : W p l e R s m args below meth c H locs cells slots Q (F0 m pc ls (.int v :: .ref (α 0) :: rest)) :=
  va_put (D := G.1) (ci := 0) (v := .int v) (ty := .int) (C := RX0) (T := TX0) (N := 9) hx hb hts hin tyX0 tyX0_ok nmX0 hown hK.1 hP hD hS 0 rfl rfl 8 (by decide) hl (fun _ h => h) rfl (by decide +kernel) rfl rfl (Nat.le_of_ble_eq_true rfl) hdg kk
theorem ld_D_st {σ : DS} {i : Int32} (hx : p.tables.exec = Jvm.exec) (hb : c.code = cc) (hK : cK G s) (hP : va_P G.1 vwCl (dW G.2.1 α σ) H) (hi : vp_in i 5) (hdg : decode cc pc = .ok (.iaload, 1)) (kk : W p l e R s m args below meth c H locs cells slots Q (F0 m (pc + 1) ls (.int (d_st σ i.toNatClampNeg) :: rest))) : W p l e R s m args below meth c H locs cells slots Q (F0 m pc ls (.int i :: .ref (α 1) :: rest)) :=
  va_iald (cA := G.2.1) (n := 5) (f := d_st σ) hx hb hK.1 hP 1 0 rfl rfl hi hdg kk
theorem st_D_st {σ : DS} {i x : Int32} (hx : p.tables.exec = Jvm.exec) (hb : c.code = cc) (hK : cK G s) (hP : va_P G.1 vwCl (dW G.2.1 α σ) H) (hD : va_D A (dW G.2.1 α σ)) (hS : va_S A H0 H locs) (hi : vp_in i 5) (hdg : decode cc pc = .ok (.iastore, 1)) (kk : ∀ (H1 : Heap) (locs1 : List Loc), va_P G.1 vwCl (dW G.2.1 α (d_st' σ (upd (d_st σ) i.toNatClampNeg x))) H1 → va_D A (dW G.2.1 α (d_st' σ (upd (d_st σ) i.toNatClampNeg x))) → va_S A H0 H1 locs1 → W p l e R s m args below meth c H1 locs1 cells slots Q (F0 m (pc + 1) ls rest)) : W p l e R s m args below meth c H locs cells slots Q (F0 m pc ls (.int x :: .int i :: .ref (α 1) :: rest)) :=
  va_iast (cA := G.2.1) (n := 5) (f := d_st σ) hx hb hK.1 hP hD hS 1 0 rfl rfl hi hdg kk
theorem cell_D_st {σ : DS} {D : va_G} {cl : List vw_C} {cI : ClassId} (hP : va_P D cl (dW cI α σ) H) : va_P D cl (aW cI (α 1) 5 (d_st σ)) H := hP.sub [1] rfl
theorem pset_D_st (cI : ClassId) (α : Nat → Nat) (σ : DS) (f : NI) : pset (dW cI α σ) [1] (aW cI (α 1) 5 f) = dW cI α (d_st' σ f) := rfl
theorem pl_D_st (cI : ClassId) (α : Nat → Nat) (σ : DS) : [1].map (fun i => (dW cI α σ)[i]?) = (aW cI (α 1) 5 (d_st σ)).map some := rfl
theorem pf_D_st (cI : ClassId) (α : Nat → Nat) (σ : DS) : [1].filterMap (fun i => (dW cI α σ)[i]?) = aW cI (α 1) 5 (d_st σ) := rfl
theorem ld_D_nu {σ : DS} {i : Int32} (hx : p.tables.exec = Jvm.exec) (hb : c.code = cc) (hK : cK G s) (hP : va_P G.1 vwCl (dW G.2.1 α σ) H) (hi : vp_in i 204) (hdg : decode cc pc = .ok (.iaload, 1)) (kk : W p l e R s m args below meth c H locs cells slots Q (F0 m (pc + 1) ls (.int (d_nu σ i.toNatClampNeg) :: rest))) : W p l e R s m args below meth c H locs cells slots Q (F0 m pc ls (.int i :: .ref (α 2) :: rest)) :=
  va_iald (cA := G.2.1) (n := 204) (f := d_nu σ) hx hb hK.1 hP 2 0 rfl rfl hi hdg kk
theorem st_D_nu {σ : DS} {i x : Int32} (hx : p.tables.exec = Jvm.exec) (hb : c.code = cc) (hK : cK G s) (hP : va_P G.1 vwCl (dW G.2.1 α σ) H) (hD : va_D A (dW G.2.1 α σ)) (hS : va_S A H0 H locs) (hi : vp_in i 204) (hdg : decode cc pc = .ok (.iastore, 1)) (kk : ∀ (H1 : Heap) (locs1 : List Loc), va_P G.1 vwCl (dW G.2.1 α (d_nu' σ (upd (d_nu σ) i.toNatClampNeg x))) H1 → va_D A (dW G.2.1 α (d_nu' σ (upd (d_nu σ) i.toNatClampNeg x))) → va_S A H0 H1 locs1 → W p l e R s m args below meth c H1 locs1 cells slots Q (F0 m (pc + 1) ls rest)) : W p l e R s m args below meth c H locs cells slots Q (F0 m pc ls (.int x :: .int i :: .ref (α 2) :: rest)) :=
  va_iast (cA := G.2.1) (n := 204) (f := d_nu σ) hx hb hK.1 hP hD hS 2 0 rfl rfl hi hdg kk
theorem cell_D_nu {σ : DS} {D : va_G} {cl : List vw_C} {cI : ClassId} (hP : va_P D cl (dW cI α σ) H) : va_P D cl (aW cI (α 2) 204 (d_nu σ)) H := hP.sub [2] rfl
theorem pset_D_nu (cI : ClassId) (α : Nat → Nat) (σ : DS) (f : NI) : pset (dW cI α σ) [2] (aW cI (α 2) 204 f) = dW cI α (d_nu' σ f) := rfl
theorem pl_D_nu (cI : ClassId) (α : Nat → Nat) (σ : DS) : [2].map (fun i => (dW cI α σ)[i]?) = (aW cI (α 2) 204 (d_nu σ)).map some := rfl
theorem pf_D_nu (cI : ClassId) (α : Nat → Nat) (σ : DS) : [2].filterMap (fun i => (dW cI α σ)[i]?) = aW cI (α 2) 204 (d_nu σ) := rfl
theorem ld_D_bl {σ : DS} {i : Int32} (hx : p.tables.exec = Jvm.exec) (hb : c.code = cc) (hK : cK G s) (hP : va_P G.1 vwCl (dW G.2.1 α σ) H) (hi : vp_in i 204) (hdg : decode cc pc = .ok (.iaload, 1)) (kk : W p l e R s m args below meth c H locs cells slots Q (F0 m (pc + 1) ls (.int (d_bl σ i.toNatClampNeg) :: rest))) : W p l e R s m args below meth c H locs cells slots Q (F0 m pc ls (.int i :: .ref (α 3) :: rest)) :=
  va_iald (cA := G.2.1) (n := 204) (f := d_bl σ) hx hb hK.1 hP 3 0 rfl rfl hi hdg kk
theorem st_D_bl {σ : DS} {i x : Int32} (hx : p.tables.exec = Jvm.exec) (hb : c.code = cc) (hK : cK G s) (hP : va_P G.1 vwCl (dW G.2.1 α σ) H) (hD : va_D A (dW G.2.1 α σ)) (hS : va_S A H0 H locs) (hi : vp_in i 204) (hdg : decode cc pc = .ok (.iastore, 1)) (kk : ∀ (H1 : Heap) (locs1 : List Loc), va_P G.1 vwCl (dW G.2.1 α (d_bl' σ (upd (d_bl σ) i.toNatClampNeg x))) H1 → va_D A (dW G.2.1 α (d_bl' σ (upd (d_bl σ) i.toNatClampNeg x))) → va_S A H0 H1 locs1 → W p l e R s m args below meth c H1 locs1 cells slots Q (F0 m (pc + 1) ls rest)) : W p l e R s m args below meth c H locs cells slots Q (F0 m pc ls (.int x :: .int i :: .ref (α 3) :: rest)) :=
  va_iast (cA := G.2.1) (n := 204) (f := d_bl σ) hx hb hK.1 hP hD hS 3 0 rfl rfl hi hdg kk
theorem cell_D_bl {σ : DS} {D : va_G} {cl : List vw_C} {cI : ClassId} (hP : va_P D cl (dW cI α σ) H) : va_P D cl (aW cI (α 3) 204 (d_bl σ)) H := hP.sub [3] rfl
theorem pset_D_bl (cI : ClassId) (α : Nat → Nat) (σ : DS) (f : NI) : pset (dW cI α σ) [3] (aW cI (α 3) 204 f) = dW cI α (d_bl' σ f) := rfl
theorem pl_D_bl (cI : ClassId) (α : Nat → Nat) (σ : DS) : [3].map (fun i => (dW cI α σ)[i]?) = (aW cI (α 3) 204 (d_bl σ)).map some := rfl
theorem pf_D_bl (cI : ClassId) (α : Nat → Nat) (σ : DS) : [3].filterMap (fun i => (dW cI α σ)[i]?) = aW cI (α 3) 204 (d_bl σ) := rfl
theorem ld_D_wr {σ : DS} {i : Int32} (hx : p.tables.exec = Jvm.exec) (hb : c.code = cc) (hK : cK G s) (hP : va_P G.1 vwCl (dW G.2.1 α σ) H) (hi : vp_in i 204) (hdg : decode cc pc = .ok (.iaload, 1)) (kk : W p l e R s m args below meth c H locs cells slots Q (F0 m (pc + 1) ls (.int (d_wr σ i.toNatClampNeg) :: rest))) : W p l e R s m args below meth c H locs cells slots Q (F0 m pc ls (.int i :: .ref (α 4) :: rest)) :=
  va_iald (cA := G.2.1) (n := 204) (f := d_wr σ) hx hb hK.1 hP 4 0 rfl rfl hi hdg kk
theorem st_D_wr {σ : DS} {i x : Int32} (hx : p.tables.exec = Jvm.exec) (hb : c.code = cc) (hK : cK G s) (hP : va_P G.1 vwCl (dW G.2.1 α σ) H) (hD : va_D A (dW G.2.1 α σ)) (hS : va_S A H0 H locs) (hi : vp_in i 204) (hdg : decode cc pc = .ok (.iastore, 1)) (kk : ∀ (H1 : Heap) (locs1 : List Loc), va_P G.1 vwCl (dW G.2.1 α (d_wr' σ (upd (d_wr σ) i.toNatClampNeg x))) H1 → va_D A (dW G.2.1 α (d_wr' σ (upd (d_wr σ) i.toNatClampNeg x))) → va_S A H0 H1 locs1 → W p l e R s m args below meth c H1 locs1 cells slots Q (F0 m (pc + 1) ls rest)) : W p l e R s m args below meth c H locs cells slots Q (F0 m pc ls (.int x :: .int i :: .ref (α 4) :: rest)) :=
  va_iast (cA := G.2.1) (n := 204) (f := d_wr σ) hx hb hK.1 hP hD hS 4 0 rfl rfl hi hdg kk
theorem cell_D_wr {σ : DS} {D : va_G} {cl : List vw_C} {cI : ClassId} (hP : va_P D cl (dW cI α σ) H) : va_P D cl (aW cI (α 4) 204 (d_wr σ)) H := hP.sub [4] rfl
theorem pset_D_wr (cI : ClassId) (α : Nat → Nat) (σ : DS) (f : NI) : pset (dW cI α σ) [4] (aW cI (α 4) 204 f) = dW cI α (d_wr' σ f) := rfl
theorem pl_D_wr (cI : ClassId) (α : Nat → Nat) (σ : DS) : [4].map (fun i => (dW cI α σ)[i]?) = (aW cI (α 4) 204 (d_wr σ)).map some := rfl
theorem pf_D_wr (cI : ClassId) (α : Nat → Nat) (σ : DS) : [4].filterMap (fun i => (dW cI α σ)[i]?) = aW cI (α 4) 204 (d_wr σ) := rfl
theorem ld_D_se {σ : DS} {i : Int32} (hx : p.tables.exec = Jvm.exec) (hb : c.code = cc) (hK : cK G s) (hP : va_P G.1 vwCl (dW G.2.1 α σ) H) (hi : vp_in i 192) (hdg : decode cc pc = .ok (.iaload, 1)) (kk : W p l e R s m args below meth c H locs cells slots Q (F0 m (pc + 1) ls (.int (d_se σ i.toNatClampNeg) :: rest))) : W p l e R s m args below meth c H locs cells slots Q (F0 m pc ls (.int i :: .ref (α 5) :: rest)) :=
  va_iald (cA := G.2.1) (n := 192) (f := d_se σ) hx hb hK.1 hP 5 0 rfl rfl hi hdg kk
theorem st_D_se {σ : DS} {i x : Int32} (hx : p.tables.exec = Jvm.exec) (hb : c.code = cc) (hK : cK G s) (hP : va_P G.1 vwCl (dW G.2.1 α σ) H) (hD : va_D A (dW G.2.1 α σ)) (hS : va_S A H0 H locs) (hi : vp_in i 192) (hdg : decode cc pc = .ok (.iastore, 1)) (kk : ∀ (H1 : Heap) (locs1 : List Loc), va_P G.1 vwCl (dW G.2.1 α (d_se' σ (upd (d_se σ) i.toNatClampNeg x))) H1 → va_D A (dW G.2.1 α (d_se' σ (upd (d_se σ) i.toNatClampNeg x))) → va_S A H0 H1 locs1 → W p l e R s m args below meth c H1 locs1 cells slots Q (F0 m (pc + 1) ls rest)) : W p l e R s m args below meth c H locs cells slots Q (F0 m pc ls (.int x :: .int i :: .ref (α 5) :: rest)) :=
  va_iast (cA := G.2.1) (n := 192) (f := d_se σ) hx hb hK.1 hP hD hS 5 0 rfl rfl hi hdg kk
theorem cell_D_se {σ : DS} {D : va_G} {cl : List vw_C} {cI : ClassId} (hP : va_P D cl (dW cI α σ) H) : va_P D cl (aW cI (α 5) 192 (d_se σ)) H := hP.sub [5] rfl
theorem pset_D_se (cI : ClassId) (α : Nat → Nat) (σ : DS) (f : NI) : pset (dW cI α σ) [5] (aW cI (α 5) 192 f) = dW cI α (d_se' σ f) := rfl
theorem pl_D_se (cI : ClassId) (α : Nat → Nat) (σ : DS) : [5].map (fun i => (dW cI α σ)[i]?) = (aW cI (α 5) 192 (d_se σ)).map some := rfl
theorem pf_D_se (cI : ClassId) (α : Nat → Nat) (σ : DS) : [5].filterMap (fun i => (dW cI α σ)[i]?) = aW cI (α 5) 192 (d_se σ) := rfl
theorem fst_M {c : ClassId} {α : Nat → Nat} (σ τ : MS) : (mW c α τ).map (·.1) = (mW c α σ).map (·.1) := rfl
theorem rcv_M {σ : MS} (hK : cK G s) (hP : va_P G.1 vwCl (mW G.2.1 α σ) H) : ∃ cell : Cell, H[α 0]? = some cell ∧ cell.vm.isStatics = false ∧ s.vm.findClass RX5 = some cell.cls := va_recv hK.1 hP (ci := 5) (q0 := 0) rfl rfl
theorem get_M_all {σ : MS} (hx : p.tables.exec = Jvm.exec) (hb : c.code = cc) (hts : ∀ w ∈ Ts, w.before args s = true) (hin : ∀ w ∈ wsX50, w ∈ Ts) (hown : s.vm.findClass own = some m.cls) (hK : cK G s) (hP : va_P G.1 vwCl (mW G.2.1 α σ) H) (hl : (Cond.fieldLink own index "GrooveTurnsModel" "all" "[I").before args s = true) (hdg : decode cc pc = .ok (.getfield index, 3)) (kk : W p l e R s m args below meth c H locs cells slots Q (F0 m (pc + 3) ls (.ref (α 1) :: rest))) : W p l e R s m args below meth c H locs cells slots Q (F0 m pc ls (.ref (α 0) :: rest)) :=
  va_get (D := G.1) (ci := 5) (v := .ref (α 1)) (C := RX5) (T := TX5) (N := 14) hx hb hts hin hown hK.1 hP 0 rfl rfl 0 (by decide) hl (fun _ h => h) rfl hdg kk
theorem get_M_kept {σ : MS} (hx : p.tables.exec = Jvm.exec) (hb : c.code = cc) (hts : ∀ w ∈ Ts, w.before args s = true) (hin : ∀ w ∈ wsX50, w ∈ Ts) (hown : s.vm.findClass own = some m.cls) (hK : cK G s) (hP : va_P G.1 vwCl (mW G.2.1 α σ) H) (hl : (Cond.fieldLink own index "GrooveTurnsModel" "kept" "[I").before args s = true) (hdg : decode cc pc = .ok (.getfield index, 3)) (kk : W p l e R s m args below meth c H locs cells slots Q (F0 m (pc + 3) ls (.ref (α 2) :: rest))) : W p l e R s m args below meth c H locs cells slots Q (F0 m pc ls (.ref (α 0) :: rest)) :=
  va_get (D := G.1) (ci := 5) (v := .ref (α 2)) (C := RX5) (T := TX5) (N := 14) hx hb hts hin hown hK.1 hP 0 rfl rfl 1 (by decide) hl (fun _ h => h) rfl hdg kk
theorem get_M_history {σ : MS} (hx : p.tables.exec = Jvm.exec) (hb : c.code = cc) (hts : ∀ w ∈ Ts, w.before args s = true) (hin : ∀ w ∈ wsX50, w ∈ Ts) (hown : s.vm.findClass own = some m.cls) (hK : cK G s) (hP : va_P G.1 vwCl (mW G.2.1 α σ) H) (hl : (Cond.fieldLink own index "GrooveTurnsModel" "history" "[I").before args s = true) (hdg : decode cc pc = .ok (.getfield index, 3)) (kk : W p l e R s m args below meth c H locs cells slots Q (F0 m (pc + 3) ls (.ref (α 3) :: rest))) : W p l e R s m args below meth c H locs cells slots Q (F0 m pc ls (.ref (α 0) :: rest)) :=
  va_get (D := G.1) (ci := 5) (v := .ref (α 3)) (C := RX5) (T := TX5) (N := 14) hx hb hts hin hown hK.1 hP 0 rfl rfl 2 (by decide) hl (fun _ h => h) rfl hdg kk
theorem get_M_historyLong {σ : MS} (hx : p.tables.exec = Jvm.exec) (hb : c.code = cc) (hts : ∀ w ∈ Ts, w.before args s = true) (hin : ∀ w ∈ wsX50, w ∈ Ts) (hown : s.vm.findClass own = some m.cls) (hK : cK G s) (hP : va_P G.1 vwCl (mW G.2.1 α σ) H) (hl : (Cond.fieldLink own index "GrooveTurnsModel" "historyLong" "I").before args s = true) (hdg : decode cc pc = .ok (.getfield index, 3)) (kk : W p l e R s m args below meth c H locs cells slots Q (F0 m (pc + 3) ls (.int (m_hl σ) :: rest))) : W p l e R s m args below meth c H locs cells slots Q (F0 m pc ls (.ref (α 0) :: rest)) :=
  va_get (D := G.1) (ci := 5) (v := .int (m_hl σ)) (C := RX5) (T := TX5) (N := 14) hx hb hts hin hown hK.1 hP 0 rfl rfl 3 (by decide) hl (fun _ h => h) rfl hdg kk
theorem put_M_historyLong {σ : MS} {v : Int32} (hx : p.tables.exec = Jvm.exec) (hb : c.code = cc) (hts : ∀ w ∈ Ts, w.before args s = true) (hin : ∀ w ∈ wsX50, w ∈ Ts) (hown : s.vm.findClass own = some m.cls) (hK : cK G s) (hP : va_P G.1 vwCl (mW G.2.1 α σ) H) (hD : va_D A (mW G.2.1 α σ)) (hS : va_S A H0 H locs) (hl : (Cond.fieldLink own index "GrooveTurnsModel" "historyLong" "I").before args s = true) (hdg : decode cc pc = .ok (.putfield index, 3)) (kk : ∀ (H1 : Heap) (locs1 : List Loc), va_P G.1 vwCl (mW G.2.1 α (m_hl' σ v)) H1 → va_D A (mW G.2.1 α (m_hl' σ v)) → va_S A H0 H1 locs1 → W p l e R s m args below meth c H1 locs1 cells slots Q (F0 m (pc + 3) ls rest)) : W p l e R s m args below meth c H locs cells slots Q (F0 m pc ls (.int v :: .ref (α 0) :: rest)) :=
  va_put (D := G.1) (ci := 5) (v := .int v) (ty := .int) (C := RX5) (T := TX5) (N := 14) hx hb hts hin tyX5 tyX5_ok nmX5 hown hK.1 hP hD hS 0 rfl rfl 3 (by decide) hl (fun _ h => h) rfl (by decide +kernel) rfl rfl (Nat.le_of_ble_eq_true rfl) hdg kk
theorem get_M_slots {σ : MS} (hx : p.tables.exec = Jvm.exec) (hb : c.code = cc) (hts : ∀ w ∈ Ts, w.before args s = true) (hin : ∀ w ∈ wsX50, w ∈ Ts) (hown : s.vm.findClass own = some m.cls) (hK : cK G s) (hP : va_P G.1 vwCl (mW G.2.1 α σ) H) (hl : (Cond.fieldLink own index "GrooveTurnsModel" "slots" "[I").before args s = true) (hdg : decode cc pc = .ok (.getfield index, 3)) (kk : W p l e R s m args below meth c H locs cells slots Q (F0 m (pc + 3) ls (.ref (α 4) :: rest))) : W p l e R s m args below meth c H locs cells slots Q (F0 m pc ls (.ref (α 0) :: rest)) :=
  va_get (D := G.1) (ci := 5) (v := .ref (α 4)) (C := RX5) (T := TX5) (N := 14) hx hb hts hin hown hK.1 hP 0 rfl rfl 4 (by decide) hl (fun _ h => h) rfl hdg kk
theorem get_M_isSaved {σ : MS} (hx : p.tables.exec = Jvm.exec) (hb : c.code = cc) (hts : ∀ w ∈ Ts, w.before args s = true) (hin : ∀ w ∈ wsX50, w ∈ Ts) (hown : s.vm.findClass own = some m.cls) (hK : cK G s) (hP : va_P G.1 vwCl (mW G.2.1 α σ) H) (hl : (Cond.fieldLink own index "GrooveTurnsModel" "isSaved" "[I").before args s = true) (hdg : decode cc pc = .ok (.getfield index, 3)) (kk : W p l e R s m args below meth c H locs cells slots Q (F0 m (pc + 3) ls (.ref (α 5) :: rest))) : W p l e R s m args below meth c H locs cells slots Q (F0 m pc ls (.ref (α 0) :: rest)) :=
  va_get (D := G.1) (ci := 5) (v := .ref (α 5)) (C := RX5) (T := TX5) (N := 14) hx hb hts hin hown hK.1 hP 0 rfl rfl 5 (by decide) hl (fun _ h => h) rfl hdg kk
theorem get_M_text {σ : MS} (hx : p.tables.exec = Jvm.exec) (hb : c.code = cc) (hts : ∀ w ∈ Ts, w.before args s = true) (hin : ∀ w ∈ wsX50, w ∈ Ts) (hown : s.vm.findClass own = some m.cls) (hK : cK G s) (hP : va_P G.1 vwCl (mW G.2.1 α σ) H) (hl : (Cond.fieldLink own index "GrooveTurnsModel" "text" "[I").before args s = true) (hdg : decode cc pc = .ok (.getfield index, 3)) (kk : W p l e R s m args below meth c H locs cells slots Q (F0 m (pc + 3) ls (.ref (α 6) :: rest))) : W p l e R s m args below meth c H locs cells slots Q (F0 m pc ls (.ref (α 0) :: rest)) :=
  va_get (D := G.1) (ci := 5) (v := .ref (α 6)) (C := RX5) (T := TX5) (N := 14) hx hb hts hin hown hK.1 hP 0 rfl rfl 6 (by decide) hl (fun _ h => h) rfl hdg kk
theorem get_M_textLong {σ : MS} (hx : p.tables.exec = Jvm.exec) (hb : c.code = cc) (hts : ∀ w ∈ Ts, w.before args s = true) (hin : ∀ w ∈ wsX50, w ∈ Ts) (hown : s.vm.findClass own = some m.cls) (hK : cK G s) (hP : va_P G.1 vwCl (mW G.2.1 α σ) H) (hl : (Cond.fieldLink own index "GrooveTurnsModel" "textLong" "I").before args s = true) (hdg : decode cc pc = .ok (.getfield index, 3)) (kk : W p l e R s m args below meth c H locs cells slots Q (F0 m (pc + 3) ls (.int (m_tl σ) :: rest))) : W p l e R s m args below meth c H locs cells slots Q (F0 m pc ls (.ref (α 0) :: rest)) :=
  va_get (D := G.1) (ci := 5) (v := .int (m_tl σ)) (C := RX5) (T := TX5) (N := 14) hx hb hts hin hown hK.1 hP 0 rfl rfl 7 (by decide) hl (fun _ h => h) rfl hdg kk
theorem put_M_textLong {σ : MS} {v : Int32} (hx : p.tables.exec = Jvm.exec) (hb : c.code = cc) (hts : ∀ w ∈ Ts, w.before args s = true) (hin : ∀ w ∈ wsX50, w ∈ Ts) (hown : s.vm.findClass own = some m.cls) (hK : cK G s) (hP : va_P G.1 vwCl (mW G.2.1 α σ) H) (hD : va_D A (mW G.2.1 α σ)) (hS : va_S A H0 H locs) (hl : (Cond.fieldLink own index "GrooveTurnsModel" "textLong" "I").before args s = true) (hdg : decode cc pc = .ok (.putfield index, 3)) (kk : ∀ (H1 : Heap) (locs1 : List Loc), va_P G.1 vwCl (mW G.2.1 α (m_tl' σ v)) H1 → va_D A (mW G.2.1 α (m_tl' σ v)) → va_S A H0 H1 locs1 → W p l e R s m args below meth c H1 locs1 cells slots Q (F0 m (pc + 3) ls rest)) : W p l e R s m args below meth c H locs cells slots Q (F0 m pc ls (.int v :: .ref (α 0) :: rest)) :=
  va_put (D := G.1) (ci := 5) (v := .int v) (ty := .int) (C := RX5) (T := TX5) (N := 14) hx hb hts hin tyX5 tyX5_ok nmX5 hown hK.1 hP hD hS 0 rfl rfl 7 (by decide) hl (fun _ h => h) rfl (by decide +kernel) rfl rfl (Nat.le_of_ble_eq_true rfl) hdg kk
theorem get_M_spot {σ : MS} (hx : p.tables.exec = Jvm.exec) (hb : c.code = cc) (hts : ∀ w ∈ Ts, w.before args s = true) (hin : ∀ w ∈ wsX50, w ∈ Ts) (hown : s.vm.findClass own = some m.cls) (hK : cK G s) (hP : va_P G.1 vwCl (mW G.2.1 α σ) H) (hl : (Cond.fieldLink own index "GrooveTurnsModel" "spot" "I").before args s = true) (hdg : decode cc pc = .ok (.getfield index, 3)) (kk : W p l e R s m args below meth c H locs cells slots Q (F0 m (pc + 3) ls (.int (m_so σ) :: rest))) : W p l e R s m args below meth c H locs cells slots Q (F0 m pc ls (.ref (α 0) :: rest)) :=
  va_get (D := G.1) (ci := 5) (v := .int (m_so σ)) (C := RX5) (T := TX5) (N := 14) hx hb hts hin hown hK.1 hP 0 rfl rfl 8 (by decide) hl (fun _ h => h) rfl hdg kk
theorem put_M_spot {σ : MS} {v : Int32} (hx : p.tables.exec = Jvm.exec) (hb : c.code = cc) (hts : ∀ w ∈ Ts, w.before args s = true) (hin : ∀ w ∈ wsX50, w ∈ Ts) (hown : s.vm.findClass own = some m.cls) (hK : cK G s) (hP : va_P G.1 vwCl (mW G.2.1 α σ) H) (hD : va_D A (mW G.2.1 α σ)) (hS : va_S A H0 H locs) (hl : (Cond.fieldLink own index "GrooveTurnsModel" "spot" "I").before args s = true) (hdg : decode cc pc = .ok (.putfield index, 3)) (kk : ∀ (H1 : Heap) (locs1 : List Loc), va_P G.1 vwCl (mW G.2.1 α (m_so' σ v)) H1 → va_D A (mW G.2.1 α (m_so' σ v)) → va_S A H0 H1 locs1 → W p l e R s m args below meth c H1 locs1 cells slots Q (F0 m (pc + 3) ls rest)) : W p l e R s m args below meth c H locs cells slots Q (F0 m pc ls (.int v :: .ref (α 0) :: rest)) :=
  va_put (D := G.1) (ci := 5) (v := .int v) (ty := .int) (C := RX5) (T := TX5) (N := 14) hx hb hts hin tyX5 tyX5_ok nmX5 hown hK.1 hP hD hS 0 rfl rfl 8 (by decide) hl (fun _ h => h) rfl (by decide +kernel) rfl rfl (Nat.le_of_ble_eq_true rfl) hdg kk
theorem get_M_number {σ : MS} (hx : p.tables.exec = Jvm.exec) (hb : c.code = cc) (hts : ∀ w ∈ Ts, w.before args s = true) (hin : ∀ w ∈ wsX50, w ∈ Ts) (hown : s.vm.findClass own = some m.cls) (hK : cK G s) (hP : va_P G.1 vwCl (mW G.2.1 α σ) H) (hl : (Cond.fieldLink own index "GrooveTurnsModel" "number" "I").before args s = true) (hdg : decode cc pc = .ok (.getfield index, 3)) (kk : W p l e R s m args below meth c H locs cells slots Q (F0 m (pc + 3) ls (.int (m_nm σ) :: rest))) : W p l e R s m args below meth c H locs cells slots Q (F0 m pc ls (.ref (α 0) :: rest)) :=
  va_get (D := G.1) (ci := 5) (v := .int (m_nm σ)) (C := RX5) (T := TX5) (N := 14) hx hb hts hin hown hK.1 hP 0 rfl rfl 9 (by decide) hl (fun _ h => h) rfl hdg kk
theorem put_M_number {σ : MS} {v : Int32} (hx : p.tables.exec = Jvm.exec) (hb : c.code = cc) (hts : ∀ w ∈ Ts, w.before args s = true) (hin : ∀ w ∈ wsX50, w ∈ Ts) (hown : s.vm.findClass own = some m.cls) (hK : cK G s) (hP : va_P G.1 vwCl (mW G.2.1 α σ) H) (hD : va_D A (mW G.2.1 α σ)) (hS : va_S A H0 H locs) (hl : (Cond.fieldLink own index "GrooveTurnsModel" "number" "I").before args s = true) (hdg : decode cc pc = .ok (.putfield index, 3)) (kk : ∀ (H1 : Heap) (locs1 : List Loc), va_P G.1 vwCl (mW G.2.1 α (m_nm' σ v)) H1 → va_D A (mW G.2.1 α (m_nm' σ v)) → va_S A H0 H1 locs1 → W p l e R s m args below meth c H1 locs1 cells slots Q (F0 m (pc + 3) ls rest)) : W p l e R s m args below meth c H locs cells slots Q (F0 m pc ls (.int v :: .ref (α 0) :: rest)) :=
  va_put (D := G.1) (ci := 5) (v := .int v) (ty := .int) (C := RX5) (T := TX5) (N := 14) hx hb hts hin tyX5 tyX5_ok nmX5 hown hK.1 hP hD hS 0 rfl rfl 9 (by decide) hl (fun _ h => h) rfl (by decide +kernel) rfl rfl (Nat.le_of_ble_eq_true rfl) hdg kk
theorem get_M_asked {σ : MS} (hx : p.tables.exec = Jvm.exec) (hb : c.code = cc) (hts : ∀ w ∈ Ts, w.before args s = true) (hin : ∀ w ∈ wsX50, w ∈ Ts) (hown : s.vm.findClass own = some m.cls) (hK : cK G s) (hP : va_P G.1 vwCl (mW G.2.1 α σ) H) (hl : (Cond.fieldLink own index "GrooveTurnsModel" "asked" "[I").before args s = true) (hdg : decode cc pc = .ok (.getfield index, 3)) (kk : W p l e R s m args below meth c H locs cells slots Q (F0 m (pc + 3) ls (.ref (α 7) :: rest))) : W p l e R s m args below meth c H locs cells slots Q (F0 m pc ls (.ref (α 0) :: rest)) :=
  va_get (D := G.1) (ci := 5) (v := .ref (α 7)) (C := RX5) (T := TX5) (N := 14) hx hb hts hin hown hK.1 hP 0 rfl rfl 10 (by decide) hl (fun _ h => h) rfl hdg kk
theorem get_M_numbers {σ : MS} (hx : p.tables.exec = Jvm.exec) (hb : c.code = cc) (hts : ∀ w ∈ Ts, w.before args s = true) (hin : ∀ w ∈ wsX50, w ∈ Ts) (hown : s.vm.findClass own = some m.cls) (hK : cK G s) (hP : va_P G.1 vwCl (mW G.2.1 α σ) H) (hl : (Cond.fieldLink own index "GrooveTurnsModel" "numbers" "[I").before args s = true) (hdg : decode cc pc = .ok (.getfield index, 3)) (kk : W p l e R s m args below meth c H locs cells slots Q (F0 m (pc + 3) ls (.ref (α 8) :: rest))) : W p l e R s m args below meth c H locs cells slots Q (F0 m pc ls (.ref (α 0) :: rest)) :=
  va_get (D := G.1) (ci := 5) (v := .ref (α 8)) (C := RX5) (T := TX5) (N := 14) hx hb hts hin hown hK.1 hP 0 rfl rfl 11 (by decide) hl (fun _ h => h) rfl hdg kk
theorem get_M_trackOf {σ : MS} (hx : p.tables.exec = Jvm.exec) (hb : c.code = cc) (hts : ∀ w ∈ Ts, w.before args s = true) (hin : ∀ w ∈ wsX50, w ∈ Ts) (hown : s.vm.findClass own = some m.cls) (hK : cK G s) (hP : va_P G.1 vwCl (mW G.2.1 α σ) H) (hl : (Cond.fieldLink own index "GrooveTurnsModel" "trackOf" "[I").before args s = true) (hdg : decode cc pc = .ok (.getfield index, 3)) (kk : W p l e R s m args below meth c H locs cells slots Q (F0 m (pc + 3) ls (.ref (α 9) :: rest))) : W p l e R s m args below meth c H locs cells slots Q (F0 m pc ls (.ref (α 0) :: rest)) :=
  va_get (D := G.1) (ci := 5) (v := .ref (α 9)) (C := RX5) (T := TX5) (N := 14) hx hb hts hin hown hK.1 hP 0 rfl rfl 12 (by decide) hl (fun _ h => h) rfl hdg kk
theorem get_M_requests {σ : MS} (hx : p.tables.exec = Jvm.exec) (hb : c.code = cc) (hts : ∀ w ∈ Ts, w.before args s = true) (hin : ∀ w ∈ wsX50, w ∈ Ts) (hown : s.vm.findClass own = some m.cls) (hK : cK G s) (hP : va_P G.1 vwCl (mW G.2.1 α σ) H) (hl : (Cond.fieldLink own index "GrooveTurnsModel" "requests" "I").before args s = true) (hdg : decode cc pc = .ok (.getfield index, 3)) (kk : W p l e R s m args below meth c H locs cells slots Q (F0 m (pc + 3) ls (.int (m_rq σ) :: rest))) : W p l e R s m args below meth c H locs cells slots Q (F0 m pc ls (.ref (α 0) :: rest)) :=
  va_get (D := G.1) (ci := 5) (v := .int (m_rq σ)) (C := RX5) (T := TX5) (N := 14) hx hb hts hin hown hK.1 hP 0 rfl rfl 13 (by decide) hl (fun _ h => h) rfl hdg kk
theorem put_M_requests {σ : MS} {v : Int32} (hx : p.tables.exec = Jvm.exec) (hb : c.code = cc) (hts : ∀ w ∈ Ts, w.before args s = true) (hin : ∀ w ∈ wsX50, w ∈ Ts) (hown : s.vm.findClass own = some m.cls) (hK : cK G s) (hP : va_P G.1 vwCl (mW G.2.1 α σ) H) (hD : va_D A (mW G.2.1 α σ)) (hS : va_S A H0 H locs) (hl : (Cond.fieldLink own index "GrooveTurnsModel" "requests" "I").before args s = true) (hdg : decode cc pc = .ok (.putfield index, 3)) (kk : ∀ (H1 : Heap) (locs1 : List Loc), va_P G.1 vwCl (mW G.2.1 α (m_rq' σ v)) H1 → va_D A (mW G.2.1 α (m_rq' σ v)) → va_S A H0 H1 locs1 → W p l e R s m args below meth c H1 locs1 cells slots Q (F0 m (pc + 3) ls rest)) : W p l e R s m args below meth c H locs cells slots Q (F0 m pc ls (.int v :: .ref (α 0) :: rest)) :=
  va_put (D := G.1) (ci := 5) (v := .int v) (ty := .int) (C := RX5) (T := TX5) (N := 14) hx hb hts hin tyX5 tyX5_ok nmX5 hown hK.1 hP hD hS 0 rfl rfl 13 (by decide) hl (fun _ h => h) rfl (by decide +kernel) rfl rfl (Nat.le_of_ble_eq_true rfl) hdg kk
theorem ld_M_al {σ : MS} {i : Int32} (hx : p.tables.exec = Jvm.exec) (hb : c.code = cc) (hK : cK G s) (hP : va_P G.1 vwCl (mW G.2.1 α σ) H) (hi : vp_in i 816) (hdg : decode cc pc = .ok (.iaload, 1)) (kk : W p l e R s m args below meth c H locs cells slots Q (F0 m (pc + 1) ls (.int (m_al σ i.toNatClampNeg) :: rest))) : W p l e R s m args below meth c H locs cells slots Q (F0 m pc ls (.int i :: .ref (α 1) :: rest)) :=
  va_iald (cA := G.2.1) (n := 816) (f := m_al σ) hx hb hK.1 hP 1 0 rfl rfl hi hdg kk
theorem st_M_al {σ : MS} {i x : Int32} (hx : p.tables.exec = Jvm.exec) (hb : c.code = cc) (hK : cK G s) (hP : va_P G.1 vwCl (mW G.2.1 α σ) H) (hD : va_D A (mW G.2.1 α σ)) (hS : va_S A H0 H locs) (hi : vp_in i 816) (hdg : decode cc pc = .ok (.iastore, 1)) (kk : ∀ (H1 : Heap) (locs1 : List Loc), va_P G.1 vwCl (mW G.2.1 α (m_al' σ (upd (m_al σ) i.toNatClampNeg x))) H1 → va_D A (mW G.2.1 α (m_al' σ (upd (m_al σ) i.toNatClampNeg x))) → va_S A H0 H1 locs1 → W p l e R s m args below meth c H1 locs1 cells slots Q (F0 m (pc + 1) ls rest)) : W p l e R s m args below meth c H locs cells slots Q (F0 m pc ls (.int x :: .int i :: .ref (α 1) :: rest)) :=
  va_iast (cA := G.2.1) (n := 816) (f := m_al σ) hx hb hK.1 hP hD hS 1 0 rfl rfl hi hdg kk
theorem cell_M_al {σ : MS} {D : va_G} {cl : List vw_C} {cI : ClassId} (hP : va_P D cl (mW cI α σ) H) : va_P D cl (aW cI (α 1) 816 (m_al σ)) H := hP.sub [1] rfl
theorem pset_M_al (cI : ClassId) (α : Nat → Nat) (σ : MS) (f : NI) : pset (mW cI α σ) [1] (aW cI (α 1) 816 f) = mW cI α (m_al' σ f) := rfl
theorem pl_M_al (cI : ClassId) (α : Nat → Nat) (σ : MS) : [1].map (fun i => (mW cI α σ)[i]?) = (aW cI (α 1) 816 (m_al σ)).map some := rfl
theorem pf_M_al (cI : ClassId) (α : Nat → Nat) (σ : MS) : [1].filterMap (fun i => (mW cI α σ)[i]?) = aW cI (α 1) 816 (m_al σ) := rfl
theorem ld_M_ke {σ : MS} {i : Int32} (hx : p.tables.exec = Jvm.exec) (hb : c.code = cc) (hK : cK G s) (hP : va_P G.1 vwCl (mW G.2.1 α σ) H) (hi : vp_in i 816) (hdg : decode cc pc = .ok (.iaload, 1)) (kk : W p l e R s m args below meth c H locs cells slots Q (F0 m (pc + 1) ls (.int (m_ke σ i.toNatClampNeg) :: rest))) : W p l e R s m args below meth c H locs cells slots Q (F0 m pc ls (.int i :: .ref (α 2) :: rest)) :=
  va_iald (cA := G.2.1) (n := 816) (f := m_ke σ) hx hb hK.1 hP 2 0 rfl rfl hi hdg kk
theorem st_M_ke {σ : MS} {i x : Int32} (hx : p.tables.exec = Jvm.exec) (hb : c.code = cc) (hK : cK G s) (hP : va_P G.1 vwCl (mW G.2.1 α σ) H) (hD : va_D A (mW G.2.1 α σ)) (hS : va_S A H0 H locs) (hi : vp_in i 816) (hdg : decode cc pc = .ok (.iastore, 1)) (kk : ∀ (H1 : Heap) (locs1 : List Loc), va_P G.1 vwCl (mW G.2.1 α (m_ke' σ (upd (m_ke σ) i.toNatClampNeg x))) H1 → va_D A (mW G.2.1 α (m_ke' σ (upd (m_ke σ) i.toNatClampNeg x))) → va_S A H0 H1 locs1 → W p l e R s m args below meth c H1 locs1 cells slots Q (F0 m (pc + 1) ls rest)) : W p l e R s m args below meth c H locs cells slots Q (F0 m pc ls (.int x :: .int i :: .ref (α 2) :: rest)) :=
  va_iast (cA := G.2.1) (n := 816) (f := m_ke σ) hx hb hK.1 hP hD hS 2 0 rfl rfl hi hdg kk
theorem cell_M_ke {σ : MS} {D : va_G} {cl : List vw_C} {cI : ClassId} (hP : va_P D cl (mW cI α σ) H) : va_P D cl (aW cI (α 2) 816 (m_ke σ)) H := hP.sub [2] rfl
theorem pset_M_ke (cI : ClassId) (α : Nat → Nat) (σ : MS) (f : NI) : pset (mW cI α σ) [2] (aW cI (α 2) 816 f) = mW cI α (m_ke' σ f) := rfl
theorem pl_M_ke (cI : ClassId) (α : Nat → Nat) (σ : MS) : [2].map (fun i => (mW cI α σ)[i]?) = (aW cI (α 2) 816 (m_ke σ)).map some := rfl
theorem pf_M_ke (cI : ClassId) (α : Nat → Nat) (σ : MS) : [2].filterMap (fun i => (mW cI α σ)[i]?) = aW cI (α 2) 816 (m_ke σ) := rfl
theorem ld_M_hi {σ : MS} {i : Int32} (hx : p.tables.exec = Jvm.exec) (hb : c.code = cc) (hK : cK G s) (hP : va_P G.1 vwCl (mW G.2.1 α σ) H) (hi : vp_in i 4896) (hdg : decode cc pc = .ok (.iaload, 1)) (kk : W p l e R s m args below meth c H locs cells slots Q (F0 m (pc + 1) ls (.int (m_hi σ i.toNatClampNeg) :: rest))) : W p l e R s m args below meth c H locs cells slots Q (F0 m pc ls (.int i :: .ref (α 3) :: rest)) :=
  va_iald (cA := G.2.1) (n := 4896) (f := m_hi σ) hx hb hK.1 hP 3 0 rfl rfl hi hdg kk
theorem st_M_hi {σ : MS} {i x : Int32} (hx : p.tables.exec = Jvm.exec) (hb : c.code = cc) (hK : cK G s) (hP : va_P G.1 vwCl (mW G.2.1 α σ) H) (hD : va_D A (mW G.2.1 α σ)) (hS : va_S A H0 H locs) (hi : vp_in i 4896) (hdg : decode cc pc = .ok (.iastore, 1)) (kk : ∀ (H1 : Heap) (locs1 : List Loc), va_P G.1 vwCl (mW G.2.1 α (m_hi' σ (upd (m_hi σ) i.toNatClampNeg x))) H1 → va_D A (mW G.2.1 α (m_hi' σ (upd (m_hi σ) i.toNatClampNeg x))) → va_S A H0 H1 locs1 → W p l e R s m args below meth c H1 locs1 cells slots Q (F0 m (pc + 1) ls rest)) : W p l e R s m args below meth c H locs cells slots Q (F0 m pc ls (.int x :: .int i :: .ref (α 3) :: rest)) :=
  va_iast (cA := G.2.1) (n := 4896) (f := m_hi σ) hx hb hK.1 hP hD hS 3 0 rfl rfl hi hdg kk
theorem cell_M_hi {σ : MS} {D : va_G} {cl : List vw_C} {cI : ClassId} (hP : va_P D cl (mW cI α σ) H) : va_P D cl (aW cI (α 3) 4896 (m_hi σ)) H := hP.sub [3] rfl
theorem pset_M_hi (cI : ClassId) (α : Nat → Nat) (σ : MS) (f : NI) : pset (mW cI α σ) [3] (aW cI (α 3) 4896 f) = mW cI α (m_hi' σ f) := rfl
theorem pl_M_hi (cI : ClassId) (α : Nat → Nat) (σ : MS) : [3].map (fun i => (mW cI α σ)[i]?) = (aW cI (α 3) 4896 (m_hi σ)).map some := rfl
theorem pf_M_hi (cI : ClassId) (α : Nat → Nat) (σ : MS) : [3].filterMap (fun i => (mW cI α σ)[i]?) = aW cI (α 3) 4896 (m_hi σ) := rfl
theorem ld_M_sl {σ : MS} {i : Int32} (hx : p.tables.exec = Jvm.exec) (hb : c.code = cc) (hK : cK G s) (hP : va_P G.1 vwCl (mW G.2.1 α σ) H) (hi : vp_in i 1632) (hdg : decode cc pc = .ok (.iaload, 1)) (kk : W p l e R s m args below meth c H locs cells slots Q (F0 m (pc + 1) ls (.int (m_sl σ i.toNatClampNeg) :: rest))) : W p l e R s m args below meth c H locs cells slots Q (F0 m pc ls (.int i :: .ref (α 4) :: rest)) :=
  va_iald (cA := G.2.1) (n := 1632) (f := m_sl σ) hx hb hK.1 hP 4 0 rfl rfl hi hdg kk
theorem st_M_sl {σ : MS} {i x : Int32} (hx : p.tables.exec = Jvm.exec) (hb : c.code = cc) (hK : cK G s) (hP : va_P G.1 vwCl (mW G.2.1 α σ) H) (hD : va_D A (mW G.2.1 α σ)) (hS : va_S A H0 H locs) (hi : vp_in i 1632) (hdg : decode cc pc = .ok (.iastore, 1)) (kk : ∀ (H1 : Heap) (locs1 : List Loc), va_P G.1 vwCl (mW G.2.1 α (m_sl' σ (upd (m_sl σ) i.toNatClampNeg x))) H1 → va_D A (mW G.2.1 α (m_sl' σ (upd (m_sl σ) i.toNatClampNeg x))) → va_S A H0 H1 locs1 → W p l e R s m args below meth c H1 locs1 cells slots Q (F0 m (pc + 1) ls rest)) : W p l e R s m args below meth c H locs cells slots Q (F0 m pc ls (.int x :: .int i :: .ref (α 4) :: rest)) :=
  va_iast (cA := G.2.1) (n := 1632) (f := m_sl σ) hx hb hK.1 hP hD hS 4 0 rfl rfl hi hdg kk
theorem cell_M_sl {σ : MS} {D : va_G} {cl : List vw_C} {cI : ClassId} (hP : va_P D cl (mW cI α σ) H) : va_P D cl (aW cI (α 4) 1632 (m_sl σ)) H := hP.sub [4] rfl
theorem pset_M_sl (cI : ClassId) (α : Nat → Nat) (σ : MS) (f : NI) : pset (mW cI α σ) [4] (aW cI (α 4) 1632 f) = mW cI α (m_sl' σ f) := rfl
theorem pl_M_sl (cI : ClassId) (α : Nat → Nat) (σ : MS) : [4].map (fun i => (mW cI α σ)[i]?) = (aW cI (α 4) 1632 (m_sl σ)).map some := rfl
theorem pf_M_sl (cI : ClassId) (α : Nat → Nat) (σ : MS) : [4].filterMap (fun i => (mW cI α σ)[i]?) = aW cI (α 4) 1632 (m_sl σ) := rfl
theorem ld_M_sv {σ : MS} {i : Int32} (hx : p.tables.exec = Jvm.exec) (hb : c.code = cc) (hK : cK G s) (hP : va_P G.1 vwCl (mW G.2.1 α σ) H) (hi : vp_in i 2) (hdg : decode cc pc = .ok (.iaload, 1)) (kk : W p l e R s m args below meth c H locs cells slots Q (F0 m (pc + 1) ls (.int (m_sv σ i.toNatClampNeg) :: rest))) : W p l e R s m args below meth c H locs cells slots Q (F0 m pc ls (.int i :: .ref (α 5) :: rest)) :=
  va_iald (cA := G.2.1) (n := 2) (f := m_sv σ) hx hb hK.1 hP 5 0 rfl rfl hi hdg kk
theorem st_M_sv {σ : MS} {i x : Int32} (hx : p.tables.exec = Jvm.exec) (hb : c.code = cc) (hK : cK G s) (hP : va_P G.1 vwCl (mW G.2.1 α σ) H) (hD : va_D A (mW G.2.1 α σ)) (hS : va_S A H0 H locs) (hi : vp_in i 2) (hdg : decode cc pc = .ok (.iastore, 1)) (kk : ∀ (H1 : Heap) (locs1 : List Loc), va_P G.1 vwCl (mW G.2.1 α (m_sv' σ (upd (m_sv σ) i.toNatClampNeg x))) H1 → va_D A (mW G.2.1 α (m_sv' σ (upd (m_sv σ) i.toNatClampNeg x))) → va_S A H0 H1 locs1 → W p l e R s m args below meth c H1 locs1 cells slots Q (F0 m (pc + 1) ls rest)) : W p l e R s m args below meth c H locs cells slots Q (F0 m pc ls (.int x :: .int i :: .ref (α 5) :: rest)) :=
  va_iast (cA := G.2.1) (n := 2) (f := m_sv σ) hx hb hK.1 hP hD hS 5 0 rfl rfl hi hdg kk
theorem cell_M_sv {σ : MS} {D : va_G} {cl : List vw_C} {cI : ClassId} (hP : va_P D cl (mW cI α σ) H) : va_P D cl (aW cI (α 5) 2 (m_sv σ)) H := hP.sub [5] rfl
theorem pset_M_sv (cI : ClassId) (α : Nat → Nat) (σ : MS) (f : NI) : pset (mW cI α σ) [5] (aW cI (α 5) 2 f) = mW cI α (m_sv' σ f) := rfl
theorem pl_M_sv (cI : ClassId) (α : Nat → Nat) (σ : MS) : [5].map (fun i => (mW cI α σ)[i]?) = (aW cI (α 5) 2 (m_sv σ)).map some := rfl
theorem pf_M_sv (cI : ClassId) (α : Nat → Nat) (σ : MS) : [5].filterMap (fun i => (mW cI α σ)[i]?) = aW cI (α 5) 2 (m_sv σ) := rfl
theorem ld_M_tx {σ : MS} {i : Int32} (hx : p.tables.exec = Jvm.exec) (hb : c.code = cc) (hK : cK G s) (hP : va_P G.1 vwCl (mW G.2.1 α σ) H) (hi : vp_in i 60) (hdg : decode cc pc = .ok (.iaload, 1)) (kk : W p l e R s m args below meth c H locs cells slots Q (F0 m (pc + 1) ls (.int (m_tx σ i.toNatClampNeg) :: rest))) : W p l e R s m args below meth c H locs cells slots Q (F0 m pc ls (.int i :: .ref (α 6) :: rest)) :=
  va_iald (cA := G.2.1) (n := 60) (f := m_tx σ) hx hb hK.1 hP 6 0 rfl rfl hi hdg kk
theorem st_M_tx {σ : MS} {i x : Int32} (hx : p.tables.exec = Jvm.exec) (hb : c.code = cc) (hK : cK G s) (hP : va_P G.1 vwCl (mW G.2.1 α σ) H) (hD : va_D A (mW G.2.1 α σ)) (hS : va_S A H0 H locs) (hi : vp_in i 60) (hdg : decode cc pc = .ok (.iastore, 1)) (kk : ∀ (H1 : Heap) (locs1 : List Loc), va_P G.1 vwCl (mW G.2.1 α (m_tx' σ (upd (m_tx σ) i.toNatClampNeg x))) H1 → va_D A (mW G.2.1 α (m_tx' σ (upd (m_tx σ) i.toNatClampNeg x))) → va_S A H0 H1 locs1 → W p l e R s m args below meth c H1 locs1 cells slots Q (F0 m (pc + 1) ls rest)) : W p l e R s m args below meth c H locs cells slots Q (F0 m pc ls (.int x :: .int i :: .ref (α 6) :: rest)) :=
  va_iast (cA := G.2.1) (n := 60) (f := m_tx σ) hx hb hK.1 hP hD hS 6 0 rfl rfl hi hdg kk
theorem cell_M_tx {σ : MS} {D : va_G} {cl : List vw_C} {cI : ClassId} (hP : va_P D cl (mW cI α σ) H) : va_P D cl (aW cI (α 6) 60 (m_tx σ)) H := hP.sub [6] rfl
theorem pset_M_tx (cI : ClassId) (α : Nat → Nat) (σ : MS) (f : NI) : pset (mW cI α σ) [6] (aW cI (α 6) 60 f) = mW cI α (m_tx' σ f) := rfl
theorem pl_M_tx (cI : ClassId) (α : Nat → Nat) (σ : MS) : [6].map (fun i => (mW cI α σ)[i]?) = (aW cI (α 6) 60 (m_tx σ)).map some := rfl
theorem pf_M_tx (cI : ClassId) (α : Nat → Nat) (σ : MS) : [6].filterMap (fun i => (mW cI α σ)[i]?) = aW cI (α 6) 60 (m_tx σ) := rfl
theorem ld_M_as {σ : MS} {i : Int32} (hx : p.tables.exec = Jvm.exec) (hb : c.code = cc) (hK : cK G s) (hP : va_P G.1 vwCl (mW G.2.1 α σ) H) (hi : vp_in i 30) (hdg : decode cc pc = .ok (.iaload, 1)) (kk : W p l e R s m args below meth c H locs cells slots Q (F0 m (pc + 1) ls (.int (m_as σ i.toNatClampNeg) :: rest))) : W p l e R s m args below meth c H locs cells slots Q (F0 m pc ls (.int i :: .ref (α 7) :: rest)) :=
  va_iald (cA := G.2.1) (n := 30) (f := m_as σ) hx hb hK.1 hP 7 0 rfl rfl hi hdg kk
theorem st_M_as {σ : MS} {i x : Int32} (hx : p.tables.exec = Jvm.exec) (hb : c.code = cc) (hK : cK G s) (hP : va_P G.1 vwCl (mW G.2.1 α σ) H) (hD : va_D A (mW G.2.1 α σ)) (hS : va_S A H0 H locs) (hi : vp_in i 30) (hdg : decode cc pc = .ok (.iastore, 1)) (kk : ∀ (H1 : Heap) (locs1 : List Loc), va_P G.1 vwCl (mW G.2.1 α (m_as' σ (upd (m_as σ) i.toNatClampNeg x))) H1 → va_D A (mW G.2.1 α (m_as' σ (upd (m_as σ) i.toNatClampNeg x))) → va_S A H0 H1 locs1 → W p l e R s m args below meth c H1 locs1 cells slots Q (F0 m (pc + 1) ls rest)) : W p l e R s m args below meth c H locs cells slots Q (F0 m pc ls (.int x :: .int i :: .ref (α 7) :: rest)) :=
  va_iast (cA := G.2.1) (n := 30) (f := m_as σ) hx hb hK.1 hP hD hS 7 0 rfl rfl hi hdg kk
theorem cell_M_as {σ : MS} {D : va_G} {cl : List vw_C} {cI : ClassId} (hP : va_P D cl (mW cI α σ) H) : va_P D cl (aW cI (α 7) 30 (m_as σ)) H := hP.sub [7] rfl
theorem pset_M_as (cI : ClassId) (α : Nat → Nat) (σ : MS) (f : NI) : pset (mW cI α σ) [7] (aW cI (α 7) 30 f) = mW cI α (m_as' σ f) := rfl
theorem pl_M_as (cI : ClassId) (α : Nat → Nat) (σ : MS) : [7].map (fun i => (mW cI α σ)[i]?) = (aW cI (α 7) 30 (m_as σ)).map some := rfl
theorem pf_M_as (cI : ClassId) (α : Nat → Nat) (σ : MS) : [7].filterMap (fun i => (mW cI α σ)[i]?) = aW cI (α 7) 30 (m_as σ) := rfl
theorem ld_M_nu {σ : MS} {i : Int32} (hx : p.tables.exec = Jvm.exec) (hb : c.code = cc) (hK : cK G s) (hP : va_P G.1 vwCl (mW G.2.1 α σ) H) (hi : vp_in i 30) (hdg : decode cc pc = .ok (.iaload, 1)) (kk : W p l e R s m args below meth c H locs cells slots Q (F0 m (pc + 1) ls (.int (m_nu σ i.toNatClampNeg) :: rest))) : W p l e R s m args below meth c H locs cells slots Q (F0 m pc ls (.int i :: .ref (α 8) :: rest)) :=
  va_iald (cA := G.2.1) (n := 30) (f := m_nu σ) hx hb hK.1 hP 8 0 rfl rfl hi hdg kk
theorem st_M_nu {σ : MS} {i x : Int32} (hx : p.tables.exec = Jvm.exec) (hb : c.code = cc) (hK : cK G s) (hP : va_P G.1 vwCl (mW G.2.1 α σ) H) (hD : va_D A (mW G.2.1 α σ)) (hS : va_S A H0 H locs) (hi : vp_in i 30) (hdg : decode cc pc = .ok (.iastore, 1)) (kk : ∀ (H1 : Heap) (locs1 : List Loc), va_P G.1 vwCl (mW G.2.1 α (m_nu' σ (upd (m_nu σ) i.toNatClampNeg x))) H1 → va_D A (mW G.2.1 α (m_nu' σ (upd (m_nu σ) i.toNatClampNeg x))) → va_S A H0 H1 locs1 → W p l e R s m args below meth c H1 locs1 cells slots Q (F0 m (pc + 1) ls rest)) : W p l e R s m args below meth c H locs cells slots Q (F0 m pc ls (.int x :: .int i :: .ref (α 8) :: rest)) :=
  va_iast (cA := G.2.1) (n := 30) (f := m_nu σ) hx hb hK.1 hP hD hS 8 0 rfl rfl hi hdg kk
theorem cell_M_nu {σ : MS} {D : va_G} {cl : List vw_C} {cI : ClassId} (hP : va_P D cl (mW cI α σ) H) : va_P D cl (aW cI (α 8) 30 (m_nu σ)) H := hP.sub [8] rfl
theorem pset_M_nu (cI : ClassId) (α : Nat → Nat) (σ : MS) (f : NI) : pset (mW cI α σ) [8] (aW cI (α 8) 30 f) = mW cI α (m_nu' σ f) := rfl
theorem pl_M_nu (cI : ClassId) (α : Nat → Nat) (σ : MS) : [8].map (fun i => (mW cI α σ)[i]?) = (aW cI (α 8) 30 (m_nu σ)).map some := rfl
theorem pf_M_nu (cI : ClassId) (α : Nat → Nat) (σ : MS) : [8].filterMap (fun i => (mW cI α σ)[i]?) = aW cI (α 8) 30 (m_nu σ) := rfl
theorem ld_M_tr {σ : MS} {i : Int32} (hx : p.tables.exec = Jvm.exec) (hb : c.code = cc) (hK : cK G s) (hP : va_P G.1 vwCl (mW G.2.1 α σ) H) (hi : vp_in i 30) (hdg : decode cc pc = .ok (.iaload, 1)) (kk : W p l e R s m args below meth c H locs cells slots Q (F0 m (pc + 1) ls (.int (m_tr σ i.toNatClampNeg) :: rest))) : W p l e R s m args below meth c H locs cells slots Q (F0 m pc ls (.int i :: .ref (α 9) :: rest)) :=
  va_iald (cA := G.2.1) (n := 30) (f := m_tr σ) hx hb hK.1 hP 9 0 rfl rfl hi hdg kk
theorem st_M_tr {σ : MS} {i x : Int32} (hx : p.tables.exec = Jvm.exec) (hb : c.code = cc) (hK : cK G s) (hP : va_P G.1 vwCl (mW G.2.1 α σ) H) (hD : va_D A (mW G.2.1 α σ)) (hS : va_S A H0 H locs) (hi : vp_in i 30) (hdg : decode cc pc = .ok (.iastore, 1)) (kk : ∀ (H1 : Heap) (locs1 : List Loc), va_P G.1 vwCl (mW G.2.1 α (m_tr' σ (upd (m_tr σ) i.toNatClampNeg x))) H1 → va_D A (mW G.2.1 α (m_tr' σ (upd (m_tr σ) i.toNatClampNeg x))) → va_S A H0 H1 locs1 → W p l e R s m args below meth c H1 locs1 cells slots Q (F0 m (pc + 1) ls rest)) : W p l e R s m args below meth c H locs cells slots Q (F0 m pc ls (.int x :: .int i :: .ref (α 9) :: rest)) :=
  va_iast (cA := G.2.1) (n := 30) (f := m_tr σ) hx hb hK.1 hP hD hS 9 0 rfl rfl hi hdg kk
theorem cell_M_tr {σ : MS} {D : va_G} {cl : List vw_C} {cI : ClassId} (hP : va_P D cl (mW cI α σ) H) : va_P D cl (aW cI (α 9) 30 (m_tr σ)) H := hP.sub [9] rfl
theorem pset_M_tr (cI : ClassId) (α : Nat → Nat) (σ : MS) (f : NI) : pset (mW cI α σ) [9] (aW cI (α 9) 30 f) = mW cI α (m_tr' σ f) := rfl
theorem pl_M_tr (cI : ClassId) (α : Nat → Nat) (σ : MS) : [9].map (fun i => (mW cI α σ)[i]?) = (aW cI (α 9) 30 (m_tr σ)).map some := rfl
theorem pf_M_tr (cI : ClassId) (α : Nat → Nat) (σ : MS) : [9].filterMap (fun i => (mW cI α σ)[i]?) = aW cI (α 9) 30 (m_tr σ) := rfl
theorem fst_Q {c : ClassId} {α : Nat → Nat} (σ τ : QS) : (qW c α τ).map (·.1) = (qW c α σ).map (·.1) := rfl
theorem rcv_Q {σ : QS} (hK : cK G s) (hP : va_P G.1 vwCl (qW G.2.1 α σ) H) : ∃ cell : Cell, H[α 0]? = some cell ∧ cell.vm.isStatics = false ∧ s.vm.findClass RX3 = some cell.cls := va_recv hK.1 hP (ci := 3) (q0 := 0) rfl rfl
theorem get_Q_addresses {σ : QS} (hx : p.tables.exec = Jvm.exec) (hb : c.code = cc) (hts : ∀ w ∈ Ts, w.before args s = true) (hin : ∀ w ∈ wsX30, w ∈ Ts) (hown : s.vm.findClass own = some m.cls) (hK : cK G s) (hP : va_P G.1 vwCl (qW G.2.1 α σ) H) (hl : (Cond.fieldLink own index "GrooveTurns$Requests" "addresses" "[I").before args s = true) (hdg : decode cc pc = .ok (.getfield index, 3)) (kk : W p l e R s m args below meth c H locs cells slots Q (F0 m (pc + 3) ls (.ref (α 1) :: rest))) : W p l e R s m args below meth c H locs cells slots Q (F0 m pc ls (.ref (α 0) :: rest)) :=
  va_get (D := G.1) (ci := 3) (v := .ref (α 1)) (C := RX3) (T := TX3) (N := 5) hx hb hts hin hown hK.1 hP 0 rfl rfl 0 (by decide) hl (fun _ h => h) rfl hdg kk
theorem get_Q_numbers {σ : QS} (hx : p.tables.exec = Jvm.exec) (hb : c.code = cc) (hts : ∀ w ∈ Ts, w.before args s = true) (hin : ∀ w ∈ wsX30, w ∈ Ts) (hown : s.vm.findClass own = some m.cls) (hK : cK G s) (hP : va_P G.1 vwCl (qW G.2.1 α σ) H) (hl : (Cond.fieldLink own index "GrooveTurns$Requests" "numbers" "[I").before args s = true) (hdg : decode cc pc = .ok (.getfield index, 3)) (kk : W p l e R s m args below meth c H locs cells slots Q (F0 m (pc + 3) ls (.ref (α 2) :: rest))) : W p l e R s m args below meth c H locs cells slots Q (F0 m pc ls (.ref (α 0) :: rest)) :=
  va_get (D := G.1) (ci := 3) (v := .ref (α 2)) (C := RX3) (T := TX3) (N := 5) hx hb hts hin hown hK.1 hP 0 rfl rfl 1 (by decide) hl (fun _ h => h) rfl hdg kk
theorem get_Q_tracks {σ : QS} (hx : p.tables.exec = Jvm.exec) (hb : c.code = cc) (hts : ∀ w ∈ Ts, w.before args s = true) (hin : ∀ w ∈ wsX30, w ∈ Ts) (hown : s.vm.findClass own = some m.cls) (hK : cK G s) (hP : va_P G.1 vwCl (qW G.2.1 α σ) H) (hl : (Cond.fieldLink own index "GrooveTurns$Requests" "tracks" "[I").before args s = true) (hdg : decode cc pc = .ok (.getfield index, 3)) (kk : W p l e R s m args below meth c H locs cells slots Q (F0 m (pc + 3) ls (.ref (α 3) :: rest))) : W p l e R s m args below meth c H locs cells slots Q (F0 m pc ls (.ref (α 0) :: rest)) :=
  va_get (D := G.1) (ci := 3) (v := .ref (α 3)) (C := RX3) (T := TX3) (N := 5) hx hb hts hin hown hK.1 hP 0 rfl rfl 2 (by decide) hl (fun _ h => h) rfl hdg kk
theorem get_Q_size {σ : QS} (hx : p.tables.exec = Jvm.exec) (hb : c.code = cc) (hts : ∀ w ∈ Ts, w.before args s = true) (hin : ∀ w ∈ wsX30, w ∈ Ts) (hown : s.vm.findClass own = some m.cls) (hK : cK G s) (hP : va_P G.1 vwCl (qW G.2.1 α σ) H) (hl : (Cond.fieldLink own index "GrooveTurns$Requests" "size" "I").before args s = true) (hdg : decode cc pc = .ok (.getfield index, 3)) (kk : W p l e R s m args below meth c H locs cells slots Q (F0 m (pc + 3) ls (.int (q_sz σ) :: rest))) : W p l e R s m args below meth c H locs cells slots Q (F0 m pc ls (.ref (α 0) :: rest)) :=
  va_get (D := G.1) (ci := 3) (v := .int (q_sz σ)) (C := RX3) (T := TX3) (N := 5) hx hb hts hin hown hK.1 hP 0 rfl rfl 3 (by decide) hl (fun _ h => h) rfl hdg kk
theorem put_Q_size {σ : QS} {v : Int32} (hx : p.tables.exec = Jvm.exec) (hb : c.code = cc) (hts : ∀ w ∈ Ts, w.before args s = true) (hin : ∀ w ∈ wsX30, w ∈ Ts) (hown : s.vm.findClass own = some m.cls) (hK : cK G s) (hP : va_P G.1 vwCl (qW G.2.1 α σ) H) (hD : va_D A (qW G.2.1 α σ)) (hS : va_S A H0 H locs) (hl : (Cond.fieldLink own index "GrooveTurns$Requests" "size" "I").before args s = true) (hdg : decode cc pc = .ok (.putfield index, 3)) (kk : ∀ (H1 : Heap) (locs1 : List Loc), va_P G.1 vwCl (qW G.2.1 α (q_sz' σ v)) H1 → va_D A (qW G.2.1 α (q_sz' σ v)) → va_S A H0 H1 locs1 → W p l e R s m args below meth c H1 locs1 cells slots Q (F0 m (pc + 3) ls rest)) : W p l e R s m args below meth c H locs cells slots Q (F0 m pc ls (.int v :: .ref (α 0) :: rest)) :=
  va_put (D := G.1) (ci := 3) (v := .int v) (ty := .int) (C := RX3) (T := TX3) (N := 5) hx hb hts hin tyX3 tyX3_ok nmX3 hown hK.1 hP hD hS 0 rfl rfl 3 (by decide) hl (fun _ h => h) rfl (by decide +kernel) rfl rfl (Nat.le_of_ble_eq_true rfl) hdg kk
theorem get_Q_place {σ : QS} (hx : p.tables.exec = Jvm.exec) (hb : c.code = cc) (hts : ∀ w ∈ Ts, w.before args s = true) (hin : ∀ w ∈ wsX30, w ∈ Ts) (hown : s.vm.findClass own = some m.cls) (hK : cK G s) (hP : va_P G.1 vwCl (qW G.2.1 α σ) H) (hl : (Cond.fieldLink own index "GrooveTurns$Requests" "place" "I").before args s = true) (hdg : decode cc pc = .ok (.getfield index, 3)) (kk : W p l e R s m args below meth c H locs cells slots Q (F0 m (pc + 3) ls (.int (q_pl σ) :: rest))) : W p l e R s m args below meth c H locs cells slots Q (F0 m pc ls (.ref (α 0) :: rest)) :=
  va_get (D := G.1) (ci := 3) (v := .int (q_pl σ)) (C := RX3) (T := TX3) (N := 5) hx hb hts hin hown hK.1 hP 0 rfl rfl 4 (by decide) hl (fun _ h => h) rfl hdg kk
theorem put_Q_place {σ : QS} {v : Int32} (hx : p.tables.exec = Jvm.exec) (hb : c.code = cc) (hts : ∀ w ∈ Ts, w.before args s = true) (hin : ∀ w ∈ wsX30, w ∈ Ts) (hown : s.vm.findClass own = some m.cls) (hK : cK G s) (hP : va_P G.1 vwCl (qW G.2.1 α σ) H) (hD : va_D A (qW G.2.1 α σ)) (hS : va_S A H0 H locs) (hl : (Cond.fieldLink own index "GrooveTurns$Requests" "place" "I").before args s = true) (hdg : decode cc pc = .ok (.putfield index, 3)) (kk : ∀ (H1 : Heap) (locs1 : List Loc), va_P G.1 vwCl (qW G.2.1 α (q_pl' σ v)) H1 → va_D A (qW G.2.1 α (q_pl' σ v)) → va_S A H0 H1 locs1 → W p l e R s m args below meth c H1 locs1 cells slots Q (F0 m (pc + 3) ls rest)) : W p l e R s m args below meth c H locs cells slots Q (F0 m pc ls (.int v :: .ref (α 0) :: rest)) :=
  va_put (D := G.1) (ci := 3) (v := .int v) (ty := .int) (C := RX3) (T := TX3) (N := 5) hx hb hts hin tyX3 tyX3_ok nmX3 hown hK.1 hP hD hS 0 rfl rfl 4 (by decide) hl (fun _ h => h) rfl (by decide +kernel) rfl rfl (Nat.le_of_ble_eq_true rfl) hdg kk
theorem ld_Q_ad {σ : QS} {i : Int32} (hx : p.tables.exec = Jvm.exec) (hb : c.code = cc) (hK : cK G s) (hP : va_P G.1 vwCl (qW G.2.1 α σ) H) (hi : vp_in i 21) (hdg : decode cc pc = .ok (.iaload, 1)) (kk : W p l e R s m args below meth c H locs cells slots Q (F0 m (pc + 1) ls (.int (q_ad σ i.toNatClampNeg) :: rest))) : W p l e R s m args below meth c H locs cells slots Q (F0 m pc ls (.int i :: .ref (α 1) :: rest)) :=
  va_iald (cA := G.2.1) (n := 21) (f := q_ad σ) hx hb hK.1 hP 1 0 rfl rfl hi hdg kk
theorem st_Q_ad {σ : QS} {i x : Int32} (hx : p.tables.exec = Jvm.exec) (hb : c.code = cc) (hK : cK G s) (hP : va_P G.1 vwCl (qW G.2.1 α σ) H) (hD : va_D A (qW G.2.1 α σ)) (hS : va_S A H0 H locs) (hi : vp_in i 21) (hdg : decode cc pc = .ok (.iastore, 1)) (kk : ∀ (H1 : Heap) (locs1 : List Loc), va_P G.1 vwCl (qW G.2.1 α (q_ad' σ (upd (q_ad σ) i.toNatClampNeg x))) H1 → va_D A (qW G.2.1 α (q_ad' σ (upd (q_ad σ) i.toNatClampNeg x))) → va_S A H0 H1 locs1 → W p l e R s m args below meth c H1 locs1 cells slots Q (F0 m (pc + 1) ls rest)) : W p l e R s m args below meth c H locs cells slots Q (F0 m pc ls (.int x :: .int i :: .ref (α 1) :: rest)) :=
  va_iast (cA := G.2.1) (n := 21) (f := q_ad σ) hx hb hK.1 hP hD hS 1 0 rfl rfl hi hdg kk
theorem cell_Q_ad {σ : QS} {D : va_G} {cl : List vw_C} {cI : ClassId} (hP : va_P D cl (qW cI α σ) H) : va_P D cl (aW cI (α 1) 21 (q_ad σ)) H := hP.sub [1] rfl
theorem pset_Q_ad (cI : ClassId) (α : Nat → Nat) (σ : QS) (f : NI) : pset (qW cI α σ) [1] (aW cI (α 1) 21 f) = qW cI α (q_ad' σ f) := rfl
theorem pl_Q_ad (cI : ClassId) (α : Nat → Nat) (σ : QS) : [1].map (fun i => (qW cI α σ)[i]?) = (aW cI (α 1) 21 (q_ad σ)).map some := rfl
theorem pf_Q_ad (cI : ClassId) (α : Nat → Nat) (σ : QS) : [1].filterMap (fun i => (qW cI α σ)[i]?) = aW cI (α 1) 21 (q_ad σ) := rfl
theorem ld_Q_nu {σ : QS} {i : Int32} (hx : p.tables.exec = Jvm.exec) (hb : c.code = cc) (hK : cK G s) (hP : va_P G.1 vwCl (qW G.2.1 α σ) H) (hi : vp_in i 21) (hdg : decode cc pc = .ok (.iaload, 1)) (kk : W p l e R s m args below meth c H locs cells slots Q (F0 m (pc + 1) ls (.int (q_nu σ i.toNatClampNeg) :: rest))) : W p l e R s m args below meth c H locs cells slots Q (F0 m pc ls (.int i :: .ref (α 2) :: rest)) :=
  va_iald (cA := G.2.1) (n := 21) (f := q_nu σ) hx hb hK.1 hP 2 0 rfl rfl hi hdg kk
theorem st_Q_nu {σ : QS} {i x : Int32} (hx : p.tables.exec = Jvm.exec) (hb : c.code = cc) (hK : cK G s) (hP : va_P G.1 vwCl (qW G.2.1 α σ) H) (hD : va_D A (qW G.2.1 α σ)) (hS : va_S A H0 H locs) (hi : vp_in i 21) (hdg : decode cc pc = .ok (.iastore, 1)) (kk : ∀ (H1 : Heap) (locs1 : List Loc), va_P G.1 vwCl (qW G.2.1 α (q_nu' σ (upd (q_nu σ) i.toNatClampNeg x))) H1 → va_D A (qW G.2.1 α (q_nu' σ (upd (q_nu σ) i.toNatClampNeg x))) → va_S A H0 H1 locs1 → W p l e R s m args below meth c H1 locs1 cells slots Q (F0 m (pc + 1) ls rest)) : W p l e R s m args below meth c H locs cells slots Q (F0 m pc ls (.int x :: .int i :: .ref (α 2) :: rest)) :=
  va_iast (cA := G.2.1) (n := 21) (f := q_nu σ) hx hb hK.1 hP hD hS 2 0 rfl rfl hi hdg kk
theorem cell_Q_nu {σ : QS} {D : va_G} {cl : List vw_C} {cI : ClassId} (hP : va_P D cl (qW cI α σ) H) : va_P D cl (aW cI (α 2) 21 (q_nu σ)) H := hP.sub [2] rfl
theorem pset_Q_nu (cI : ClassId) (α : Nat → Nat) (σ : QS) (f : NI) : pset (qW cI α σ) [2] (aW cI (α 2) 21 f) = qW cI α (q_nu' σ f) := rfl
theorem pl_Q_nu (cI : ClassId) (α : Nat → Nat) (σ : QS) : [2].map (fun i => (qW cI α σ)[i]?) = (aW cI (α 2) 21 (q_nu σ)).map some := rfl
theorem pf_Q_nu (cI : ClassId) (α : Nat → Nat) (σ : QS) : [2].filterMap (fun i => (qW cI α σ)[i]?) = aW cI (α 2) 21 (q_nu σ) := rfl
theorem ld_Q_tr {σ : QS} {i : Int32} (hx : p.tables.exec = Jvm.exec) (hb : c.code = cc) (hK : cK G s) (hP : va_P G.1 vwCl (qW G.2.1 α σ) H) (hi : vp_in i 21) (hdg : decode cc pc = .ok (.iaload, 1)) (kk : W p l e R s m args below meth c H locs cells slots Q (F0 m (pc + 1) ls (.int (q_tr σ i.toNatClampNeg) :: rest))) : W p l e R s m args below meth c H locs cells slots Q (F0 m pc ls (.int i :: .ref (α 3) :: rest)) :=
  va_iald (cA := G.2.1) (n := 21) (f := q_tr σ) hx hb hK.1 hP 3 0 rfl rfl hi hdg kk
theorem st_Q_tr {σ : QS} {i x : Int32} (hx : p.tables.exec = Jvm.exec) (hb : c.code = cc) (hK : cK G s) (hP : va_P G.1 vwCl (qW G.2.1 α σ) H) (hD : va_D A (qW G.2.1 α σ)) (hS : va_S A H0 H locs) (hi : vp_in i 21) (hdg : decode cc pc = .ok (.iastore, 1)) (kk : ∀ (H1 : Heap) (locs1 : List Loc), va_P G.1 vwCl (qW G.2.1 α (q_tr' σ (upd (q_tr σ) i.toNatClampNeg x))) H1 → va_D A (qW G.2.1 α (q_tr' σ (upd (q_tr σ) i.toNatClampNeg x))) → va_S A H0 H1 locs1 → W p l e R s m args below meth c H1 locs1 cells slots Q (F0 m (pc + 1) ls rest)) : W p l e R s m args below meth c H locs cells slots Q (F0 m pc ls (.int x :: .int i :: .ref (α 3) :: rest)) :=
  va_iast (cA := G.2.1) (n := 21) (f := q_tr σ) hx hb hK.1 hP hD hS 3 0 rfl rfl hi hdg kk
theorem cell_Q_tr {σ : QS} {D : va_G} {cl : List vw_C} {cI : ClassId} (hP : va_P D cl (qW cI α σ) H) : va_P D cl (aW cI (α 3) 21 (q_tr σ)) H := hP.sub [3] rfl
theorem pset_Q_tr (cI : ClassId) (α : Nat → Nat) (σ : QS) (f : NI) : pset (qW cI α σ) [3] (aW cI (α 3) 21 f) = qW cI α (q_tr' σ f) := rfl
theorem pl_Q_tr (cI : ClassId) (α : Nat → Nat) (σ : QS) : [3].map (fun i => (qW cI α σ)[i]?) = (aW cI (α 3) 21 (q_tr σ)).map some := rfl
theorem pf_Q_tr (cI : ClassId) (α : Nat → Nat) (σ : QS) : [3].filterMap (fun i => (qW cI α σ)[i]?) = aW cI (α 3) 21 (q_tr σ) := rfl
theorem fst_P {c : ClassId} {α : Nat → Nat} (σ τ : PS) : (pW c α τ).map (·.1) = (pW c α σ).map (·.1) := rfl
theorem rcv_P {σ : PS} (hK : cK G s) (hP : va_P G.1 vwCl (pW G.2.1 α σ) H) : ∃ cell : Cell, H[α 0]? = some cell ∧ cell.vm.isStatics = false ∧ s.vm.findClass RX2 = some cell.cls := va_recv hK.1 hP (ci := 2) (q0 := 0) rfl rfl
theorem get_P_signs {σ : PS} (hx : p.tables.exec = Jvm.exec) (hb : c.code = cc) (hts : ∀ w ∈ Ts, w.before args s = true) (hin : ∀ w ∈ wsX20, w ∈ Ts) (hown : s.vm.findClass own = some m.cls) (hK : cK G s) (hP : va_P G.1 vwCl (pW G.2.1 α σ) H) (hl : (Cond.fieldLink own index "GrooveTurns$Pad" "signs" "[I").before args s = true) (hdg : decode cc pc = .ok (.getfield index, 3)) (kk : W p l e R s m args below meth c H locs cells slots Q (F0 m (pc + 3) ls (.ref (α 1) :: rest))) : W p l e R s m args below meth c H locs cells slots Q (F0 m pc ls (.ref (α 0) :: rest)) :=
  va_get (D := G.1) (ci := 2) (v := .ref (α 1)) (C := RX2) (T := TX2) (N := 2) hx hb hts hin hown hK.1 hP 0 rfl rfl 0 (by decide) hl (fun _ h => h) rfl hdg kk
theorem get_P_length {σ : PS} (hx : p.tables.exec = Jvm.exec) (hb : c.code = cc) (hts : ∀ w ∈ Ts, w.before args s = true) (hin : ∀ w ∈ wsX20, w ∈ Ts) (hown : s.vm.findClass own = some m.cls) (hK : cK G s) (hP : va_P G.1 vwCl (pW G.2.1 α σ) H) (hl : (Cond.fieldLink own index "GrooveTurns$Pad" "length" "I").before args s = true) (hdg : decode cc pc = .ok (.getfield index, 3)) (kk : W p l e R s m args below meth c H locs cells slots Q (F0 m (pc + 3) ls (.int (p_le σ) :: rest))) : W p l e R s m args below meth c H locs cells slots Q (F0 m pc ls (.ref (α 0) :: rest)) :=
  va_get (D := G.1) (ci := 2) (v := .int (p_le σ)) (C := RX2) (T := TX2) (N := 2) hx hb hts hin hown hK.1 hP 0 rfl rfl 1 (by decide) hl (fun _ h => h) rfl hdg kk
theorem put_P_length {σ : PS} {v : Int32} (hx : p.tables.exec = Jvm.exec) (hb : c.code = cc) (hts : ∀ w ∈ Ts, w.before args s = true) (hin : ∀ w ∈ wsX20, w ∈ Ts) (hown : s.vm.findClass own = some m.cls) (hK : cK G s) (hP : va_P G.1 vwCl (pW G.2.1 α σ) H) (hD : va_D A (pW G.2.1 α σ)) (hS : va_S A H0 H locs) (hl : (Cond.fieldLink own index "GrooveTurns$Pad" "length" "I").before args s = true) (hdg : decode cc pc = .ok (.putfield index, 3)) (kk : ∀ (H1 : Heap) (locs1 : List Loc), va_P G.1 vwCl (pW G.2.1 α (p_le' σ v)) H1 → va_D A (pW G.2.1 α (p_le' σ v)) → va_S A H0 H1 locs1 → W p l e R s m args below meth c H1 locs1 cells slots Q (F0 m (pc + 3) ls rest)) : W p l e R s m args below meth c H locs cells slots Q (F0 m pc ls (.int v :: .ref (α 0) :: rest)) :=
  va_put (D := G.1) (ci := 2) (v := .int v) (ty := .int) (C := RX2) (T := TX2) (N := 2) hx hb hts hin tyX2 tyX2_ok nmX2 hown hK.1 hP hD hS 0 rfl rfl 1 (by decide) hl (fun _ h => h) rfl (by decide +kernel) rfl rfl (Nat.le_of_ble_eq_true rfl) hdg kk
theorem ld_P_si {σ : PS} {i : Int32} (hx : p.tables.exec = Jvm.exec) (hb : c.code = cc) (hK : cK G s) (hP : va_P G.1 vwCl (pW G.2.1 α σ) H) (hi : vp_in i 60) (hdg : decode cc pc = .ok (.iaload, 1)) (kk : W p l e R s m args below meth c H locs cells slots Q (F0 m (pc + 1) ls (.int (p_si σ i.toNatClampNeg) :: rest))) : W p l e R s m args below meth c H locs cells slots Q (F0 m pc ls (.int i :: .ref (α 1) :: rest)) :=
  va_iald (cA := G.2.1) (n := 60) (f := p_si σ) hx hb hK.1 hP 1 0 rfl rfl hi hdg kk
theorem st_P_si {σ : PS} {i x : Int32} (hx : p.tables.exec = Jvm.exec) (hb : c.code = cc) (hK : cK G s) (hP : va_P G.1 vwCl (pW G.2.1 α σ) H) (hD : va_D A (pW G.2.1 α σ)) (hS : va_S A H0 H locs) (hi : vp_in i 60) (hdg : decode cc pc = .ok (.iastore, 1)) (kk : ∀ (H1 : Heap) (locs1 : List Loc), va_P G.1 vwCl (pW G.2.1 α (p_si' σ (upd (p_si σ) i.toNatClampNeg x))) H1 → va_D A (pW G.2.1 α (p_si' σ (upd (p_si σ) i.toNatClampNeg x))) → va_S A H0 H1 locs1 → W p l e R s m args below meth c H1 locs1 cells slots Q (F0 m (pc + 1) ls rest)) : W p l e R s m args below meth c H locs cells slots Q (F0 m pc ls (.int x :: .int i :: .ref (α 1) :: rest)) :=
  va_iast (cA := G.2.1) (n := 60) (f := p_si σ) hx hb hK.1 hP hD hS 1 0 rfl rfl hi hdg kk
theorem cell_P_si {σ : PS} {D : va_G} {cl : List vw_C} {cI : ClassId} (hP : va_P D cl (pW cI α σ) H) : va_P D cl (aW cI (α 1) 60 (p_si σ)) H := hP.sub [1] rfl
theorem pset_P_si (cI : ClassId) (α : Nat → Nat) (σ : PS) (f : NI) : pset (pW cI α σ) [1] (aW cI (α 1) 60 f) = pW cI α (p_si' σ f) := rfl
theorem pl_P_si (cI : ClassId) (α : Nat → Nat) (σ : PS) : [1].map (fun i => (pW cI α σ)[i]?) = (aW cI (α 1) 60 (p_si σ)).map some := rfl
theorem pf_P_si (cI : ClassId) (α : Nat → Nat) (σ : PS) : [1].filterMap (fun i => (pW cI α σ)[i]?) = aW cI (α 1) 60 (p_si σ) := rfl
end RDX
end
section
def s_X4_at (n : Nat) (f : NI) (p1 : Int32) : Int32 := (if p1 < 0 then 0 else (if (nI n) ≤ p1 then 0 else (f p1.toNatClampNeg)))
set_option maxHeartbeats 4000000 in
set_option maxRecDepth 100000 in
theorem c_X4_at (l : Launch) (G : GG) (q : Nat) (n : Nat) (f : NI) (p1 : Int32) (hn : n < 2147483648) : Rd G l yX4_at wsX4_at 0 0 [.ref q, .int p1] (aW G.2.1 q n f) (.int (s_X4_at n f p1)) := by
  refine Met.ofW (cc := cX4_at) (maxL := 2) (ret := (some .int)) (by decide) rfl ?_
  intro p e s m args below meth c s₁ B hml hv
  obtain ⟨rfl, hP, hK⟩ := hv
  have C0 : cA p s m meth c ([.ref q, .int p1] : List Value).toArray cX4_at 2 (some .int) wsX4_at RX4 := ⟨B.exec, B.bytes, B.returns, hml, findClass_of_methodNamed B.named, atoms_spec (ws := wsX4_at) B.pre, B.notSynchronized⟩
  obtain ⟨hx, hb, hr, hml, hown, hts, hlocks⟩ := id C0
  have hF : CallFix p m c cX4_at 2 s _ wsX4_at RX4 := ⟨hx, hb, hml, hown, hts⟩
  have hl := lv_entry ([.ref q, .int p1]) (n := 2) (Nat.le_of_ble_eq_true rfl)
  rw [lg_entry_eq]
  generalize (lg_sl ([.ref q, .int p1]) ++ List.replicate (2 - (lg_sl ([.ref q, .int p1])).length) Slot.unset).toArray = ls at hl ⊢
  have hl : lv_has ls 2 [(0, .ref q), (1, .int p1)] := hl
  refine lv_iload_n hx hb dX4_at_0 rfl (lv_at hl 1 rfl) ?_
  refine lv_if_lt (tgt := 16) hx hb dX4_at_1 (by decide) (fun (c_1 : p1 < 0) => ?_) (fun (c_1 : ¬ p1 < 0) => ?_)
  · skip
    refine lv_iconst (v := 0) hx hb dX4_at_16 (by decide) ?_
    rw [show s_X4_at n f p1 = 0 from by rw [s_X4_at]; rw [if_pos c_1]]
    exact W.iret hx hb hr (fun t ht hW => ⟨rfl, ht⟩) (fun _ h => nomatch h) dX4_at_17
  · skip
    refine lv_iload_n hx hb dX4_at_4 rfl (lv_at hl 1 rfl) ?_
    refine lv_aload_n hx hb dX4_at_5 rfl (lv_at hl 0 rfl) ?_
    refine va_alen (v := (nI n)) hx hb hK.1 hP 0 0 rfl rfl rfl dX4_at_6 ?_
    refine lv_icmp_ge (tgt := 16) hx hb dX4_at_7 (by decide) (fun (c_2 : (nI n) ≤ p1) => ?_) (fun (c_2 : ¬ (nI n) ≤ p1) => ?_)
    · skip
      refine lv_iconst (v := 0) hx hb dX4_at_16 (by decide) ?_
      rw [show s_X4_at n f p1 = 0 from by rw [s_X4_at]; rw [if_neg c_1, if_pos c_2]]
      exact W.iret hx hb hr (fun t ht hW => ⟨rfl, ht⟩) (fun _ h => nomatch h) dX4_at_17
    · skip
      refine lv_aload_n hx hb dX4_at_10 rfl (lv_at hl 0 rfl) ?_
      refine lv_iload_n hx hb dX4_at_11 rfl (lv_at hl 1 rfl) ?_
      refine va_iald (cA := G.2.1) (n := n) (f := f) hx hb hK.1 hP 0 0 rfl rfl (at_in c_1 c_2 hn) dX4_at_12 ?_
      refine lv_goto (tgt := 17) hx hb dX4_at_13 (by decide) ?_
      rw [show s_X4_at n f p1 = (f p1.toNatClampNeg) from by rw [s_X4_at]; rw [if_neg c_1, if_neg c_2]]
      exact W.iret hx hb hr (fun t ht hW => ⟨rfl, ht⟩) (fun _ h => nomatch h) dX4_at_17
def s_X4_lay (n : Nat) (f : NI) (p1 : Int32) (p2 : Int32) : NI := (if p1 < 0 then f else (if (nI n) ≤ p1 then f else (upd f p1.toNatClampNeg p2)))
set_option maxHeartbeats 4000000 in
set_option maxRecDepth 100000 in
theorem c_X4_lay (l : Launch) (G : GG) (q : Nat) (n : Nat) (f : NI) (p1 : Int32) (p2 : Int32) (hn : n < 2147483648) : Wr G l yX4_lay wsX4_lay 0 0 [.ref q, .int p1, .int p2] (aW G.2.1 q n f) none (aW G.2.1 q n (s_X4_lay n f p1 p2)) := by
  refine Met.ofW (cc := cX4_lay) (maxL := 3) (ret := none) (by decide) rfl ?_
  intro p e s m args below meth c s₁ B hml hv
  obtain ⟨rfl, hP, hK, hD0⟩ := hv
  have C0 : cA p s m meth c ([.ref q, .int p1, .int p2] : List Value).toArray cX4_lay 3 none wsX4_lay RX4 := ⟨B.exec, B.bytes, B.returns, hml, findClass_of_methodNamed B.named, atoms_spec (ws := wsX4_lay) B.pre, B.notSynchronized⟩
  obtain ⟨hx, hb, hr, hml, hown, hts, hlocks⟩ := id C0
  have hF : CallFix p m c cX4_lay 3 s _ wsX4_lay RX4 := ⟨hx, hb, hml, hown, hts⟩
  obtain ⟨w0, hw0⟩ : ∃ w0 : va_W, w0 = (aW G.2.1 q n f) := ⟨_, rfl⟩
  have hD : va_D (inW w0) (aW G.2.1 q n f) := by rw [hw0]; exact inW.D hD0
  have hS : va_S (inW w0) s.heap s.heap [] := va_S.rf
  rw [show QW G (aW G.2.1 q n f) = QW G w0 from by rw [hw0], show inW (aW G.2.1 q n f) = inW w0 from by rw [hw0]]
  have hl := lv_entry ([.ref q, .int p1, .int p2]) (n := 3) (Nat.le_of_ble_eq_true rfl)
  rw [lg_entry_eq]
  generalize (lg_sl ([.ref q, .int p1, .int p2]) ++ List.replicate (3 - (lg_sl ([.ref q, .int p1, .int p2])).length) Slot.unset).toArray = ls at hl ⊢
  have hl : lv_has ls 3 [(0, .ref q), (1, .int p1), (2, .int p2)] := hl
  refine lv_iload_n hx hb dX4_lay_0 rfl (lv_at hl 1 rfl) ?_
  refine lv_if_lt (tgt := 14) hx hb dX4_lay_1 (by decide) (fun (c_1 : p1 < 0) => ?_) (fun (c_1 : ¬ p1 < 0) => ?_)
  · skip
    rw [show s_X4_lay n f p1 p2 = f from by rw [s_X4_lay]; rw [if_pos c_1]]
    exact W.vret hx hb hr (fun t ht hW => ⟨rfl, by rw [ht]; exact hP, hS.F ht⟩) hS.2.2 dX4_lay_14
  · skip
    refine lv_iload_n hx hb dX4_lay_4 rfl (lv_at hl 1 rfl) ?_
    refine lv_aload_n hx hb dX4_lay_5 rfl (lv_at hl 0 rfl) ?_
    refine va_alen (v := (nI n)) hx hb hK.1 hP 0 0 rfl rfl rfl dX4_lay_6 ?_
    refine lv_icmp_ge (tgt := 14) hx hb dX4_lay_7 (by decide) (fun (c_2 : (nI n) ≤ p1) => ?_) (fun (c_2 : ¬ (nI n) ≤ p1) => ?_)
    · skip
      rw [show s_X4_lay n f p1 p2 = f from by rw [s_X4_lay]; rw [if_neg c_1, if_pos c_2]]
      exact W.vret hx hb hr (fun t ht hW => ⟨rfl, by rw [ht]; exact hP, hS.F ht⟩) hS.2.2 dX4_lay_14
    · skip
      refine lv_aload_n hx hb dX4_lay_10 rfl (lv_at hl 0 rfl) ?_
      refine lv_iload_n hx hb dX4_lay_11 rfl (lv_at hl 1 rfl) ?_
      refine lv_iload_n hx hb dX4_lay_12 rfl (lv_at hl 2 rfl) ?_
      refine va_iast (cA := G.2.1) (n := n) (f := f) hx hb hK.1 hP hD hS 0 0 rfl rfl (at_in c_1 c_2 hn) dX4_lay_13 (fun H locs hP hD hS => ?_)
      have hP : va_P G.1 vwCl (aW G.2.1 q n (upd f p1.toNatClampNeg p2)) H := hP
      have hD : va_D (inW w0) (aW G.2.1 q n (upd f p1.toNatClampNeg p2)) := hD
      rw [show s_X4_lay n f p1 p2 = (upd f p1.toNatClampNeg p2) from by rw [s_X4_lay]; rw [if_neg c_1, if_neg c_2]]
      exact W.vret hx hb hr (fun t ht hW => ⟨rfl, by rw [ht]; exact hP, hS.F ht⟩) hS.2.2 dX4_lay_14
def s_X4_trackOf (p0 : Int32) : Int32 := (p0 / 12)
set_option maxHeartbeats 4000000 in
set_option maxRecDepth 100000 in
theorem c_X4_trackOf (l : Launch) (G : GG) (p0 : Int32) : Rd G l yX4_trackOf wsX4_trackOf 0 0 [.int p0] [] (.int (s_X4_trackOf p0)) := by
  refine Met.ofW (cc := cX4_trackOf) (maxL := 1) (ret := (some .int)) (by decide) rfl ?_
  intro p e s m args below meth c s₁ B hml hv
  obtain ⟨rfl, hP, hK⟩ := hv
  have C0 : cA p s m meth c ([.int p0] : List Value).toArray cX4_trackOf 1 (some .int) wsX4_trackOf RX4 := ⟨B.exec, B.bytes, B.returns, hml, findClass_of_methodNamed B.named, atoms_spec (ws := wsX4_trackOf) B.pre, B.notSynchronized⟩
  obtain ⟨hx, hb, hr, hml, hown, hts, hlocks⟩ := id C0
  have hF : CallFix p m c cX4_trackOf 1 s _ wsX4_trackOf RX4 := ⟨hx, hb, hml, hown, hts⟩
  have hl := lv_entry ([.int p0]) (n := 1) (Nat.le_of_ble_eq_true rfl)
  rw [lg_entry_eq]
  generalize (lg_sl ([.int p0]) ++ List.replicate (1 - (lg_sl ([.int p0])).length) Slot.unset).toArray = ls at hl ⊢
  have hl : lv_has ls 1 [(0, .int p0)] := hl
  refine lv_iload_n hx hb dX4_trackOf_0 rfl (lv_at hl 0 rfl) ?_
  refine lv_bipush (v := 12) hx hb dX4_trackOf_1 (by decide) ?_
  refine lv_idiv hx hb dX4_trackOf_3 (by decide) ?_
  rw [show s_X4_trackOf p0 = (p0 / 12) from by rw [s_X4_trackOf]]
  exact W.iret hx hb hr (fun t ht hW => ⟨rfl, ht⟩) (fun _ h => nomatch h) dX4_trackOf_4
def s_X4_isAddress (p0 : Int32) : Int32 := (if p0 < 0 then 0 else (if 192 ≤ p0 then 0 else 1))
theorem b_X4_isAddress (p0 : Int32) : s_X4_isAddress p0 = 0 ∨ s_X4_isAddress p0 = 1 := by
  unfold s_X4_isAddress
  repeat' split
  all_goals first | exact Or.inl rfl | exact Or.inr rfl
set_option maxHeartbeats 4000000 in
set_option maxRecDepth 100000 in
theorem c_X4_isAddress (l : Launch) (G : GG) (p0 : Int32) : Rd G l yX4_isAddress wsX4_isAddress 0 0 [.int p0] [] (.int (s_X4_isAddress p0)) := by
  refine Met.ofW (cc := cX4_isAddress) (maxL := 1) (ret := (some .boolean)) (by decide) rfl ?_
  intro p e s m args below meth c s₁ B hml hv
  obtain ⟨rfl, hP, hK⟩ := hv
  have C0 : cA p s m meth c ([.int p0] : List Value).toArray cX4_isAddress 1 (some .boolean) wsX4_isAddress RX4 := ⟨B.exec, B.bytes, B.returns, hml, findClass_of_methodNamed B.named, atoms_spec (ws := wsX4_isAddress) B.pre, B.notSynchronized⟩
  obtain ⟨hx, hb, hr, hml, hown, hts, hlocks⟩ := id C0
  have hF : CallFix p m c cX4_isAddress 1 s _ wsX4_isAddress RX4 := ⟨hx, hb, hml, hown, hts⟩
  have hl := lv_entry ([.int p0]) (n := 1) (Nat.le_of_ble_eq_true rfl)
  rw [lg_entry_eq]
  generalize (lg_sl ([.int p0]) ++ List.replicate (1 - (lg_sl ([.int p0])).length) Slot.unset).toArray = ls at hl ⊢
  have hl : lv_has ls 1 [(0, .int p0)] := hl
  refine lv_iload_n hx hb dX4_isAddress_0 rfl (lv_at hl 0 rfl) ?_
  refine lv_if_lt (tgt := 15) hx hb dX4_isAddress_1 (by decide) (fun (c_1 : p0 < 0) => ?_) (fun (c_1 : ¬ p0 < 0) => ?_)
  · skip
    refine lv_iconst (v := 0) hx hb dX4_isAddress_15 (by decide) ?_
    rw [show s_X4_isAddress p0 = 0 from by rw [s_X4_isAddress]; rw [if_pos c_1]]
    exact W.zret (ty := .boolean) hx hb hr rfl (fun t ht hW => ⟨rfl, ht⟩) (fun _ h => nomatch h) dX4_isAddress_16
  · skip
    refine lv_iload_n hx hb dX4_isAddress_4 rfl (lv_at hl 0 rfl) ?_
    refine lv_sipush (v := 192) hx hb dX4_isAddress_5 (by decide) ?_
    refine lv_icmp_ge (tgt := 15) hx hb dX4_isAddress_8 (by decide) (fun (c_2 : 192 ≤ p0) => ?_) (fun (c_2 : ¬ 192 ≤ p0) => ?_)
    · skip
      refine lv_iconst (v := 0) hx hb dX4_isAddress_15 (by decide) ?_
      rw [show s_X4_isAddress p0 = 0 from by rw [s_X4_isAddress]; rw [if_neg c_1, if_pos c_2]]
      exact W.zret (ty := .boolean) hx hb hr rfl (fun t ht hW => ⟨rfl, ht⟩) (fun _ h => nomatch h) dX4_isAddress_16
    · skip
      refine lv_iconst (v := 1) hx hb dX4_isAddress_11 (by decide) ?_
      refine lv_goto (tgt := 16) hx hb dX4_isAddress_12 (by decide) ?_
      rw [show s_X4_isAddress p0 = 1 from by rw [s_X4_isAddress]; rw [if_neg c_1, if_neg c_2]]
      exact W.zret (ty := .boolean) hx hb hr rfl (fun t ht hW => ⟨rfl, ht⟩) (fun _ h => nomatch h) dX4_isAddress_16
def s_X4_isSpare (p0 : Int32) : Int32 := (if p0 < 192 then 0 else 1)
theorem b_X4_isSpare (p0 : Int32) : s_X4_isSpare p0 = 0 ∨ s_X4_isSpare p0 = 1 := by
  unfold s_X4_isSpare
  repeat' split
  all_goals first | exact Or.inl rfl | exact Or.inr rfl
set_option maxHeartbeats 4000000 in
set_option maxRecDepth 100000 in
theorem c_X4_isSpare (l : Launch) (G : GG) (p0 : Int32) : Rd G l yX4_isSpare wsX4_isSpare 0 0 [.int p0] [] (.int (s_X4_isSpare p0)) := by
  refine Met.ofW (cc := cX4_isSpare) (maxL := 1) (ret := (some .boolean)) (by decide) rfl ?_
  intro p e s m args below meth c s₁ B hml hv
  obtain ⟨rfl, hP, hK⟩ := hv
  have C0 : cA p s m meth c ([.int p0] : List Value).toArray cX4_isSpare 1 (some .boolean) wsX4_isSpare RX4 := ⟨B.exec, B.bytes, B.returns, hml, findClass_of_methodNamed B.named, atoms_spec (ws := wsX4_isSpare) B.pre, B.notSynchronized⟩
  obtain ⟨hx, hb, hr, hml, hown, hts, hlocks⟩ := id C0
  have hF : CallFix p m c cX4_isSpare 1 s _ wsX4_isSpare RX4 := ⟨hx, hb, hml, hown, hts⟩
  have hl := lv_entry ([.int p0]) (n := 1) (Nat.le_of_ble_eq_true rfl)
  rw [lg_entry_eq]
  generalize (lg_sl ([.int p0]) ++ List.replicate (1 - (lg_sl ([.int p0])).length) Slot.unset).toArray = ls at hl ⊢
  have hl : lv_has ls 1 [(0, .int p0)] := hl
  refine lv_iload_n hx hb dX4_isSpare_0 rfl (lv_at hl 0 rfl) ?_
  refine lv_sipush (v := 192) hx hb dX4_isSpare_1 (by decide) ?_
  refine lv_icmp_lt (tgt := 11) hx hb dX4_isSpare_4 (by decide) (fun (c_1 : p0 < 192) => ?_) (fun (c_1 : ¬ p0 < 192) => ?_)
  · skip
    refine lv_iconst (v := 0) hx hb dX4_isSpare_11 (by decide) ?_
    rw [show s_X4_isSpare p0 = 0 from by rw [s_X4_isSpare]; rw [if_pos c_1]]
    exact W.zret (ty := .boolean) hx hb hr rfl (fun t ht hW => ⟨rfl, ht⟩) (fun _ h => nomatch h) dX4_isSpare_12
  · skip
    refine lv_iconst (v := 1) hx hb dX4_isSpare_7 (by decide) ?_
    refine lv_goto (tgt := 12) hx hb dX4_isSpare_8 (by decide) ?_
    rw [show s_X4_isSpare p0 = 1 from by rw [s_X4_isSpare]; rw [if_neg c_1]]
    exact W.zret (ty := .boolean) hx hb hr rfl (fun t ht hW => ⟨rfl, ht⟩) (fun _ h => nomatch h) dX4_isSpare_12
def s_X4_isTrack (p0 : Int32) : Int32 := (if p0 < 0 then 0 else (if 16 < p0 then 0 else 1))
theorem b_X4_isTrack (p0 : Int32) : s_X4_isTrack p0 = 0 ∨ s_X4_isTrack p0 = 1 := by
  unfold s_X4_isTrack
  repeat' split
  all_goals first | exact Or.inl rfl | exact Or.inr rfl
set_option maxHeartbeats 4000000 in
set_option maxRecDepth 100000 in
theorem c_X4_isTrack (l : Launch) (G : GG) (p0 : Int32) : Rd G l yX4_isTrack wsX4_isTrack 0 0 [.int p0] [] (.int (s_X4_isTrack p0)) := by
  refine Met.ofW (cc := cX4_isTrack) (maxL := 1) (ret := (some .boolean)) (by decide) rfl ?_
  intro p e s m args below meth c s₁ B hml hv
  obtain ⟨rfl, hP, hK⟩ := hv
  have C0 : cA p s m meth c ([.int p0] : List Value).toArray cX4_isTrack 1 (some .boolean) wsX4_isTrack RX4 := ⟨B.exec, B.bytes, B.returns, hml, findClass_of_methodNamed B.named, atoms_spec (ws := wsX4_isTrack) B.pre, B.notSynchronized⟩
  obtain ⟨hx, hb, hr, hml, hown, hts, hlocks⟩ := id C0
  have hF : CallFix p m c cX4_isTrack 1 s _ wsX4_isTrack RX4 := ⟨hx, hb, hml, hown, hts⟩
  have hl := lv_entry ([.int p0]) (n := 1) (Nat.le_of_ble_eq_true rfl)
  rw [lg_entry_eq]
  generalize (lg_sl ([.int p0]) ++ List.replicate (1 - (lg_sl ([.int p0])).length) Slot.unset).toArray = ls at hl ⊢
  have hl : lv_has ls 1 [(0, .int p0)] := hl
  refine lv_iload_n hx hb dX4_isTrack_0 rfl (lv_at hl 0 rfl) ?_
  refine lv_if_lt (tgt := 14) hx hb dX4_isTrack_1 (by decide) (fun (c_1 : p0 < 0) => ?_) (fun (c_1 : ¬ p0 < 0) => ?_)
  · skip
    refine lv_iconst (v := 0) hx hb dX4_isTrack_14 (by decide) ?_
    rw [show s_X4_isTrack p0 = 0 from by rw [s_X4_isTrack]; rw [if_pos c_1]]
    exact W.zret (ty := .boolean) hx hb hr rfl (fun t ht hW => ⟨rfl, ht⟩) (fun _ h => nomatch h) dX4_isTrack_15
  · skip
    refine lv_iload_n hx hb dX4_isTrack_4 rfl (lv_at hl 0 rfl) ?_
    refine lv_bipush (v := 16) hx hb dX4_isTrack_5 (by decide) ?_
    refine lv_icmp_gt (tgt := 14) hx hb dX4_isTrack_7 (by decide) (fun (c_2 : 16 < p0) => ?_) (fun (c_2 : ¬ 16 < p0) => ?_)
    · skip
      refine lv_iconst (v := 0) hx hb dX4_isTrack_14 (by decide) ?_
      rw [show s_X4_isTrack p0 = 0 from by rw [s_X4_isTrack]; rw [if_neg c_1, if_pos c_2]]
      exact W.zret (ty := .boolean) hx hb hr rfl (fun t ht hW => ⟨rfl, ht⟩) (fun _ h => nomatch h) dX4_isTrack_15
    · skip
      refine lv_iconst (v := 1) hx hb dX4_isTrack_10 (by decide) ?_
      refine lv_goto (tgt := 15) hx hb dX4_isTrack_11 (by decide) ?_
      rw [show s_X4_isTrack p0 = 1 from by rw [s_X4_isTrack]; rw [if_neg c_1, if_neg c_2]]
      exact W.zret (ty := .boolean) hx hb hr rfl (fun t ht hW => ⟨rfl, ht⟩) (fun _ h => nomatch h) dX4_isTrack_15
def L1_X4_signsIn (p0 : Int64) : Nat → Int64 → Int32 → Int32
  | 0, v1_2, v1_4 => 0
  | n + 1, v1_2, v1_4 => (if (lg_cmp v1_2 0) = 0 then v1_4 else (if 8 ≤ v1_4 then v1_4 else (if (lg_cmp (v1_2 &&& 255) 33) < 0 then (-2) else (if (lg_cmp (v1_2 &&& 255) 126) ≤ 0 then (L1_X4_signsIn p0 n (jus v1_2 8) (v1_4 + 1)) else (-2)))))
def okL1_X4_signsIn (p0 : Int64) : Nat → Int64 → Int32 → Prop
  | 0, _, _ => False
  | n + 1, v1_2, v1_4 => ((lg_cmp v1_2 0) = 0 → True) ∧ (¬ (lg_cmp v1_2 0) = 0 → ((8 ≤ v1_4 → True) ∧ (¬ 8 ≤ v1_4 → (((lg_cmp (v1_2 &&& 255) 33) < 0 → True) ∧ (¬ (lg_cmp (v1_2 &&& 255) 33) < 0 → (((lg_cmp (v1_2 &&& 255) 126) ≤ 0 → (okL1_X4_signsIn p0 n (jus v1_2 8) (v1_4 + 1))) ∧ (¬ (lg_cmp (v1_2 &&& 255) 126) ≤ 0 → True)))))))
def s_X4_signsIn (p0 : Int64) : Int32 := (L1_X4_signsIn p0 FU p0 0)
def ok_X4_signsIn (p0 : Int64) : Prop := okL1_X4_signsIn p0 FU p0 0
set_option maxHeartbeats 4000000 in
set_option maxRecDepth 100000 in
theorem wL1_X4_signsIn {p : Program} {e : Env} {s : State} {m : MethodId} {args : Array Value} {below : List Frame} {meth : Method} {c : Code} (l : Launch) (G : GG) (p0 : Int64) (hP : va_P G.1 vwCl [] s.heap) (C0 : cA p s m meth c args cX4_signsIn 7 (some .int) wsX4_signsIn RX4) (hK : cK G s) : ∀ (n : Nat) (v1_2 : Int64) (v1_4 : Int32)  (hok : okL1_X4_signsIn p0 n v1_2 v1_4) (ls : Array Slot), lv_has ls 7 [(0, .long p0), (2, .long v1_2), (4, .int v1_4)] → W p l e (rmm 0 0) s m args below meth c s.heap [] 0 0 (MQ below (QR (some (.int (L1_X4_signsIn p0 n v1_2 v1_4)))) args s 0 0 (fun _ => False)) (F0 m 5 ls []) := by
  obtain ⟨hx, hb, hr, hml, hown, hts, hlocks⟩ := id C0
  have hF : CallFix p m c cX4_signsIn 7 s args wsX4_signsIn RX4 := ⟨hx, hb, hml, hown, hts⟩
  intro n
  induction n with
  | zero =>
    intro v1_2 v1_4 hok
    exact hok.elim
  | succ n ih =>
    intro v1_2 v1_4 hok ls hl
    have hok : ((lg_cmp v1_2 0) = 0 → True) ∧ (¬ (lg_cmp v1_2 0) = 0 → ((8 ≤ v1_4 → True) ∧ (¬ 8 ≤ v1_4 → (((lg_cmp (v1_2 &&& 255) 33) < 0 → True) ∧ (¬ (lg_cmp (v1_2 &&& 255) 33) < 0 → (((lg_cmp (v1_2 &&& 255) 126) ≤ 0 → (okL1_X4_signsIn p0 n (jus v1_2 8) (v1_4 + 1))) ∧ (¬ (lg_cmp (v1_2 &&& 255) 126) ≤ 0 → True))))))) := hok
    refine lv_lload_n hx hb dX4_signsIn_5 rfl (lv_at hl 1 rfl) ?_
    refine lv_lconst (v := 0) hx hb dX4_signsIn_6 (by decide) ?_
    refine W.lcmp hx hb dX4_signsIn_7 ?_
    refine lv_if_eq (tgt := 57) hx hb dX4_signsIn_8 (by decide) (fun (c_1 : (lg_cmp v1_2 0) = 0) => ?_) (fun (c_1 : ¬ (lg_cmp v1_2 0) = 0) => ?_)
    · skip
      refine lv_iload hx hb dX4_signsIn_57 (lv_at hl 2 rfl) ?_
      rw [show (L1_X4_signsIn p0 (n + 1) v1_2 v1_4) = v1_4 from by rw [L1_X4_signsIn]; rw [if_pos c_1]]
      exact W.iret hx hb hr (fun t ht hW => ⟨rfl, ht⟩) (fun _ h => nomatch h) dX4_signsIn_59
    · skip
      have hok := hok.2 c_1
      refine lv_iload hx hb dX4_signsIn_11 (lv_at hl 2 rfl) ?_
      refine lv_bipush (v := 8) hx hb dX4_signsIn_13 (by decide) ?_
      refine lv_icmp_ge (tgt := 57) hx hb dX4_signsIn_15 (by decide) (fun (c_2 : 8 ≤ v1_4) => ?_) (fun (c_2 : ¬ 8 ≤ v1_4) => ?_)
      · skip
        refine lv_iload hx hb dX4_signsIn_57 (lv_at hl 2 rfl) ?_
        rw [show (L1_X4_signsIn p0 (n + 1) v1_2 v1_4) = v1_4 from by rw [L1_X4_signsIn]; rw [if_neg c_1, if_pos c_2]]
        exact W.iret hx hb hr (fun t ht hW => ⟨rfl, ht⟩) (fun _ h => nomatch h) dX4_signsIn_59
      · skip
        have hok := hok.2 c_2
        refine lv_lload_n hx hb dX4_signsIn_18 rfl (lv_at hl 1 rfl) ?_
        refine lv_ldc2 (v := 255) hx hb hown (hts (.constantLong RX4 194 (255)) (by decide +kernel)) dX4_signsIn_19 ?_
        refine lv_land hx hb dX4_signsIn_22 ?_
        refine lv_lstore (lv' := [(5, .long (v1_2 &&& 255)), (0, .long p0), (2, .long v1_2), (4, .int v1_4)]) hx hb dX4_signsIn_23 hl (by decide) rfl (fun ls hl => ?_)
        refine lv_lload hx hb dX4_signsIn_25 (lv_at hl 0 rfl) ?_
        refine lv_ldc2 (v := 33) hx hb hown (hts (.constantLong RX4 196 (33)) (by decide +kernel)) dX4_signsIn_27 ?_
        refine W.lcmp hx hb dX4_signsIn_30 ?_
        refine lv_if_lt (tgt := 43) hx hb dX4_signsIn_31 (by decide) (fun (c_3 : (lg_cmp (v1_2 &&& 255) 33) < 0) => ?_) (fun (c_3 : ¬ (lg_cmp (v1_2 &&& 255) 33) < 0) => ?_)
        · skip
          refine lv_bipush (v := (-2)) hx hb dX4_signsIn_43 (by decide) ?_
          rw [show (L1_X4_signsIn p0 (n + 1) v1_2 v1_4) = (-2) from by rw [L1_X4_signsIn]; rw [if_neg c_1, if_neg c_2, if_pos c_3]]
          exact W.iret hx hb hr (fun t ht hW => ⟨rfl, ht⟩) (fun _ h => nomatch h) dX4_signsIn_45
        · skip
          have hok := hok.2 c_3
          refine lv_lload hx hb dX4_signsIn_34 (lv_at hl 0 rfl) ?_
          refine lv_ldc2 (v := 126) hx hb hown (hts (.constantLong RX4 198 (126)) (by decide +kernel)) dX4_signsIn_36 ?_
          refine W.lcmp hx hb dX4_signsIn_39 ?_
          refine lv_if_le (tgt := 46) hx hb dX4_signsIn_40 (by decide) (fun (c_4 : (lg_cmp (v1_2 &&& 255) 126) ≤ 0) => ?_) (fun (c_4 : ¬ (lg_cmp (v1_2 &&& 255) 126) ≤ 0) => ?_)
          · skip
            have hok := hok.1 c_4
            refine lv_lload_n hx hb dX4_signsIn_46 rfl (lv_at hl 2 rfl) ?_
            refine lv_bipush (v := 8) hx hb dX4_signsIn_47 (by decide) ?_
            refine lv_lushr (v := (jus v1_2 8)) hx hb dX4_signsIn_49 rfl ?_
            refine lv_lstore_n (lv' := [(2, .long (jus v1_2 8)), (5, .long (v1_2 &&& 255)), (0, .long p0), (4, .int v1_4)]) hx hb dX4_signsIn_50 rfl hl (by decide) rfl (fun ls hl => ?_)
            refine lv_iinc (v := (v1_4 + 1)) (lv' := [(4, .int (v1_4 + 1)), (2, .long (jus v1_2 8)), (5, .long (v1_2 &&& 255)), (0, .long p0)]) hx hb dX4_signsIn_51 hl (k := 3) rfl rfl (by decide) rfl (fun ls hl => ?_)
            refine lv_goto (tgt := 5) hx hb dX4_signsIn_54 (by decide) ?_
            rw [show (L1_X4_signsIn p0 (n + 1) v1_2 v1_4) = (L1_X4_signsIn p0 n (jus v1_2 8) (v1_4 + 1)) from by rw [L1_X4_signsIn]; rw [if_neg c_1, if_neg c_2, if_neg c_3, if_pos c_4]]
            exact ih (jus v1_2 8) (v1_4 + 1) hok ls (lv_sub hl [3, 1, 0] rfl)
          · skip
            refine lv_bipush (v := (-2)) hx hb dX4_signsIn_43 (by decide) ?_
            rw [show (L1_X4_signsIn p0 (n + 1) v1_2 v1_4) = (-2) from by rw [L1_X4_signsIn]; rw [if_neg c_1, if_neg c_2, if_neg c_3, if_neg c_4]]
            exact W.iret hx hb hr (fun t ht hW => ⟨rfl, ht⟩) (fun _ h => nomatch h) dX4_signsIn_45
set_option maxHeartbeats 4000000 in
set_option maxRecDepth 100000 in
theorem c_X4_signsIn (l : Launch) (G : GG) (p0 : Int64) (hok : ok_X4_signsIn p0) : Rd G l yX4_signsIn wsX4_signsIn 0 0 [.long p0] [] (.int (s_X4_signsIn p0)) := by
  refine Met.ofW (cc := cX4_signsIn) (maxL := 7) (ret := (some .int)) (by decide) rfl ?_
  intro p e s m args below meth c s₁ B hml hv
  obtain ⟨rfl, hP, hK⟩ := hv
  have C0 : cA p s m meth c ([.long p0] : List Value).toArray cX4_signsIn 7 (some .int) wsX4_signsIn RX4 := ⟨B.exec, B.bytes, B.returns, hml, findClass_of_methodNamed B.named, atoms_spec (ws := wsX4_signsIn) B.pre, B.notSynchronized⟩
  obtain ⟨hx, hb, hr, hml, hown, hts, hlocks⟩ := id C0
  have hF : CallFix p m c cX4_signsIn 7 s _ wsX4_signsIn RX4 := ⟨hx, hb, hml, hown, hts⟩
  have hl := lv_entry ([.long p0]) (n := 7) (Nat.le_of_ble_eq_true rfl)
  rw [lg_entry_eq]
  generalize (lg_sl ([.long p0]) ++ List.replicate (7 - (lg_sl ([.long p0])).length) Slot.unset).toArray = ls at hl ⊢
  have hl : lv_has ls 7 [(0, .long p0)] := hl
  have hok : okL1_X4_signsIn p0 FU p0 0 := hok
  refine lv_lload_n hx hb dX4_signsIn_0 rfl (lv_at hl 0 rfl) ?_
  refine lv_lstore_n (lv' := [(2, .long p0), (0, .long p0)]) hx hb dX4_signsIn_1 rfl hl (by decide) rfl (fun ls hl => ?_)
  refine lv_iconst (v := 0) hx hb dX4_signsIn_2 (by decide) ?_
  refine lv_istore (lv' := [(4, .int 0), (2, .long p0), (0, .long p0)]) hx hb dX4_signsIn_3 hl (by decide) rfl (fun ls hl => ?_)
  rw [show s_X4_signsIn p0 = (L1_X4_signsIn p0 FU p0 0) from by rw [s_X4_signsIn]]
  exact wL1_X4_signsIn l G p0 hP C0 hK FU p0 0 hok ls (lv_sub hl [2, 1, 0] rfl)
def s_J9_floorMod (p0 : Int32) : Int32 := (if 0 ≤ (p0 ^^^ 12) then (jrem p0 12) else (if (jrem p0 12) = 0 then (jrem p0 12) else ((jrem p0 12) + 12)))
set_option maxHeartbeats 4000000 in
set_option maxRecDepth 100000 in
theorem c_J9_floorMod (l : Launch) (G : GG) (p0 : Int32) : Rd G l yJ9_floorMod_7cf53 wsJ9_floorMod_7cf53 0 0 [.int p0, .int 12] [] (.int (s_J9_floorMod p0)) := by
  refine va_MetF (cc := cJ9_floorMod_7cf53) (maxL := 3) (ret := (some .int)) (by decide +kernel) rfl ?_
  intro p e s m args below meth c s₁ B hml hv
  obtain ⟨rfl, hP, hK⟩ := hv
  have C0 : cA p s m meth c ([.int p0, .int 12] : List Value).toArray cJ9_floorMod_7cf53 3 (some .int) wsJ9_floorMod_7cf53 RJ9 := ⟨B.exec, B.bytes, B.returns, hml, findClass_of_methodNamed B.named, atoms_spec (ws := wsJ9_floorMod_7cf53) B.pre, B.notSynchronized⟩
  obtain ⟨hx, hb, hr, hml, hown, hts, hlocks⟩ := id C0
  have hF : CallFix p m c cJ9_floorMod_7cf53 3 s _ wsJ9_floorMod_7cf53 RJ9 := ⟨hx, hb, hml, hown, hts⟩
  have hl := lv_entry ([.int p0, .int 12]) (n := 3) (Nat.le_of_ble_eq_true rfl)
  rw [lg_entry_eq]
  generalize (lg_sl ([.int p0, .int 12]) ++ List.replicate (3 - (lg_sl ([.int p0, .int 12])).length) Slot.unset).toArray = ls at hl ⊢
  have hl : lv_has ls 3 [(0, .int p0), (1, .int 12)] := hl
  refine lv_iload_n hx hb dJ9_floorMod_7cf53_0 rfl (lv_at hl 0 rfl) ?_
  refine lv_iload_n hx hb dJ9_floorMod_7cf53_1 rfl (lv_at hl 1 rfl) ?_
  refine lv_irem hx hb dJ9_floorMod_7cf53_2 (by decide) ?_
  refine lv_istore_n (lv' := [(2, .int (jrem p0 12)), (0, .int p0), (1, .int 12)]) hx hb dJ9_floorMod_7cf53_3 rfl hl (by decide) rfl (fun ls hl => ?_)
  refine lv_iload_n hx hb dJ9_floorMod_7cf53_4 rfl (lv_at hl 1 rfl) ?_
  refine lv_iload_n hx hb dJ9_floorMod_7cf53_5 rfl (lv_at hl 2 rfl) ?_
  refine lv_ixor hx hb dJ9_floorMod_7cf53_6 ?_
  refine lv_if_ge (tgt := 18) hx hb dJ9_floorMod_7cf53_7 (by decide) (fun (c_1 : 0 ≤ (p0 ^^^ 12)) => ?_) (fun (c_1 : ¬ 0 ≤ (p0 ^^^ 12)) => ?_)
  · skip
    refine lv_iload_n hx hb dJ9_floorMod_7cf53_18 rfl (lv_at hl 0 rfl) ?_
    rw [show s_J9_floorMod p0 = (jrem p0 12) from by rw [s_J9_floorMod]; rw [if_pos c_1]]
    exact W.iret hx hb hr (fun t ht hW => ⟨rfl, ht⟩) (fun _ h => nomatch h) dJ9_floorMod_7cf53_19
  · skip
    refine lv_iload_n hx hb dJ9_floorMod_7cf53_10 rfl (lv_at hl 0 rfl) ?_
    refine lv_if_eq (tgt := 18) hx hb dJ9_floorMod_7cf53_11 (by decide) (fun (c_2 : (jrem p0 12) = 0) => ?_) (fun (c_2 : ¬ (jrem p0 12) = 0) => ?_)
    · skip
      refine lv_iload_n hx hb dJ9_floorMod_7cf53_18 rfl (lv_at hl 0 rfl) ?_
      rw [show s_J9_floorMod p0 = (jrem p0 12) from by rw [s_J9_floorMod]; rw [if_neg c_1, if_pos c_2]]
      exact W.iret hx hb hr (fun t ht hW => ⟨rfl, ht⟩) (fun _ h => nomatch h) dJ9_floorMod_7cf53_19
    · skip
      refine lv_iload_n hx hb dJ9_floorMod_7cf53_14 rfl (lv_at hl 0 rfl) ?_
      refine lv_iload_n hx hb dJ9_floorMod_7cf53_15 rfl (lv_at hl 2 rfl) ?_
      refine lv_iadd hx hb dJ9_floorMod_7cf53_16 ?_
      rw [show s_J9_floorMod p0 = ((jrem p0 12) + 12) from by rw [s_J9_floorMod]; rw [if_neg c_1, if_neg c_2]]
      exact W.iret hx hb hr (fun t ht hW => ⟨rfl, ht⟩) (fun _ h => nomatch h) dJ9_floorMod_7cf53_17
end
section
def s_X0_sectorFor (σ : DS) (p1 : Int32) : Int32 := (s_X4_at 192 (d_se σ) p1)
set_option maxHeartbeats 4000000 in
set_option maxRecDepth 100000 in
theorem c_X0_sectorFor (l : Launch) (G : GG) (α : Nat → Nat) (σ : DS) (p1 : Int32) : Rd G l yX0_sectorFor wsX0_sectorFor 1 21 [.ref (α 0), .int p1] (dW G.2.1 α σ) (.int (s_X0_sectorFor σ p1)) := by
  refine Met.ofW (cc := cX0_sectorFor) (maxL := 2) (ret := (some .int)) (by decide) rfl ?_
  intro p e s m args below meth c s₁ B hml hv
  obtain ⟨rfl, hP, hK⟩ := hv
  have C0 : cA p s m meth c ([.ref (α 0), .int p1] : List Value).toArray cX0_sectorFor 2 (some .int) wsX0_sectorFor RX0 := ⟨B.exec, B.bytes, B.returns, hml, findClass_of_methodNamed B.named, atoms_spec (ws := wsX0_sectorFor) B.pre, B.notSynchronized⟩
  obtain ⟨hx, hb, hr, hml, hown, hts, hlocks⟩ := id C0
  have hF : CallFix p m c cX0_sectorFor 2 s _ wsX0_sectorFor RX0 := ⟨hx, hb, hml, hown, hts⟩
  have hinX0 : ∀ w ∈ wsX00, w ∈ wsX0_sectorFor := by decide +kernel
  have hl := lv_entry ([.ref (α 0), .int p1]) (n := 2) (Nat.le_of_ble_eq_true rfl)
  rw [lg_entry_eq]
  generalize (lg_sl ([.ref (α 0), .int p1]) ++ List.replicate (2 - (lg_sl ([.ref (α 0), .int p1])).length) Slot.unset).toArray = ls at hl ⊢
  have hl : lv_has ls 2 [(0, .ref (α 0)), (1, .int p1)] := hl
  refine lv_aload_n hx hb dX0_sectorFor_0 rfl (lv_at hl 0 rfl) ?_
  refine get_D_sectors hx hb hts hinX0 hown hK hP (hts (.fieldLink RX0 27 "GrooveTurns$Disc" "sectors" "[I") (by decide +kernel)) dX0_sectorFor_1 ?_
  refine lv_iload_n hx hb dX0_sectorFor_4 rfl (lv_at hl 1 rfl) ?_
  refine rdN (As := [.ref (α 5), .int p1]) (rest := []) (c_X4_at l G (α 5) 192 (d_se σ) p1 (by decide)) hF (va_cnB (host := RX4) 2 hts gX0_sectorFor_X4_at_n53 rfl rfl rfl (hK.nest 6 rfl) (hts (.initialized RX4) (by decide +kernel)) (by decide +kernel) ⟨Nat.le_of_ble_eq_true rfl, Nat.le_of_ble_eq_true rfl⟩) (hts (.static yX4_at) (by decide +kernel)) hK (cell_D_se hP) rfl hl.1 rfl (Nat.le_of_ble_eq_true rfl) dX0_sectorFor_5 ⟨Nat.zero_le _, Nat.zero_le _⟩ ?_
  rw [show s_X0_sectorFor σ p1 = (s_X4_at 192 (d_se σ) p1) from by rw [s_X0_sectorFor]]
  exact W.iret hx hb hr (fun t ht hW => ⟨rfl, ht⟩) (fun _ h => nomatch h) dX0_sectorFor_8
def s_X0_numberIn (σ : DS) (p1 : Int32) : Int32 := (s_X4_at 204 (d_nu σ) p1)
set_option maxHeartbeats 4000000 in
set_option maxRecDepth 100000 in
theorem c_X0_numberIn (l : Launch) (G : GG) (α : Nat → Nat) (σ : DS) (p1 : Int32) : Rd G l yX0_numberIn wsX0_numberIn 1 21 [.ref (α 0), .int p1] (dW G.2.1 α σ) (.int (s_X0_numberIn σ p1)) := by
  refine Met.ofW (cc := cX0_numberIn) (maxL := 2) (ret := (some .int)) (by decide) rfl ?_
  intro p e s m args below meth c s₁ B hml hv
  obtain ⟨rfl, hP, hK⟩ := hv
  have C0 : cA p s m meth c ([.ref (α 0), .int p1] : List Value).toArray cX0_numberIn 2 (some .int) wsX0_numberIn RX0 := ⟨B.exec, B.bytes, B.returns, hml, findClass_of_methodNamed B.named, atoms_spec (ws := wsX0_numberIn) B.pre, B.notSynchronized⟩
  obtain ⟨hx, hb, hr, hml, hown, hts, hlocks⟩ := id C0
  have hF : CallFix p m c cX0_numberIn 2 s _ wsX0_numberIn RX0 := ⟨hx, hb, hml, hown, hts⟩
  have hinX0 : ∀ w ∈ wsX00, w ∈ wsX0_numberIn := by decide +kernel
  have hl := lv_entry ([.ref (α 0), .int p1]) (n := 2) (Nat.le_of_ble_eq_true rfl)
  rw [lg_entry_eq]
  generalize (lg_sl ([.ref (α 0), .int p1]) ++ List.replicate (2 - (lg_sl ([.ref (α 0), .int p1])).length) Slot.unset).toArray = ls at hl ⊢
  have hl : lv_has ls 2 [(0, .ref (α 0)), (1, .int p1)] := hl
  refine lv_aload_n hx hb dX0_numberIn_0 rfl (lv_at hl 0 rfl) ?_
  refine get_D_numbers hx hb hts hinX0 hown hK hP (hts (.fieldLink RX0 18 "GrooveTurns$Disc" "numbers" "[I") (by decide +kernel)) dX0_numberIn_1 ?_
  refine lv_iload_n hx hb dX0_numberIn_4 rfl (lv_at hl 1 rfl) ?_
  refine rdN (As := [.ref (α 2), .int p1]) (rest := []) (c_X4_at l G (α 2) 204 (d_nu σ) p1 (by decide)) hF (va_cnB (host := RX4) 2 hts gX0_numberIn_X4_at_n53 rfl rfl rfl (hK.nest 6 rfl) (hts (.initialized RX4) (by decide +kernel)) (by decide +kernel) ⟨Nat.le_of_ble_eq_true rfl, Nat.le_of_ble_eq_true rfl⟩) (hts (.static yX4_at) (by decide +kernel)) hK (cell_D_nu hP) rfl hl.1 rfl (Nat.le_of_ble_eq_true rfl) dX0_numberIn_5 ⟨Nat.zero_le _, Nat.zero_le _⟩ ?_
  rw [show s_X0_numberIn σ p1 = (s_X4_at 204 (d_nu σ) p1) from by rw [s_X0_numberIn]]
  exact W.iret hx hb hr (fun t ht hW => ⟨rfl, ht⟩) (fun _ h => nomatch h) dX0_numberIn_8
def s_X0_blurOf (σ : DS) (p1 : Int32) : Int32 := (s_X4_at 204 (d_bl σ) p1)
set_option maxHeartbeats 4000000 in
set_option maxRecDepth 100000 in
theorem c_X0_blurOf (l : Launch) (G : GG) (α : Nat → Nat) (σ : DS) (p1 : Int32) : Rd G l yX0_blurOf wsX0_blurOf 1 21 [.ref (α 0), .int p1] (dW G.2.1 α σ) (.int (s_X0_blurOf σ p1)) := by
  refine Met.ofW (cc := cX0_blurOf) (maxL := 2) (ret := (some .int)) (by decide) rfl ?_
  intro p e s m args below meth c s₁ B hml hv
  obtain ⟨rfl, hP, hK⟩ := hv
  have C0 : cA p s m meth c ([.ref (α 0), .int p1] : List Value).toArray cX0_blurOf 2 (some .int) wsX0_blurOf RX0 := ⟨B.exec, B.bytes, B.returns, hml, findClass_of_methodNamed B.named, atoms_spec (ws := wsX0_blurOf) B.pre, B.notSynchronized⟩
  obtain ⟨hx, hb, hr, hml, hown, hts, hlocks⟩ := id C0
  have hF : CallFix p m c cX0_blurOf 2 s _ wsX0_blurOf RX0 := ⟨hx, hb, hml, hown, hts⟩
  have hinX0 : ∀ w ∈ wsX00, w ∈ wsX0_blurOf := by decide +kernel
  have hl := lv_entry ([.ref (α 0), .int p1]) (n := 2) (Nat.le_of_ble_eq_true rfl)
  rw [lg_entry_eq]
  generalize (lg_sl ([.ref (α 0), .int p1]) ++ List.replicate (2 - (lg_sl ([.ref (α 0), .int p1])).length) Slot.unset).toArray = ls at hl ⊢
  have hl : lv_has ls 2 [(0, .ref (α 0)), (1, .int p1)] := hl
  refine lv_aload_n hx hb dX0_blurOf_0 rfl (lv_at hl 0 rfl) ?_
  refine get_D_blurs hx hb hts hinX0 hown hK hP (hts (.fieldLink RX0 21 "GrooveTurns$Disc" "blurs" "[I") (by decide +kernel)) dX0_blurOf_1 ?_
  refine lv_iload_n hx hb dX0_blurOf_4 rfl (lv_at hl 1 rfl) ?_
  refine rdN (As := [.ref (α 3), .int p1]) (rest := []) (c_X4_at l G (α 3) 204 (d_bl σ) p1 (by decide)) hF (va_cnB (host := RX4) 2 hts gX0_blurOf_X4_at_n53 rfl rfl rfl (hK.nest 6 rfl) (hts (.initialized RX4) (by decide +kernel)) (by decide +kernel) ⟨Nat.le_of_ble_eq_true rfl, Nat.le_of_ble_eq_true rfl⟩) (hts (.static yX4_at) (by decide +kernel)) hK (cell_D_bl hP) rfl hl.1 rfl (Nat.le_of_ble_eq_true rfl) dX0_blurOf_5 ⟨Nat.zero_le _, Nat.zero_le _⟩ ?_
  rw [show s_X0_blurOf σ p1 = (s_X4_at 204 (d_bl σ) p1) from by rw [s_X0_blurOf]]
  exact W.iret hx hb hr (fun t ht hW => ⟨rfl, ht⟩) (fun _ h => nomatch h) dX0_blurOf_8
def s_X0_writingsOf (σ : DS) (p1 : Int32) : Int32 := (s_X4_at 204 (d_wr σ) p1)
set_option maxHeartbeats 4000000 in
set_option maxRecDepth 100000 in
theorem c_X0_writingsOf (l : Launch) (G : GG) (α : Nat → Nat) (σ : DS) (p1 : Int32) : Rd G l yX0_writingsOf wsX0_writingsOf 1 21 [.ref (α 0), .int p1] (dW G.2.1 α σ) (.int (s_X0_writingsOf σ p1)) := by
  refine Met.ofW (cc := cX0_writingsOf) (maxL := 2) (ret := (some .int)) (by decide) rfl ?_
  intro p e s m args below meth c s₁ B hml hv
  obtain ⟨rfl, hP, hK⟩ := hv
  have C0 : cA p s m meth c ([.ref (α 0), .int p1] : List Value).toArray cX0_writingsOf 2 (some .int) wsX0_writingsOf RX0 := ⟨B.exec, B.bytes, B.returns, hml, findClass_of_methodNamed B.named, atoms_spec (ws := wsX0_writingsOf) B.pre, B.notSynchronized⟩
  obtain ⟨hx, hb, hr, hml, hown, hts, hlocks⟩ := id C0
  have hF : CallFix p m c cX0_writingsOf 2 s _ wsX0_writingsOf RX0 := ⟨hx, hb, hml, hown, hts⟩
  have hinX0 : ∀ w ∈ wsX00, w ∈ wsX0_writingsOf := by decide +kernel
  have hl := lv_entry ([.ref (α 0), .int p1]) (n := 2) (Nat.le_of_ble_eq_true rfl)
  rw [lg_entry_eq]
  generalize (lg_sl ([.ref (α 0), .int p1]) ++ List.replicate (2 - (lg_sl ([.ref (α 0), .int p1])).length) Slot.unset).toArray = ls at hl ⊢
  have hl : lv_has ls 2 [(0, .ref (α 0)), (1, .int p1)] := hl
  refine lv_aload_n hx hb dX0_writingsOf_0 rfl (lv_at hl 0 rfl) ?_
  refine get_D_writings hx hb hts hinX0 hown hK hP (hts (.fieldLink RX0 24 "GrooveTurns$Disc" "writings" "[I") (by decide +kernel)) dX0_writingsOf_1 ?_
  refine lv_iload_n hx hb dX0_writingsOf_4 rfl (lv_at hl 1 rfl) ?_
  refine rdN (As := [.ref (α 4), .int p1]) (rest := []) (c_X4_at l G (α 4) 204 (d_wr σ) p1 (by decide)) hF (va_cnB (host := RX4) 2 hts gX0_writingsOf_X4_at_n53 rfl rfl rfl (hK.nest 6 rfl) (hts (.initialized RX4) (by decide +kernel)) (by decide +kernel) ⟨Nat.le_of_ble_eq_true rfl, Nat.le_of_ble_eq_true rfl⟩) (hts (.static yX4_at) (by decide +kernel)) hK (cell_D_wr hP) rfl hl.1 rfl (Nat.le_of_ble_eq_true rfl) dX0_writingsOf_5 ⟨Nat.zero_le _, Nat.zero_le _⟩ ?_
  rw [show s_X0_writingsOf σ p1 = (s_X4_at 204 (d_wr σ) p1) from by rw [s_X0_writingsOf]]
  exact W.iret hx hb hr (fun t ht hW => ⟨rfl, ht⟩) (fun _ h => nomatch h) dX0_writingsOf_8
def s_X0_settingOf (σ : DS) (p1 : Int32) : Int32 := (s_X4_at 5 (d_st σ) p1)
set_option maxHeartbeats 4000000 in
set_option maxRecDepth 100000 in
theorem c_X0_settingOf (l : Launch) (G : GG) (α : Nat → Nat) (σ : DS) (p1 : Int32) : Rd G l yX0_settingOf wsX0_settingOf 1 21 [.ref (α 0), .int p1] (dW G.2.1 α σ) (.int (s_X0_settingOf σ p1)) := by
  refine Met.ofW (cc := cX0_settingOf) (maxL := 2) (ret := (some .int)) (by decide) rfl ?_
  intro p e s m args below meth c s₁ B hml hv
  obtain ⟨rfl, hP, hK⟩ := hv
  have C0 : cA p s m meth c ([.ref (α 0), .int p1] : List Value).toArray cX0_settingOf 2 (some .int) wsX0_settingOf RX0 := ⟨B.exec, B.bytes, B.returns, hml, findClass_of_methodNamed B.named, atoms_spec (ws := wsX0_settingOf) B.pre, B.notSynchronized⟩
  obtain ⟨hx, hb, hr, hml, hown, hts, hlocks⟩ := id C0
  have hF : CallFix p m c cX0_settingOf 2 s _ wsX0_settingOf RX0 := ⟨hx, hb, hml, hown, hts⟩
  have hinX0 : ∀ w ∈ wsX00, w ∈ wsX0_settingOf := by decide +kernel
  have hl := lv_entry ([.ref (α 0), .int p1]) (n := 2) (Nat.le_of_ble_eq_true rfl)
  rw [lg_entry_eq]
  generalize (lg_sl ([.ref (α 0), .int p1]) ++ List.replicate (2 - (lg_sl ([.ref (α 0), .int p1])).length) Slot.unset).toArray = ls at hl ⊢
  have hl : lv_has ls 2 [(0, .ref (α 0)), (1, .int p1)] := hl
  refine lv_aload_n hx hb dX0_settingOf_0 rfl (lv_at hl 0 rfl) ?_
  refine get_D_settings hx hb hts hinX0 hown hK hP (hts (.fieldLink RX0 13 "GrooveTurns$Disc" "settings" "[I") (by decide +kernel)) dX0_settingOf_1 ?_
  refine lv_iload_n hx hb dX0_settingOf_4 rfl (lv_at hl 1 rfl) ?_
  refine rdN (As := [.ref (α 1), .int p1]) (rest := []) (c_X4_at l G (α 1) 5 (d_st σ) p1 (by decide)) hF (va_cnB (host := RX4) 2 hts gX0_settingOf_X4_at_n53 rfl rfl rfl (hK.nest 6 rfl) (hts (.initialized RX4) (by decide +kernel)) (by decide +kernel) ⟨Nat.le_of_ble_eq_true rfl, Nat.le_of_ble_eq_true rfl⟩) (hts (.static yX4_at) (by decide +kernel)) hK (cell_D_st hP) rfl hl.1 rfl (Nat.le_of_ble_eq_true rfl) dX0_settingOf_5 ⟨Nat.zero_le _, Nat.zero_le _⟩ ?_
  rw [show s_X0_settingOf σ p1 = (s_X4_at 5 (d_st σ) p1) from by rw [s_X0_settingOf]]
  exact W.iret hx hb hr (fun t ht hW => ⟨rfl, ht⟩) (fun _ h => nomatch h) dX0_settingOf_8
def s_X0_holdsNumber (σ : DS) (p1 : Int32) : Int32 := (if (s_X4_at 204 (d_nu σ) p1) = (-6) then 0 else 1)
theorem b_X0_holdsNumber (σ : DS) (p1 : Int32) : s_X0_holdsNumber σ p1 = 0 ∨ s_X0_holdsNumber σ p1 = 1 := by
  unfold s_X0_holdsNumber
  repeat' split
  all_goals first | exact Or.inl rfl | exact Or.inr rfl
set_option maxHeartbeats 4000000 in
set_option maxRecDepth 100000 in
theorem c_X0_holdsNumber (l : Launch) (G : GG) (α : Nat → Nat) (σ : DS) (p1 : Int32) : Rd G l yX0_holdsNumber wsX0_holdsNumber 1 21 [.ref (α 0), .int p1] (dW G.2.1 α σ) (.int (s_X0_holdsNumber σ p1)) := by
  refine Met.ofW (cc := cX0_holdsNumber) (maxL := 2) (ret := (some .boolean)) (by decide) rfl ?_
  intro p e s m args below meth c s₁ B hml hv
  obtain ⟨rfl, hP, hK⟩ := hv
  have C0 : cA p s m meth c ([.ref (α 0), .int p1] : List Value).toArray cX0_holdsNumber 2 (some .boolean) wsX0_holdsNumber RX0 := ⟨B.exec, B.bytes, B.returns, hml, findClass_of_methodNamed B.named, atoms_spec (ws := wsX0_holdsNumber) B.pre, B.notSynchronized⟩
  obtain ⟨hx, hb, hr, hml, hown, hts, hlocks⟩ := id C0
  have hF : CallFix p m c cX0_holdsNumber 2 s _ wsX0_holdsNumber RX0 := ⟨hx, hb, hml, hown, hts⟩
  have hinX0 : ∀ w ∈ wsX00, w ∈ wsX0_holdsNumber := by decide +kernel
  have hl := lv_entry ([.ref (α 0), .int p1]) (n := 2) (Nat.le_of_ble_eq_true rfl)
  rw [lg_entry_eq]
  generalize (lg_sl ([.ref (α 0), .int p1]) ++ List.replicate (2 - (lg_sl ([.ref (α 0), .int p1])).length) Slot.unset).toArray = ls at hl ⊢
  have hl : lv_has ls 2 [(0, .ref (α 0)), (1, .int p1)] := hl
  refine lv_aload_n hx hb dX0_holdsNumber_0 rfl (lv_at hl 0 rfl) ?_
  refine get_D_numbers hx hb hts hinX0 hown hK hP (hts (.fieldLink RX0 18 "GrooveTurns$Disc" "numbers" "[I") (by decide +kernel)) dX0_holdsNumber_1 ?_
  refine lv_iload_n hx hb dX0_holdsNumber_4 rfl (lv_at hl 1 rfl) ?_
  refine rdN (As := [.ref (α 2), .int p1]) (rest := []) (c_X4_at l G (α 2) 204 (d_nu σ) p1 (by decide)) hF (va_cnB (host := RX4) 2 hts gX0_holdsNumber_X4_at_n53 rfl rfl rfl (hK.nest 6 rfl) (hts (.initialized RX4) (by decide +kernel)) (by decide +kernel) ⟨Nat.le_of_ble_eq_true rfl, Nat.le_of_ble_eq_true rfl⟩) (hts (.static yX4_at) (by decide +kernel)) hK (cell_D_nu hP) rfl hl.1 rfl (Nat.le_of_ble_eq_true rfl) dX0_holdsNumber_5 ⟨Nat.zero_le _, Nat.zero_le _⟩ ?_
  refine lv_bipush (v := (-6)) hx hb dX0_holdsNumber_8 (by decide) ?_
  refine lv_icmp_eq (tgt := 17) hx hb dX0_holdsNumber_10 (by decide) (fun (c_1 : (s_X4_at 204 (d_nu σ) p1) = (-6)) => ?_) (fun (c_1 : ¬ (s_X4_at 204 (d_nu σ) p1) = (-6)) => ?_)
  · skip
    refine lv_iconst (v := 0) hx hb dX0_holdsNumber_17 (by decide) ?_
    rw [show s_X0_holdsNumber σ p1 = 0 from by rw [s_X0_holdsNumber]; rw [if_pos c_1]]
    exact W.zret (ty := .boolean) hx hb hr rfl (fun t ht hW => ⟨rfl, ht⟩) (fun _ h => nomatch h) dX0_holdsNumber_18
  · skip
    refine lv_iconst (v := 1) hx hb dX0_holdsNumber_13 (by decide) ?_
    refine lv_goto (tgt := 18) hx hb dX0_holdsNumber_14 (by decide) ?_
    rw [show s_X0_holdsNumber σ p1 = 1 from by rw [s_X0_holdsNumber]; rw [if_neg c_1]]
    exact W.zret (ty := .boolean) hx hb hr rfl (fun t ht hW => ⟨rfl, ht⟩) (fun _ h => nomatch h) dX0_holdsNumber_18
def s_X0_sparesLeft (σ : DS) : Int32 := (12 - (d_sp σ))
set_option maxHeartbeats 4000000 in
set_option maxRecDepth 100000 in
theorem c_X0_sparesLeft (l : Launch) (G : GG) (α : Nat → Nat) (σ : DS) : Rd G l yX0_sparesLeft wsX0_sparesLeft 0 0 [.ref (α 0)] (dW G.2.1 α σ) (.int (s_X0_sparesLeft σ)) := by
  refine Met.ofW (cc := cX0_sparesLeft) (maxL := 1) (ret := (some .int)) (by decide) rfl ?_
  intro p e s m args below meth c s₁ B hml hv
  obtain ⟨rfl, hP, hK⟩ := hv
  have C0 : cA p s m meth c ([.ref (α 0)] : List Value).toArray cX0_sparesLeft 1 (some .int) wsX0_sparesLeft RX0 := ⟨B.exec, B.bytes, B.returns, hml, findClass_of_methodNamed B.named, atoms_spec (ws := wsX0_sparesLeft) B.pre, B.notSynchronized⟩
  obtain ⟨hx, hb, hr, hml, hown, hts, hlocks⟩ := id C0
  have hF : CallFix p m c cX0_sparesLeft 1 s _ wsX0_sparesLeft RX0 := ⟨hx, hb, hml, hown, hts⟩
  have hinX0 : ∀ w ∈ wsX00, w ∈ wsX0_sparesLeft := by decide +kernel
  have hl := lv_entry ([.ref (α 0)]) (n := 1) (Nat.le_of_ble_eq_true rfl)
  rw [lg_entry_eq]
  generalize (lg_sl ([.ref (α 0)]) ++ List.replicate (1 - (lg_sl ([.ref (α 0)])).length) Slot.unset).toArray = ls at hl ⊢
  have hl : lv_has ls 1 [(0, .ref (α 0))] := hl
  refine lv_bipush (v := 12) hx hb dX0_sparesLeft_0 (by decide) ?_
  refine lv_aload_n hx hb dX0_sparesLeft_2 rfl (lv_at hl 0 rfl) ?_
  refine get_D_sparesTaken hx hb hts hinX0 hown hK hP (hts (.fieldLink RX0 30 "GrooveTurns$Disc" "sparesTaken" "I") (by decide +kernel)) dX0_sparesLeft_3 ?_
  refine lv_isub hx hb dX0_sparesLeft_6 ?_
  rw [show s_X0_sparesLeft σ = (12 - (d_sp σ)) from by rw [s_X0_sparesLeft]]
  exact W.iret hx hb hr (fun t ht hW => ⟨rfl, ht⟩) (fun _ h => nomatch h) dX0_sparesLeft_7
def s_X0_sectorUnderHead (σ : DS) : Int32 := (jrem (d_tk σ) 12)
set_option maxHeartbeats 4000000 in
set_option maxRecDepth 100000 in
theorem c_X0_sectorUnderHead (l : Launch) (G : GG) (α : Nat → Nat) (σ : DS) : Rd G l yX0_sectorUnderHead wsX0_sectorUnderHead 0 0 [.ref (α 0)] (dW G.2.1 α σ) (.int (s_X0_sectorUnderHead σ)) := by
  refine Met.ofW (cc := cX0_sectorUnderHead) (maxL := 1) (ret := (some .int)) (by decide) rfl ?_
  intro p e s m args below meth c s₁ B hml hv
  obtain ⟨rfl, hP, hK⟩ := hv
  have C0 : cA p s m meth c ([.ref (α 0)] : List Value).toArray cX0_sectorUnderHead 1 (some .int) wsX0_sectorUnderHead RX0 := ⟨B.exec, B.bytes, B.returns, hml, findClass_of_methodNamed B.named, atoms_spec (ws := wsX0_sectorUnderHead) B.pre, B.notSynchronized⟩
  obtain ⟨hx, hb, hr, hml, hown, hts, hlocks⟩ := id C0
  have hF : CallFix p m c cX0_sectorUnderHead 1 s _ wsX0_sectorUnderHead RX0 := ⟨hx, hb, hml, hown, hts⟩
  have hinX0 : ∀ w ∈ wsX00, w ∈ wsX0_sectorUnderHead := by decide +kernel
  have hl := lv_entry ([.ref (α 0)]) (n := 1) (Nat.le_of_ble_eq_true rfl)
  rw [lg_entry_eq]
  generalize (lg_sl ([.ref (α 0)]) ++ List.replicate (1 - (lg_sl ([.ref (α 0)])).length) Slot.unset).toArray = ls at hl ⊢
  have hl : lv_has ls 1 [(0, .ref (α 0))] := hl
  refine lv_aload_n hx hb dX0_sectorUnderHead_0 rfl (lv_at hl 0 rfl) ?_
  refine get_D_ticks hx hb hts hinX0 hown hK hP (hts (.fieldLink RX0 37 "GrooveTurns$Disc" "ticks" "I") (by decide +kernel)) dX0_sectorUnderHead_1 ?_
  refine lv_bipush (v := 12) hx hb dX0_sectorUnderHead_4 (by decide) ?_
  refine lv_irem hx hb dX0_sectorUnderHead_6 (by decide) ?_
  rw [show s_X0_sectorUnderHead σ = (jrem (d_tk σ) 12) from by rw [s_X0_sectorUnderHead]]
  exact W.iret hx hb hr (fun t ht hW => ⟨rfl, ht⟩) (fun _ h => nomatch h) dX0_sectorUnderHead_7
def s_X0_hasTime (σ : DS) (p1 : Int32) : Int32 := (if (9999999 - (d_tk σ)) < p1 then 0 else 1)
theorem b_X0_hasTime (σ : DS) (p1 : Int32) : s_X0_hasTime σ p1 = 0 ∨ s_X0_hasTime σ p1 = 1 := by
  unfold s_X0_hasTime
  repeat' split
  all_goals first | exact Or.inl rfl | exact Or.inr rfl
set_option maxHeartbeats 4000000 in
set_option maxRecDepth 100000 in
theorem c_X0_hasTime (l : Launch) (G : GG) (α : Nat → Nat) (σ : DS) (p1 : Int32) : Rd G l yX0_hasTime wsX0_hasTime 0 0 [.ref (α 0), .int p1] (dW G.2.1 α σ) (.int (s_X0_hasTime σ p1)) := by
  refine Met.ofW (cc := cX0_hasTime) (maxL := 2) (ret := (some .boolean)) (by decide) rfl ?_
  intro p e s m args below meth c s₁ B hml hv
  obtain ⟨rfl, hP, hK⟩ := hv
  have C0 : cA p s m meth c ([.ref (α 0), .int p1] : List Value).toArray cX0_hasTime 2 (some .boolean) wsX0_hasTime RX0 := ⟨B.exec, B.bytes, B.returns, hml, findClass_of_methodNamed B.named, atoms_spec (ws := wsX0_hasTime) B.pre, B.notSynchronized⟩
  obtain ⟨hx, hb, hr, hml, hown, hts, hlocks⟩ := id C0
  have hF : CallFix p m c cX0_hasTime 2 s _ wsX0_hasTime RX0 := ⟨hx, hb, hml, hown, hts⟩
  have hinX0 : ∀ w ∈ wsX00, w ∈ wsX0_hasTime := by decide +kernel
  have hl := lv_entry ([.ref (α 0), .int p1]) (n := 2) (Nat.le_of_ble_eq_true rfl)
  rw [lg_entry_eq]
  generalize (lg_sl ([.ref (α 0), .int p1]) ++ List.replicate (2 - (lg_sl ([.ref (α 0), .int p1])).length) Slot.unset).toArray = ls at hl ⊢
  have hl : lv_has ls 2 [(0, .ref (α 0)), (1, .int p1)] := hl
  refine lv_iload_n hx hb dX0_hasTime_0 rfl (lv_at hl 1 rfl) ?_
  refine lv_ldc (v := 9999999) hx hb hown (hts (.constant RX0 137 (9999999)) (by decide +kernel)) dX0_hasTime_1 ?_
  refine lv_aload_n hx hb dX0_hasTime_3 rfl (lv_at hl 0 rfl) ?_
  refine get_D_ticks hx hb hts hinX0 hown hK hP (hts (.fieldLink RX0 37 "GrooveTurns$Disc" "ticks" "I") (by decide +kernel)) dX0_hasTime_4 ?_
  refine lv_isub hx hb dX0_hasTime_7 ?_
  refine lv_icmp_gt (tgt := 15) hx hb dX0_hasTime_8 (by decide) (fun (c_1 : (9999999 - (d_tk σ)) < p1) => ?_) (fun (c_1 : ¬ (9999999 - (d_tk σ)) < p1) => ?_)
  · skip
    refine lv_iconst (v := 0) hx hb dX0_hasTime_15 (by decide) ?_
    rw [show s_X0_hasTime σ p1 = 0 from by rw [s_X0_hasTime]; rw [if_pos c_1]]
    exact W.zret (ty := .boolean) hx hb hr rfl (fun t ht hW => ⟨rfl, ht⟩) (fun _ h => nomatch h) dX0_hasTime_16
  · skip
    refine lv_iconst (v := 1) hx hb dX0_hasTime_11 (by decide) ?_
    refine lv_goto (tgt := 16) hx hb dX0_hasTime_12 (by decide) ?_
    rw [show s_X0_hasTime σ p1 = 1 from by rw [s_X0_hasTime]; rw [if_neg c_1]]
    exact W.zret (ty := .boolean) hx hb hr rfl (fun t ht hW => ⟨rfl, ht⟩) (fun _ h => nomatch h) dX0_hasTime_16
def s_X0_isReadable (σ : DS) (p1 : Int32) : Int32 := (if (s_X0_holdsNumber σ p1) = 0 then 0 else (if (s_X0_settingOf σ 2) ≤ (s_X0_blurOf σ p1) then 0 else 1))
theorem b_X0_isReadable (σ : DS) (p1 : Int32) : s_X0_isReadable σ p1 = 0 ∨ s_X0_isReadable σ p1 = 1 := by
  unfold s_X0_isReadable
  repeat' split
  all_goals first | exact b_X0_holdsNumber _ _ | exact Or.inl rfl | exact Or.inr rfl
set_option maxHeartbeats 4000000 in
set_option maxRecDepth 100000 in
theorem c_X0_isReadable (l : Launch) (G : GG) (α : Nat → Nat) (σ : DS) (p1 : Int32) : Rd G l yX0_isReadable wsX0_isReadable 2 42 [.ref (α 0), .int p1] (dW G.2.1 α σ) (.int (s_X0_isReadable σ p1)) := by
  refine Met.ofW (cc := cX0_isReadable) (maxL := 2) (ret := (some .boolean)) (by decide) rfl ?_
  intro p e s m args below meth c s₁ B hml hv
  obtain ⟨rfl, hP, hK⟩ := hv
  have C0 : cA p s m meth c ([.ref (α 0), .int p1] : List Value).toArray cX0_isReadable 2 (some .boolean) wsX0_isReadable RX0 := ⟨B.exec, B.bytes, B.returns, hml, findClass_of_methodNamed B.named, atoms_spec (ws := wsX0_isReadable) B.pre, B.notSynchronized⟩
  obtain ⟨hx, hb, hr, hml, hown, hts, hlocks⟩ := id C0
  have hF : CallFix p m c cX0_isReadable 2 s _ wsX0_isReadable RX0 := ⟨hx, hb, hml, hown, hts⟩
  have hl := lv_entry ([.ref (α 0), .int p1]) (n := 2) (Nat.le_of_ble_eq_true rfl)
  rw [lg_entry_eq]
  generalize (lg_sl ([.ref (α 0), .int p1]) ++ List.replicate (2 - (lg_sl ([.ref (α 0), .int p1])).length) Slot.unset).toArray = ls at hl ⊢
  have hl : lv_has ls 2 [(0, .ref (α 0)), (1, .int p1)] := hl
  refine lv_aload_n hx hb dX0_isReadable_0 rfl (lv_at hl 0 rfl) ?_
  refine lv_iload_n hx hb dX0_isReadable_1 rfl (lv_at hl 1 rfl) ?_
  refine rdV (As := [.int p1]) (rest := []) (c_X0_holdsNumber l G α σ p1) hF (cwV 1 hts gX0_isReadable_X0_holdsNumber rfl rfl rfl (by decide +kernel) ⟨Nat.le_of_ble_eq_true rfl, Nat.le_of_ble_eq_true rfl⟩) (rcv_D hK hP) hK hP rfl hl.1 rfl (Nat.le_of_ble_eq_true rfl) dX0_isReadable_2 ⟨Nat.zero_le _, Nat.zero_le _⟩ ?_
  refine lv_if_eq (tgt := 25) hx hb dX0_isReadable_5 (by decide) (fun (c_1 : (s_X0_holdsNumber σ p1) = 0) => ?_) (fun (c_1 : ¬ (s_X0_holdsNumber σ p1) = 0) => ?_)
  · skip
    refine lv_iconst (v := 0) hx hb dX0_isReadable_25 (by decide) ?_
    rw [show s_X0_isReadable σ p1 = 0 from by rw [s_X0_isReadable]; rw [if_pos c_1]]
    exact W.zret (ty := .boolean) hx hb hr rfl (fun t ht hW => ⟨rfl, ht⟩) (fun _ h => nomatch h) dX0_isReadable_26
  · skip
    refine lv_aload_n hx hb dX0_isReadable_8 rfl (lv_at hl 0 rfl) ?_
    refine lv_iload_n hx hb dX0_isReadable_9 rfl (lv_at hl 1 rfl) ?_
    refine rdV (As := [.int p1]) (rest := []) (c_X0_blurOf l G α σ p1) hF (cwV 1 hts gX0_isReadable_X0_blurOf rfl rfl rfl (by decide +kernel) ⟨Nat.le_of_ble_eq_true rfl, Nat.le_of_ble_eq_true rfl⟩) (rcv_D hK hP) hK hP rfl hl.1 rfl (Nat.le_of_ble_eq_true rfl) dX0_isReadable_10 ⟨Nat.zero_le _, Nat.zero_le _⟩ ?_
    refine lv_aload_n hx hb dX0_isReadable_13 rfl (lv_at hl 0 rfl) ?_
    refine lv_iconst (v := 2) hx hb dX0_isReadable_14 (by decide) ?_
    refine rdV (As := [.int 2]) (rest := [.int (s_X0_blurOf σ p1)]) (c_X0_settingOf l G α σ 2) hF (cwV 1 hts gX0_isReadable_X0_settingOf rfl rfl rfl (by decide +kernel) ⟨Nat.le_of_ble_eq_true rfl, Nat.le_of_ble_eq_true rfl⟩) (rcv_D hK hP) hK hP rfl hl.1 rfl (Nat.le_of_ble_eq_true rfl) dX0_isReadable_15 ⟨Nat.zero_le _, Nat.zero_le _⟩ ?_
    refine lv_icmp_ge (tgt := 25) hx hb dX0_isReadable_18 (by decide) (fun (c_2 : (s_X0_settingOf σ 2) ≤ (s_X0_blurOf σ p1)) => ?_) (fun (c_2 : ¬ (s_X0_settingOf σ 2) ≤ (s_X0_blurOf σ p1)) => ?_)
    · skip
      refine lv_iconst (v := 0) hx hb dX0_isReadable_25 (by decide) ?_
      rw [show s_X0_isReadable σ p1 = 0 from by rw [s_X0_isReadable]; rw [if_neg c_1, if_pos c_2]]
      exact W.zret (ty := .boolean) hx hb hr rfl (fun t ht hW => ⟨rfl, ht⟩) (fun _ h => nomatch h) dX0_isReadable_26
    · skip
      refine lv_iconst (v := 1) hx hb dX0_isReadable_21 (by decide) ?_
      refine lv_goto (tgt := 26) hx hb dX0_isReadable_22 (by decide) ?_
      rw [show s_X0_isReadable σ p1 = 1 from by rw [s_X0_isReadable]; rw [if_neg c_1, if_neg c_2]]
      exact W.zret (ty := .boolean) hx hb hr rfl (fun t ht hW => ⟨rfl, ht⟩) (fun _ h => nomatch h) dX0_isReadable_26
def s_X0_sectorToWrite (σ : DS) (p1 : Int32) : Int32 := (if (s_X0_writingsOf σ (s_X0_sectorFor σ p1)) < (s_X0_settingOf σ 3) then (s_X0_sectorFor σ p1) else (if (s_X0_sparesLeft σ) ≤ 0 then (s_X0_sectorFor σ p1) else (192 + (d_sp σ))))
set_option maxHeartbeats 4000000 in
set_option maxRecDepth 100000 in
theorem c_X0_sectorToWrite (l : Launch) (G : GG) (α : Nat → Nat) (σ : DS) (p1 : Int32) : Rd G l yX0_sectorToWrite wsX0_sectorToWrite 2 42 [.ref (α 0), .int p1] (dW G.2.1 α σ) (.int (s_X0_sectorToWrite σ p1)) := by
  refine Met.ofW (cc := cX0_sectorToWrite) (maxL := 4) (ret := (some .int)) (by decide) rfl ?_
  intro p e s m args below meth c s₁ B hml hv
  obtain ⟨rfl, hP, hK⟩ := hv
  have C0 : cA p s m meth c ([.ref (α 0), .int p1] : List Value).toArray cX0_sectorToWrite 4 (some .int) wsX0_sectorToWrite RX0 := ⟨B.exec, B.bytes, B.returns, hml, findClass_of_methodNamed B.named, atoms_spec (ws := wsX0_sectorToWrite) B.pre, B.notSynchronized⟩
  obtain ⟨hx, hb, hr, hml, hown, hts, hlocks⟩ := id C0
  have hF : CallFix p m c cX0_sectorToWrite 4 s _ wsX0_sectorToWrite RX0 := ⟨hx, hb, hml, hown, hts⟩
  have hinX0 : ∀ w ∈ wsX00, w ∈ wsX0_sectorToWrite := by decide +kernel
  have hl := lv_entry ([.ref (α 0), .int p1]) (n := 4) (Nat.le_of_ble_eq_true rfl)
  rw [lg_entry_eq]
  generalize (lg_sl ([.ref (α 0), .int p1]) ++ List.replicate (4 - (lg_sl ([.ref (α 0), .int p1])).length) Slot.unset).toArray = ls at hl ⊢
  have hl : lv_has ls 4 [(0, .ref (α 0)), (1, .int p1)] := hl
  refine lv_aload_n hx hb dX0_sectorToWrite_0 rfl (lv_at hl 0 rfl) ?_
  refine lv_iload_n hx hb dX0_sectorToWrite_1 rfl (lv_at hl 1 rfl) ?_
  refine rdV (As := [.int p1]) (rest := []) (c_X0_sectorFor l G α σ p1) hF (cwV 1 hts gX0_sectorToWrite_X0_sectorFor rfl rfl rfl (by decide +kernel) ⟨Nat.le_of_ble_eq_true rfl, Nat.le_of_ble_eq_true rfl⟩) (rcv_D hK hP) hK hP rfl hl.1 rfl (Nat.le_of_ble_eq_true rfl) dX0_sectorToWrite_2 ⟨Nat.zero_le _, Nat.zero_le _⟩ ?_
  refine lv_istore_n (lv' := [(2, .int (s_X0_sectorFor σ p1)), (0, .ref (α 0)), (1, .int p1)]) hx hb dX0_sectorToWrite_5 rfl hl (by decide) rfl (fun ls hl => ?_)
  refine lv_aload_n hx hb dX0_sectorToWrite_6 rfl (lv_at hl 1 rfl) ?_
  refine lv_iload_n hx hb dX0_sectorToWrite_7 rfl (lv_at hl 0 rfl) ?_
  refine rdV (As := [.int (s_X0_sectorFor σ p1)]) (rest := []) (c_X0_writingsOf l G α σ (s_X0_sectorFor σ p1)) hF (cwV 1 hts gX0_sectorToWrite_X0_writingsOf rfl rfl rfl (by decide +kernel) ⟨Nat.le_of_ble_eq_true rfl, Nat.le_of_ble_eq_true rfl⟩) (rcv_D hK hP) hK hP rfl hl.1 rfl (Nat.le_of_ble_eq_true rfl) dX0_sectorToWrite_8 ⟨Nat.zero_le _, Nat.zero_le _⟩ ?_
  refine lv_aload_n hx hb dX0_sectorToWrite_11 rfl (lv_at hl 1 rfl) ?_
  refine lv_iconst (v := 3) hx hb dX0_sectorToWrite_12 (by decide) ?_
  refine rdV (As := [.int 3]) (rest := [.int (s_X0_writingsOf σ (s_X0_sectorFor σ p1))]) (c_X0_settingOf l G α σ 3) hF (cwV 1 hts gX0_sectorToWrite_X0_settingOf rfl rfl rfl (by decide +kernel) ⟨Nat.le_of_ble_eq_true rfl, Nat.le_of_ble_eq_true rfl⟩) (rcv_D hK hP) hK hP rfl hl.1 rfl (Nat.le_of_ble_eq_true rfl) dX0_sectorToWrite_13 ⟨Nat.zero_le _, Nat.zero_le _⟩ ?_
  refine lv_icmp_lt (tgt := 23) hx hb dX0_sectorToWrite_16 (by decide) (fun (c_1 : (s_X0_writingsOf σ (s_X0_sectorFor σ p1)) < (s_X0_settingOf σ 3)) => ?_) (fun (c_1 : ¬ (s_X0_writingsOf σ (s_X0_sectorFor σ p1)) < (s_X0_settingOf σ 3)) => ?_)
  · skip
    refine lv_iconst (v := 0) hx hb dX0_sectorToWrite_23 (by decide) ?_
    refine lv_istore_n (lv' := [(3, .int 0), (2, .int (s_X0_sectorFor σ p1)), (0, .ref (α 0)), (1, .int p1)]) hx hb dX0_sectorToWrite_24 rfl hl (by decide) rfl (fun ls hl => ?_)
    refine lv_iload_n hx hb dX0_sectorToWrite_25 rfl (lv_at hl 0 rfl) ?_
    refine lv_if_eq (tgt := 47) hx hb dX0_sectorToWrite_26 (by decide) (fun (c_2 : 0 = 0) => ?_) (fun (c_2 : ¬ 0 = 0) => ?_)
    · skip
      refine lv_iload_n hx hb dX0_sectorToWrite_47 rfl (lv_at hl 1 rfl) ?_
      rw [show s_X0_sectorToWrite σ p1 = (s_X0_sectorFor σ p1) from by rw [s_X0_sectorToWrite]; rw [if_pos c_1]]
      exact W.iret hx hb hr (fun t ht hW => ⟨rfl, ht⟩) (fun _ h => nomatch h) dX0_sectorToWrite_48
    · skip
      exact absurd (by decide) c_2
  · skip
    refine lv_iconst (v := 1) hx hb dX0_sectorToWrite_19 (by decide) ?_
    refine lv_goto (tgt := 24) hx hb dX0_sectorToWrite_20 (by decide) ?_
    refine lv_istore_n (lv' := [(3, .int 1), (2, .int (s_X0_sectorFor σ p1)), (0, .ref (α 0)), (1, .int p1)]) hx hb dX0_sectorToWrite_24 rfl hl (by decide) rfl (fun ls hl => ?_)
    refine lv_iload_n hx hb dX0_sectorToWrite_25 rfl (lv_at hl 0 rfl) ?_
    refine lv_if_eq (tgt := 47) hx hb dX0_sectorToWrite_26 (by decide) (fun (c_3 : 1 = 0) => ?_) (fun (c_3 : ¬ 1 = 0) => ?_)
    · skip
      exact absurd c_3 (by decide)
    · skip
      refine lv_aload_n hx hb dX0_sectorToWrite_29 rfl (lv_at hl 2 rfl) ?_
      refine rdV (As := []) (rest := []) (c_X0_sparesLeft l G α σ) hF (cwV 0 hts gX0_sectorToWrite_X0_sparesLeft rfl rfl rfl (by decide +kernel) ⟨Nat.le_of_ble_eq_true rfl, Nat.le_of_ble_eq_true rfl⟩) (rcv_D hK hP) hK hP rfl hl.1 rfl (Nat.le_of_ble_eq_true rfl) dX0_sectorToWrite_30 ⟨Nat.zero_le _, Nat.zero_le _⟩ ?_
      refine lv_if_le (tgt := 47) hx hb dX0_sectorToWrite_33 (by decide) (fun (c_4 : (s_X0_sparesLeft σ) ≤ 0) => ?_) (fun (c_4 : ¬ (s_X0_sparesLeft σ) ≤ 0) => ?_)
      · skip
        refine lv_iload_n hx hb dX0_sectorToWrite_47 rfl (lv_at hl 1 rfl) ?_
        rw [show s_X0_sectorToWrite σ p1 = (s_X0_sectorFor σ p1) from by rw [s_X0_sectorToWrite]; rw [if_neg c_1, if_pos c_4]]
        exact W.iret hx hb hr (fun t ht hW => ⟨rfl, ht⟩) (fun _ h => nomatch h) dX0_sectorToWrite_48
      · skip
        refine lv_sipush (v := 192) hx hb dX0_sectorToWrite_36 (by decide) ?_
        refine lv_aload_n hx hb dX0_sectorToWrite_39 rfl (lv_at hl 2 rfl) ?_
        refine get_D_sparesTaken hx hb hts hinX0 hown hK hP (hts (.fieldLink RX0 30 "GrooveTurns$Disc" "sparesTaken" "I") (by decide +kernel)) dX0_sectorToWrite_40 ?_
        refine lv_iadd hx hb dX0_sectorToWrite_43 ?_
        refine lv_goto (tgt := 48) hx hb dX0_sectorToWrite_44 (by decide) ?_
        rw [show s_X0_sectorToWrite σ p1 = (192 + (d_sp σ)) from by rw [s_X0_sectorToWrite]; rw [if_neg c_1, if_neg c_4]]
        exact W.iret hx hb hr (fun t ht hW => ⟨rfl, ht⟩) (fun _ h => nomatch h) dX0_sectorToWrite_48
def s_X0_ticksToTrack (σ : DS) (p1 : Int32) : Int32 := ((s_X0_settingOf σ 4) * (jabs (p1 - (d_hd σ))))
set_option maxHeartbeats 4000000 in
set_option maxRecDepth 100000 in
theorem c_X0_ticksToTrack (l : Launch) (G : GG) (α : Nat → Nat) (σ : DS) (p1 : Int32) : Rd G l yX0_ticksToTrack wsX0_ticksToTrack 2 42 [.ref (α 0), .int p1] (dW G.2.1 α σ) (.int (s_X0_ticksToTrack σ p1)) := by
  refine Met.ofW (cc := cX0_ticksToTrack) (maxL := 2) (ret := (some .int)) (by decide) rfl ?_
  intro p e s m args below meth c s₁ B hml hv
  obtain ⟨rfl, hP, hK⟩ := hv
  have C0 : cA p s m meth c ([.ref (α 0), .int p1] : List Value).toArray cX0_ticksToTrack 2 (some .int) wsX0_ticksToTrack RX0 := ⟨B.exec, B.bytes, B.returns, hml, findClass_of_methodNamed B.named, atoms_spec (ws := wsX0_ticksToTrack) B.pre, B.notSynchronized⟩
  obtain ⟨hx, hb, hr, hml, hown, hts, hlocks⟩ := id C0
  have hF : CallFix p m c cX0_ticksToTrack 2 s _ wsX0_ticksToTrack RX0 := ⟨hx, hb, hml, hown, hts⟩
  have hinX0 : ∀ w ∈ wsX00, w ∈ wsX0_ticksToTrack := by decide +kernel
  have hl := lv_entry ([.ref (α 0), .int p1]) (n := 2) (Nat.le_of_ble_eq_true rfl)
  rw [lg_entry_eq]
  generalize (lg_sl ([.ref (α 0), .int p1]) ++ List.replicate (2 - (lg_sl ([.ref (α 0), .int p1])).length) Slot.unset).toArray = ls at hl ⊢
  have hl : lv_has ls 2 [(0, .ref (α 0)), (1, .int p1)] := hl
  refine lv_aload_n hx hb dX0_ticksToTrack_0 rfl (lv_at hl 0 rfl) ?_
  refine lv_iconst (v := 4) hx hb dX0_ticksToTrack_1 (by decide) ?_
  refine rdV (As := [.int 4]) (rest := []) (c_X0_settingOf l G α σ 4) hF (cwV 1 hts gX0_ticksToTrack_X0_settingOf rfl rfl rfl (by decide +kernel) ⟨Nat.le_of_ble_eq_true rfl, Nat.le_of_ble_eq_true rfl⟩) (rcv_D hK hP) hK hP rfl hl.1 rfl (Nat.le_of_ble_eq_true rfl) dX0_ticksToTrack_2 ⟨Nat.zero_le _, Nat.zero_le _⟩ ?_
  refine lv_iload_n hx hb dX0_ticksToTrack_5 rfl (lv_at hl 1 rfl) ?_
  refine lv_aload_n hx hb dX0_ticksToTrack_6 rfl (lv_at hl 0 rfl) ?_
  refine get_D_head hx hb hts hinX0 hown hK hP (hts (.fieldLink RX0 40 "GrooveTurns$Disc" "head" "I") (by decide +kernel)) dX0_ticksToTrack_7 ?_
  refine lv_isub hx hb dX0_ticksToTrack_10 ?_
  refine va_mabs hx hb (by rw [hml]; exact hl.1.symm) hown (hts (.methodLink RX0 134 Lib.Math.abs.name) (by decide +kernel)) (hts (.static Lib.Math.abs.name) (by decide +kernel)) (hts (.initialized "java/lang/Math") (by decide +kernel)) (hts (.code Lib.Math.abs.name Lib.Math.abs.code 1 (some .int)) (by decide +kernel)) (Nat.le_of_ble_eq_true rfl) (Nat.le_of_ble_eq_true rfl) (Nat.zero_le _) (Nat.zero_le _) dX0_ticksToTrack_11 ?_
  refine lv_imul hx hb dX0_ticksToTrack_14 ?_
  rw [show s_X0_ticksToTrack σ p1 = ((s_X0_settingOf σ 4) * (jabs (p1 - (d_hd σ)))) from by rw [s_X0_ticksToTrack]]
  exact W.iret hx hb hr (fun t ht hW => ⟨rfl, ht⟩) (fun _ h => nomatch h) dX0_ticksToTrack_15
def s_X0_ticksTo (σ : DS) (p1 : Int32) : Int32 := (((s_X0_ticksToTrack σ (s_X4_trackOf p1)) + (s_J9_floorMod (p1 - ((d_tk σ) + (s_X0_ticksToTrack σ (s_X4_trackOf p1)))))) + 1)
set_option maxHeartbeats 4000000 in
set_option maxRecDepth 100000 in
theorem c_X0_ticksTo (l : Launch) (G : GG) (α : Nat → Nat) (σ : DS) (p1 : Int32) : Rd G l yX0_ticksTo wsX0_ticksTo 3 63 [.ref (α 0), .int p1] (dW G.2.1 α σ) (.int (s_X0_ticksTo σ p1)) := by
  refine Met.ofW (cc := cX0_ticksTo) (maxL := 4) (ret := (some .int)) (by decide) rfl ?_
  intro p e s m args below meth c s₁ B hml hv
  obtain ⟨rfl, hP, hK⟩ := hv
  have C0 : cA p s m meth c ([.ref (α 0), .int p1] : List Value).toArray cX0_ticksTo 4 (some .int) wsX0_ticksTo RX0 := ⟨B.exec, B.bytes, B.returns, hml, findClass_of_methodNamed B.named, atoms_spec (ws := wsX0_ticksTo) B.pre, B.notSynchronized⟩
  obtain ⟨hx, hb, hr, hml, hown, hts, hlocks⟩ := id C0
  have hF : CallFix p m c cX0_ticksTo 4 s _ wsX0_ticksTo RX0 := ⟨hx, hb, hml, hown, hts⟩
  have hinX0 : ∀ w ∈ wsX00, w ∈ wsX0_ticksTo := by decide +kernel
  have hl := lv_entry ([.ref (α 0), .int p1]) (n := 4) (Nat.le_of_ble_eq_true rfl)
  rw [lg_entry_eq]
  generalize (lg_sl ([.ref (α 0), .int p1]) ++ List.replicate (4 - (lg_sl ([.ref (α 0), .int p1])).length) Slot.unset).toArray = ls at hl ⊢
  have hl : lv_has ls 4 [(0, .ref (α 0)), (1, .int p1)] := hl
  refine lv_aload_n hx hb dX0_ticksTo_0 rfl (lv_at hl 0 rfl) ?_
  refine lv_iload_n hx hb dX0_ticksTo_1 rfl (lv_at hl 1 rfl) ?_
  refine rdN (As := [.int p1]) (rest := [.ref (α 0)]) (c_X4_trackOf l G p1) hF (va_cnB (host := RX4) 1 hts gX0_ticksTo_X4_trackOf_n75 rfl rfl rfl (hK.nest 8 rfl) (hts (.initialized RX4) (by decide +kernel)) (by decide +kernel) ⟨Nat.le_of_ble_eq_true rfl, Nat.le_of_ble_eq_true rfl⟩) (hts (.static yX4_trackOf) (by decide +kernel)) hK va_P0 rfl hl.1 rfl (Nat.le_of_ble_eq_true rfl) dX0_ticksTo_2 ⟨Nat.zero_le _, Nat.zero_le _⟩ ?_
  refine rdV (As := [.int (s_X4_trackOf p1)]) (rest := []) (c_X0_ticksToTrack l G α σ (s_X4_trackOf p1)) hF (cwV 1 hts gX0_ticksTo_X0_ticksToTrack rfl rfl rfl (by decide +kernel) ⟨Nat.le_of_ble_eq_true rfl, Nat.le_of_ble_eq_true rfl⟩) (rcv_D hK hP) hK hP rfl hl.1 rfl (Nat.le_of_ble_eq_true rfl) dX0_ticksTo_5 ⟨Nat.zero_le _, Nat.zero_le _⟩ ?_
  refine lv_istore_n (lv' := [(2, .int (s_X0_ticksToTrack σ (s_X4_trackOf p1))), (0, .ref (α 0)), (1, .int p1)]) hx hb dX0_ticksTo_8 rfl hl (by decide) rfl (fun ls hl => ?_)
  refine lv_iload_n hx hb dX0_ticksTo_9 rfl (lv_at hl 2 rfl) ?_
  refine lv_aload_n hx hb dX0_ticksTo_10 rfl (lv_at hl 1 rfl) ?_
  refine get_D_ticks hx hb hts hinX0 hown hK hP (hts (.fieldLink RX0 37 "GrooveTurns$Disc" "ticks" "I") (by decide +kernel)) dX0_ticksTo_11 ?_
  refine lv_iload_n hx hb dX0_ticksTo_14 rfl (lv_at hl 0 rfl) ?_
  refine lv_iadd hx hb dX0_ticksTo_15 ?_
  refine lv_isub hx hb dX0_ticksTo_16 ?_
  refine lv_bipush (v := 12) hx hb dX0_ticksTo_17 (by decide) ?_
  refine rdS (As := [.int (p1 - ((d_tk σ) + (s_X0_ticksToTrack σ (s_X4_trackOf p1)))), .int 12]) (rest := []) (c_J9_floorMod l G (p1 - ((d_tk σ) + (s_X0_ticksToTrack σ (s_X4_trackOf p1))))) hF (va_cwS 2 hts gX0_ticksTo_J9_floorMod_7cf53 rfl rfl rfl (by decide +kernel) ⟨Nat.le_of_ble_eq_true rfl, Nat.le_of_ble_eq_true rfl⟩) hK va_P0 rfl hl.1 rfl (Nat.le_of_ble_eq_true rfl) dX0_ticksTo_19 ⟨Nat.zero_le _, Nat.zero_le _⟩ ?_
  refine lv_istore_n (lv' := [(3, .int (s_J9_floorMod (p1 - ((d_tk σ) + (s_X0_ticksToTrack σ (s_X4_trackOf p1)))))), (2, .int (s_X0_ticksToTrack σ (s_X4_trackOf p1))), (0, .ref (α 0)), (1, .int p1)]) hx hb dX0_ticksTo_22 rfl hl (by decide) rfl (fun ls hl => ?_)
  refine lv_iload_n hx hb dX0_ticksTo_23 rfl (lv_at hl 1 rfl) ?_
  refine lv_iload_n hx hb dX0_ticksTo_24 rfl (lv_at hl 0 rfl) ?_
  refine lv_iadd hx hb dX0_ticksTo_25 ?_
  refine lv_iconst (v := 1) hx hb dX0_ticksTo_26 (by decide) ?_
  refine lv_iadd hx hb dX0_ticksTo_27 ?_
  rw [show s_X0_ticksTo σ p1 = (((s_X0_ticksToTrack σ (s_X4_trackOf p1)) + (s_J9_floorMod (p1 - ((d_tk σ) + (s_X0_ticksToTrack σ (s_X4_trackOf p1)))))) + 1) from by rw [s_X0_ticksTo]]
  exact W.iret hx hb hr (fun t ht hW => ⟨rfl, ht⟩) (fun _ h => nomatch h) dX0_ticksTo_28
def s_X0_isOnTracksInUse (σ : DS) (p1 : Int32) : Int32 := (if (s_X4_isAddress p1) = 0 then 0 else (if (s_X4_at 192 (d_se σ) p1) = p1 then 1 else 0))
theorem b_X0_isOnTracksInUse (σ : DS) (p1 : Int32) : s_X0_isOnTracksInUse σ p1 = 0 ∨ s_X0_isOnTracksInUse σ p1 = 1 := by
  unfold s_X0_isOnTracksInUse
  repeat' split
  all_goals first | exact b_X4_isAddress _ | exact Or.inl rfl | exact Or.inr rfl
set_option maxHeartbeats 4000000 in
set_option maxRecDepth 100000 in
theorem c_X0_isOnTracksInUse (l : Launch) (G : GG) (α : Nat → Nat) (σ : DS) (p1 : Int32) : Rd G l yX0_isOnTracksInUse wsX0_isOnTracksInUse 1 21 [.ref (α 0), .int p1] (dW G.2.1 α σ) (.int (s_X0_isOnTracksInUse σ p1)) := by
  refine Met.ofW (cc := cX0_isOnTracksInUse) (maxL := 2) (ret := (some .boolean)) (by decide) rfl ?_
  intro p e s m args below meth c s₁ B hml hv
  obtain ⟨rfl, hP, hK⟩ := hv
  have C0 : cA p s m meth c ([.ref (α 0), .int p1] : List Value).toArray cX0_isOnTracksInUse 2 (some .boolean) wsX0_isOnTracksInUse RX0 := ⟨B.exec, B.bytes, B.returns, hml, findClass_of_methodNamed B.named, atoms_spec (ws := wsX0_isOnTracksInUse) B.pre, B.notSynchronized⟩
  obtain ⟨hx, hb, hr, hml, hown, hts, hlocks⟩ := id C0
  have hF : CallFix p m c cX0_isOnTracksInUse 2 s _ wsX0_isOnTracksInUse RX0 := ⟨hx, hb, hml, hown, hts⟩
  have hinX0 : ∀ w ∈ wsX00, w ∈ wsX0_isOnTracksInUse := by decide +kernel
  have hl := lv_entry ([.ref (α 0), .int p1]) (n := 2) (Nat.le_of_ble_eq_true rfl)
  rw [lg_entry_eq]
  generalize (lg_sl ([.ref (α 0), .int p1]) ++ List.replicate (2 - (lg_sl ([.ref (α 0), .int p1])).length) Slot.unset).toArray = ls at hl ⊢
  have hl : lv_has ls 2 [(0, .ref (α 0)), (1, .int p1)] := hl
  refine lv_iload_n hx hb dX0_isOnTracksInUse_0 rfl (lv_at hl 1 rfl) ?_
  refine rdN (As := [.int p1]) (rest := []) (c_X4_isAddress l G p1) hF (va_cnB (host := RX4) 1 hts gX0_isOnTracksInUse_X4_isAddress_n125 rfl rfl rfl (hK.nest 4 rfl) (hts (.initialized RX4) (by decide +kernel)) (by decide +kernel) ⟨Nat.le_of_ble_eq_true rfl, Nat.le_of_ble_eq_true rfl⟩) (hts (.static yX4_isAddress) (by decide +kernel)) hK va_P0 rfl hl.1 rfl (Nat.le_of_ble_eq_true rfl) dX0_isOnTracksInUse_1 ⟨Nat.zero_le _, Nat.zero_le _⟩ ?_
  refine lv_if_eq (tgt := 23) hx hb dX0_isOnTracksInUse_4 (by decide) (fun (c_1 : (s_X4_isAddress p1) = 0) => ?_) (fun (c_1 : ¬ (s_X4_isAddress p1) = 0) => ?_)
  · skip
    refine lv_iconst (v := 0) hx hb dX0_isOnTracksInUse_23 (by decide) ?_
    rw [show s_X0_isOnTracksInUse σ p1 = 0 from by rw [s_X0_isOnTracksInUse]; rw [if_pos c_1]]
    exact W.zret (ty := .boolean) hx hb hr rfl (fun t ht hW => ⟨rfl, ht⟩) (fun _ h => nomatch h) dX0_isOnTracksInUse_24
  · skip
    refine lv_aload_n hx hb dX0_isOnTracksInUse_7 rfl (lv_at hl 0 rfl) ?_
    refine get_D_sectors hx hb hts hinX0 hown hK hP (hts (.fieldLink RX0 27 "GrooveTurns$Disc" "sectors" "[I") (by decide +kernel)) dX0_isOnTracksInUse_8 ?_
    refine lv_iload_n hx hb dX0_isOnTracksInUse_11 rfl (lv_at hl 1 rfl) ?_
    refine rdN (As := [.ref (α 5), .int p1]) (rest := []) (c_X4_at l G (α 5) 192 (d_se σ) p1 (by decide)) hF (va_cnB (host := RX4) 2 hts gX0_isOnTracksInUse_X4_at_n53 rfl rfl rfl (hK.nest 6 rfl) (hts (.initialized RX4) (by decide +kernel)) (by decide +kernel) ⟨Nat.le_of_ble_eq_true rfl, Nat.le_of_ble_eq_true rfl⟩) (hts (.static yX4_at) (by decide +kernel)) hK (cell_D_se hP) rfl hl.1 rfl (Nat.le_of_ble_eq_true rfl) dX0_isOnTracksInUse_12 ⟨Nat.zero_le _, Nat.zero_le _⟩ ?_
    refine lv_iload_n hx hb dX0_isOnTracksInUse_15 rfl (lv_at hl 1 rfl) ?_
    refine lv_icmp_ne (tgt := 23) hx hb dX0_isOnTracksInUse_16 (by decide) (fun (c_2 : ¬ (s_X4_at 192 (d_se σ) p1) = p1) => ?_) (fun (c_2 : (s_X4_at 192 (d_se σ) p1) = p1) => ?_)
    · skip
      refine lv_iconst (v := 0) hx hb dX0_isOnTracksInUse_23 (by decide) ?_
      rw [show s_X0_isOnTracksInUse σ p1 = 0 from by rw [s_X0_isOnTracksInUse]; rw [if_neg c_1, if_neg c_2]]
      exact W.zret (ty := .boolean) hx hb hr rfl (fun t ht hW => ⟨rfl, ht⟩) (fun _ h => nomatch h) dX0_isOnTracksInUse_24
    · skip
      refine lv_iconst (v := 1) hx hb dX0_isOnTracksInUse_19 (by decide) ?_
      refine lv_goto (tgt := 24) hx hb dX0_isOnTracksInUse_20 (by decide) ?_
      rw [show s_X0_isOnTracksInUse σ p1 = 1 from by rw [s_X0_isOnTracksInUse]; rw [if_neg c_1, if_pos c_2]]
      exact W.zret (ty := .boolean) hx hb hr rfl (fun t ht hW => ⟨rfl, ht⟩) (fun _ h => nomatch h) dX0_isOnTracksInUse_24
def s_X0_pass (σ : DS) (p1 : Int32) (p2 : Int32) : DS := (d_hd' (d_tk' σ ((d_tk σ) + p1)) p2)
set_option maxHeartbeats 4000000 in
set_option maxRecDepth 100000 in
theorem c_X0_pass (l : Launch) (G : GG) (α : Nat → Nat) (σ : DS) (p1 : Int32) (p2 : Int32) : Wr G l yX0_pass wsX0_pass 0 0 [.ref (α 0), .int p1, .int p2] (dW G.2.1 α σ) none (dW G.2.1 α (s_X0_pass σ p1 p2)) := by
  refine Met.ofW (cc := cX0_pass) (maxL := 3) (ret := none) (by decide) rfl ?_
  intro p e s m args below meth c s₁ B hml hv
  obtain ⟨rfl, hP, hK, hD0⟩ := hv
  have C0 : cA p s m meth c ([.ref (α 0), .int p1, .int p2] : List Value).toArray cX0_pass 3 none wsX0_pass RX0 := ⟨B.exec, B.bytes, B.returns, hml, findClass_of_methodNamed B.named, atoms_spec (ws := wsX0_pass) B.pre, B.notSynchronized⟩
  obtain ⟨hx, hb, hr, hml, hown, hts, hlocks⟩ := id C0
  have hF : CallFix p m c cX0_pass 3 s _ wsX0_pass RX0 := ⟨hx, hb, hml, hown, hts⟩
  have hinX0 : ∀ w ∈ wsX00, w ∈ wsX0_pass := by decide +kernel
  obtain ⟨w0, hw0⟩ : ∃ w0 : va_W, w0 = (dW G.2.1 α σ) := ⟨_, rfl⟩
  have hD : va_D (inW w0) (dW G.2.1 α σ) := by rw [hw0]; exact inW.D hD0
  have hS : va_S (inW w0) s.heap s.heap [] := va_S.rf
  rw [show QW G (dW G.2.1 α σ) = QW G w0 from by rw [hw0], show inW (dW G.2.1 α σ) = inW w0 from by rw [hw0]]
  have hl := lv_entry ([.ref (α 0), .int p1, .int p2]) (n := 3) (Nat.le_of_ble_eq_true rfl)
  rw [lg_entry_eq]
  generalize (lg_sl ([.ref (α 0), .int p1, .int p2]) ++ List.replicate (3 - (lg_sl ([.ref (α 0), .int p1, .int p2])).length) Slot.unset).toArray = ls at hl ⊢
  have hl : lv_has ls 3 [(0, .ref (α 0)), (1, .int p1), (2, .int p2)] := hl
  refine lv_aload_n hx hb dX0_pass_0 rfl (lv_at hl 0 rfl) ?_
  refine lv_dup hx hb dX0_pass_1 rfl ?_
  refine get_D_ticks hx hb hts hinX0 hown hK hP (hts (.fieldLink RX0 37 "GrooveTurns$Disc" "ticks" "I") (by decide +kernel)) dX0_pass_2 ?_
  refine lv_iload_n hx hb dX0_pass_5 rfl (lv_at hl 1 rfl) ?_
  refine lv_iadd hx hb dX0_pass_6 ?_
  refine put_D_ticks hx hb hts hinX0 hown hK hP hD hS (hts (.fieldLink RX0 37 "GrooveTurns$Disc" "ticks" "I") (by decide +kernel)) dX0_pass_7 (fun H locs hP hD hS => ?_)
  have hP : va_P G.1 vwCl (dW G.2.1 α (d_tk' σ ((d_tk σ) + p1))) H := hP
  have hD : va_D (inW w0) (dW G.2.1 α (d_tk' σ ((d_tk σ) + p1))) := hD
  refine lv_aload_n hx hb dX0_pass_10 rfl (lv_at hl 0 rfl) ?_
  refine lv_iload_n hx hb dX0_pass_11 rfl (lv_at hl 2 rfl) ?_
  refine put_D_head hx hb hts hinX0 hown hK hP hD hS (hts (.fieldLink RX0 40 "GrooveTurns$Disc" "head" "I") (by decide +kernel)) dX0_pass_12 (fun H locs hP hD hS => ?_)
  have hP : va_P G.1 vwCl (dW G.2.1 α (d_hd' (d_tk' σ ((d_tk σ) + p1)) p2)) H := hP
  have hD : va_D (inW w0) (dW G.2.1 α (d_hd' (d_tk' σ ((d_tk σ) + p1)) p2)) := hD
  rw [show s_X0_pass σ p1 p2 = (d_hd' (d_tk' σ ((d_tk σ) + p1)) p2) from by rw [s_X0_pass]]
  exact W.vret hx hb hr (fun t ht hW => ⟨rfl, by rw [ht]; exact hP, hS.F ht⟩) hS.2.2 dX0_pass_15
def s_X0_exchangeSetting (σ : DS) (p1 : Int32) (p2 : Int32) : Int32 × DS := ((s_X4_at 5 (d_st σ) p1), (d_st' σ (s_X4_lay 5 (d_st σ) p1 p2)))
set_option maxHeartbeats 4000000 in
set_option maxRecDepth 100000 in
theorem c_X0_exchangeSetting (l : Launch) (G : GG) (α : Nat → Nat) (σ : DS) (p1 : Int32) (p2 : Int32) : Wr G l yX0_exchangeSetting wsX0_exchangeSetting 1 22 [.ref (α 0), .int p1, .int p2] (dW G.2.1 α σ) (some (.int (s_X0_exchangeSetting σ p1 p2).1)) (dW G.2.1 α ((s_X0_exchangeSetting σ p1 p2).2)) := by
  refine Met.ofW (cc := cX0_exchangeSetting) (maxL := 4) (ret := (some .int)) (by decide) rfl ?_
  intro p e s m args below meth c s₁ B hml hv
  obtain ⟨rfl, hP, hK, hD0⟩ := hv
  have C0 : cA p s m meth c ([.ref (α 0), .int p1, .int p2] : List Value).toArray cX0_exchangeSetting 4 (some .int) wsX0_exchangeSetting RX0 := ⟨B.exec, B.bytes, B.returns, hml, findClass_of_methodNamed B.named, atoms_spec (ws := wsX0_exchangeSetting) B.pre, B.notSynchronized⟩
  obtain ⟨hx, hb, hr, hml, hown, hts, hlocks⟩ := id C0
  have hF : CallFix p m c cX0_exchangeSetting 4 s _ wsX0_exchangeSetting RX0 := ⟨hx, hb, hml, hown, hts⟩
  have hinX0 : ∀ w ∈ wsX00, w ∈ wsX0_exchangeSetting := by decide +kernel
  obtain ⟨w0, hw0⟩ : ∃ w0 : va_W, w0 = (dW G.2.1 α σ) := ⟨_, rfl⟩
  have hD : va_D (inW w0) (dW G.2.1 α σ) := by rw [hw0]; exact inW.D hD0
  have hS : va_S (inW w0) s.heap s.heap [] := va_S.rf
  rw [show QW G (dW G.2.1 α σ) = QW G w0 from by rw [hw0], show inW (dW G.2.1 α σ) = inW w0 from by rw [hw0]]
  have hl := lv_entry ([.ref (α 0), .int p1, .int p2]) (n := 4) (Nat.le_of_ble_eq_true rfl)
  rw [lg_entry_eq]
  generalize (lg_sl ([.ref (α 0), .int p1, .int p2]) ++ List.replicate (4 - (lg_sl ([.ref (α 0), .int p1, .int p2])).length) Slot.unset).toArray = ls at hl ⊢
  have hl : lv_has ls 4 [(0, .ref (α 0)), (1, .int p1), (2, .int p2)] := hl
  refine lv_aload_n hx hb dX0_exchangeSetting_0 rfl (lv_at hl 0 rfl) ?_
  refine get_D_settings hx hb hts hinX0 hown hK hP (hts (.fieldLink RX0 13 "GrooveTurns$Disc" "settings" "[I") (by decide +kernel)) dX0_exchangeSetting_1 ?_
  refine lv_iload_n hx hb dX0_exchangeSetting_4 rfl (lv_at hl 1 rfl) ?_
  refine rdN (As := [.ref (α 1), .int p1]) (rest := []) (c_X4_at l G (α 1) 5 (d_st σ) p1 (by decide)) hF (va_cnB (host := RX4) 2 hts gX0_exchangeSetting_X4_at_n53 rfl rfl rfl (hK.nest 6 rfl) (hts (.initialized RX4) (by decide +kernel)) (by decide +kernel) ⟨Nat.le_of_ble_eq_true rfl, Nat.le_of_ble_eq_true rfl⟩) (hts (.static yX4_at) (by decide +kernel)) hK (cell_D_st hP) rfl hl.1 rfl (Nat.le_of_ble_eq_true rfl) dX0_exchangeSetting_5 ⟨Nat.zero_le _, Nat.zero_le _⟩ ?_
  refine lv_istore_n (lv' := [(3, .int (s_X4_at 5 (d_st σ) p1)), (0, .ref (α 0)), (1, .int p1), (2, .int p2)]) hx hb dX0_exchangeSetting_8 rfl hl (by decide) rfl (fun ls hl => ?_)
  refine lv_aload_n hx hb dX0_exchangeSetting_9 rfl (lv_at hl 1 rfl) ?_
  refine get_D_settings hx hb hts hinX0 hown hK hP (hts (.fieldLink RX0 13 "GrooveTurns$Disc" "settings" "[I") (by decide +kernel)) dX0_exchangeSetting_10 ?_
  refine lv_iload_n hx hb dX0_exchangeSetting_13 rfl (lv_at hl 2 rfl) ?_
  refine lv_iload_n hx hb dX0_exchangeSetting_14 rfl (lv_at hl 3 rfl) ?_
  refine wrN (As := [.ref (α 1), .int p1, .int p2]) (rest := []) (c_X4_lay l G (α 1) 5 (d_st σ) p1 p2 (by decide)) hF (va_cnB (host := RX4) 3 hts gX0_exchangeSetting_X4_lay_n57 rfl rfl rfl (hK.nest 7 rfl) (hts (.initialized RX4) (by decide +kernel)) (by decide +kernel) ⟨Nat.le_of_ble_eq_true rfl, Nat.le_of_ble_eq_true rfl⟩) (hts (.static yX4_lay) (by decide +kernel)) hK hP hD hS [1] (pl_D_st _ _ _) (pf_D_st _ _ _) rfl (by decide) rfl hl.1 rfl (Nat.le_of_ble_eq_true rfl) dX0_exchangeSetting_15 ⟨Nat.zero_le _, Nat.zero_le _⟩ (fun H locs hP hD hS => ?_)
  rw [pset_D_st] at hP hD
  have hP : va_P G.1 vwCl (dW G.2.1 α (d_st' σ (s_X4_lay 5 (d_st σ) p1 p2))) H := hP
  have hD : va_D (inW w0) (dW G.2.1 α (d_st' σ (s_X4_lay 5 (d_st σ) p1 p2))) := hD
  refine lv_iload_n hx hb dX0_exchangeSetting_18 rfl (lv_at hl 0 rfl) ?_
  rw [show s_X0_exchangeSetting σ p1 p2 = ((s_X4_at 5 (d_st σ) p1), (d_st' σ (s_X4_lay 5 (d_st σ) p1 p2))) from by rw [s_X0_exchangeSetting]]
  exact W.iret hx hb hr (fun t ht hW => ⟨rfl, by rw [ht]; exact hP, hS.F ht⟩) hS.2.2 dX0_exchangeSetting_19
def t1_X0_blurBy (σ : DS) (p1 : Int32) (p2 : Int32) : DS := (d_bl' σ (s_X4_lay 204 (d_bl σ) p1 (jmin 99 ((s_X0_blurOf σ p1) + p2))))
def s_X0_blurBy (σ : DS) (p1 : Int32) (p2 : Int32) : DS := (if (s_X0_isOnTracksInUse σ p1) = 0 then σ else (if (s_X0_holdsNumber σ p1) = 0 then σ else (t1_X0_blurBy σ p1 p2)))
set_option maxHeartbeats 4000000 in
set_option maxRecDepth 100000 in
theorem c_X0_blurBy (l : Launch) (G : GG) (α : Nat → Nat) (σ : DS) (p1 : Int32) (p2 : Int32) : Wr G l yX0_blurBy wsX0_blurBy 2 42 [.ref (α 0), .int p1, .int p2] (dW G.2.1 α σ) none (dW G.2.1 α (s_X0_blurBy σ p1 p2)) := by
  refine Met.ofW (cc := cX0_blurBy) (maxL := 3) (ret := none) (by decide) rfl ?_
  intro p e s m args below meth c s₁ B hml hv
  obtain ⟨rfl, hP, hK, hD0⟩ := hv
  have C0 : cA p s m meth c ([.ref (α 0), .int p1, .int p2] : List Value).toArray cX0_blurBy 3 none wsX0_blurBy RX0 := ⟨B.exec, B.bytes, B.returns, hml, findClass_of_methodNamed B.named, atoms_spec (ws := wsX0_blurBy) B.pre, B.notSynchronized⟩
  obtain ⟨hx, hb, hr, hml, hown, hts, hlocks⟩ := id C0
  have hF : CallFix p m c cX0_blurBy 3 s _ wsX0_blurBy RX0 := ⟨hx, hb, hml, hown, hts⟩
  have hinX0 : ∀ w ∈ wsX00, w ∈ wsX0_blurBy := by decide +kernel
  obtain ⟨w0, hw0⟩ : ∃ w0 : va_W, w0 = (dW G.2.1 α σ) := ⟨_, rfl⟩
  have hD : va_D (inW w0) (dW G.2.1 α σ) := by rw [hw0]; exact inW.D hD0
  have hS : va_S (inW w0) s.heap s.heap [] := va_S.rf
  rw [show QW G (dW G.2.1 α σ) = QW G w0 from by rw [hw0], show inW (dW G.2.1 α σ) = inW w0 from by rw [hw0]]
  have hl := lv_entry ([.ref (α 0), .int p1, .int p2]) (n := 3) (Nat.le_of_ble_eq_true rfl)
  rw [lg_entry_eq]
  generalize (lg_sl ([.ref (α 0), .int p1, .int p2]) ++ List.replicate (3 - (lg_sl ([.ref (α 0), .int p1, .int p2])).length) Slot.unset).toArray = ls at hl ⊢
  have hl : lv_has ls 3 [(0, .ref (α 0)), (1, .int p1), (2, .int p2)] := hl
  refine lv_aload_n hx hb dX0_blurBy_0 rfl (lv_at hl 0 rfl) ?_
  refine lv_iload_n hx hb dX0_blurBy_1 rfl (lv_at hl 1 rfl) ?_
  refine rdV (As := [.int p1]) (rest := []) (c_X0_isOnTracksInUse l G α σ p1) hF (cwV 1 hts gX0_blurBy_X0_isOnTracksInUse rfl rfl rfl (by decide +kernel) ⟨Nat.le_of_ble_eq_true rfl, Nat.le_of_ble_eq_true rfl⟩) (rcv_D hK hP) hK hP rfl hl.1 rfl (Nat.le_of_ble_eq_true rfl) dX0_blurBy_2 ⟨Nat.zero_le _, Nat.zero_le _⟩ ?_
  refine lv_if_eq (tgt := 36) hx hb dX0_blurBy_5 (by decide) (fun (c_1 : (s_X0_isOnTracksInUse σ p1) = 0) => ?_) (fun (c_1 : ¬ (s_X0_isOnTracksInUse σ p1) = 0) => ?_)
  · skip
    rw [show s_X0_blurBy σ p1 p2 = σ from by rw [s_X0_blurBy]; rw [if_pos c_1]]
    exact W.vret hx hb hr (fun t ht hW => ⟨rfl, by rw [ht]; exact hP, hS.F ht⟩) hS.2.2 dX0_blurBy_36
  · skip
    refine lv_aload_n hx hb dX0_blurBy_8 rfl (lv_at hl 0 rfl) ?_
    refine lv_iload_n hx hb dX0_blurBy_9 rfl (lv_at hl 1 rfl) ?_
    refine rdV (As := [.int p1]) (rest := []) (c_X0_holdsNumber l G α σ p1) hF (cwV 1 hts gX0_blurBy_X0_holdsNumber rfl rfl rfl (by decide +kernel) ⟨Nat.le_of_ble_eq_true rfl, Nat.le_of_ble_eq_true rfl⟩) (rcv_D hK hP) hK hP rfl hl.1 rfl (Nat.le_of_ble_eq_true rfl) dX0_blurBy_10 ⟨Nat.zero_le _, Nat.zero_le _⟩ ?_
    refine lv_if_eq (tgt := 36) hx hb dX0_blurBy_13 (by decide) (fun (c_2 : (s_X0_holdsNumber σ p1) = 0) => ?_) (fun (c_2 : ¬ (s_X0_holdsNumber σ p1) = 0) => ?_)
    · skip
      rw [show s_X0_blurBy σ p1 p2 = σ from by rw [s_X0_blurBy]; rw [if_neg c_1, if_pos c_2]]
      exact W.vret hx hb hr (fun t ht hW => ⟨rfl, by rw [ht]; exact hP, hS.F ht⟩) hS.2.2 dX0_blurBy_36
    · skip
      refine lv_aload_n hx hb dX0_blurBy_16 rfl (lv_at hl 0 rfl) ?_
      refine get_D_blurs hx hb hts hinX0 hown hK hP (hts (.fieldLink RX0 21 "GrooveTurns$Disc" "blurs" "[I") (by decide +kernel)) dX0_blurBy_17 ?_
      refine lv_iload_n hx hb dX0_blurBy_20 rfl (lv_at hl 1 rfl) ?_
      refine lv_bipush (v := 99) hx hb dX0_blurBy_21 (by decide) ?_
      refine lv_aload_n hx hb dX0_blurBy_23 rfl (lv_at hl 0 rfl) ?_
      refine lv_iload_n hx hb dX0_blurBy_24 rfl (lv_at hl 1 rfl) ?_
      refine rdV (As := [.int p1]) (rest := [.int 99, .int p1, .ref (α 3)]) (c_X0_blurOf l G α σ p1) hF (cwV 1 hts gX0_blurBy_X0_blurOf rfl rfl rfl (by decide +kernel) ⟨Nat.le_of_ble_eq_true rfl, Nat.le_of_ble_eq_true rfl⟩) (rcv_D hK hP) hK hP rfl hl.1 rfl (Nat.le_of_ble_eq_true rfl) dX0_blurBy_25 ⟨Nat.zero_le _, Nat.zero_le _⟩ ?_
      refine lv_iload_n hx hb dX0_blurBy_28 rfl (lv_at hl 2 rfl) ?_
      refine lv_iadd hx hb dX0_blurBy_29 ?_
      refine va_mmin hx hb (by rw [hml]; exact hl.1.symm) hown (hts (.methodLink RX0 119 Lib.Math.min.name) (by decide +kernel)) (hts (.static Lib.Math.min.name) (by decide +kernel)) (hts (.initialized "java/lang/Math") (by decide +kernel)) (hts (.code Lib.Math.min.name Lib.Math.min.code 2 (some .int)) (by decide +kernel)) (Nat.le_of_ble_eq_true rfl) (Nat.le_of_ble_eq_true rfl) (Nat.zero_le _) (Nat.zero_le _) dX0_blurBy_30 ?_
      refine wrN (As := [.ref (α 3), .int p1, .int (jmin 99 ((s_X0_blurOf σ p1) + p2))]) (rest := []) (c_X4_lay l G (α 3) 204 (d_bl σ) p1 (jmin 99 ((s_X0_blurOf σ p1) + p2)) (by decide)) hF (va_cnB (host := RX4) 3 hts gX0_blurBy_X4_lay_n57 rfl rfl rfl (hK.nest 7 rfl) (hts (.initialized RX4) (by decide +kernel)) (by decide +kernel) ⟨Nat.le_of_ble_eq_true rfl, Nat.le_of_ble_eq_true rfl⟩) (hts (.static yX4_lay) (by decide +kernel)) hK hP hD hS [3] (pl_D_bl _ _ _) (pf_D_bl _ _ _) rfl (by decide) rfl hl.1 rfl (Nat.le_of_ble_eq_true rfl) dX0_blurBy_33 ⟨Nat.zero_le _, Nat.zero_le _⟩ (fun H locs hP hD hS => ?_)
      rw [pset_D_bl] at hP hD
      have hP : va_P G.1 vwCl (dW G.2.1 α (t1_X0_blurBy σ p1 p2)) H := hP
      have hD : va_D (inW w0) (dW G.2.1 α (t1_X0_blurBy σ p1 p2)) := hD
      rw [show s_X0_blurBy σ p1 p2 = (t1_X0_blurBy σ p1 p2) from by rw [s_X0_blurBy]; rw [if_neg c_1, if_neg c_2]]
      exact W.vret hx hb hr (fun t ht hW => ⟨rfl, by rw [ht]; exact hP, hS.F ht⟩) hS.2.2 dX0_blurBy_36
def t1_X0_fill (σ : DS) (p1 : Int32) (p2 : Int32) (p3 : Int32) : DS := (d_bl' (d_nu' σ (s_X4_lay 204 (d_nu σ) p1 p3)) (s_X4_lay 204 (d_bl σ) p1 0))
def t2_X0_fill (σ : DS) (p1 : Int32) (p2 : Int32) (p3 : Int32) : DS := (d_wr' (t1_X0_fill σ p1 p2 p3) (s_X4_lay 204 (d_wr (t1_X0_fill σ p1 p2 p3)) p1 ((s_X0_writingsOf (t1_X0_fill σ p1 p2 p3) p1) + 1)))
def t3_X0_fill (σ : DS) (p1 : Int32) (p2 : Int32) (p3 : Int32) : DS := (s_X0_blurBy (t2_X0_fill σ p1 p2 p3) (p1 - 12) (s_X0_settingOf (t2_X0_fill σ p1 p2 p3) 0))
def t4_X0_fill (σ : DS) (p1 : Int32) (p2 : Int32) (p3 : Int32) : DS := (s_X0_blurBy (t3_X0_fill σ p1 p2 p3) (p1 + 12) (s_X0_settingOf (t3_X0_fill σ p1 p2 p3) 0))
def t5_X0_fill (σ : DS) (p1 : Int32) (p2 : Int32) (p3 : Int32) : DS := (s_X0_blurBy (t4_X0_fill σ p1 p2 p3) (p1 - 24) (s_X0_settingOf (t4_X0_fill σ p1 p2 p3) 1))
def t6_X0_fill (σ : DS) (p1 : Int32) (p2 : Int32) (p3 : Int32) : DS := (s_X0_blurBy (t5_X0_fill σ p1 p2 p3) (p1 + 24) (s_X0_settingOf (t5_X0_fill σ p1 p2 p3) 1))
def t7_X0_fill (σ : DS) (p1 : Int32) (p2 : Int32) (p3 : Int32) : DS := (d_sp' (d_se' (d_nu' σ (s_X4_lay 204 (d_nu σ) p1 p3)) (s_X4_lay 192 (d_se σ) p2 p1)) ((d_sp σ) + 1))
def t8_X0_fill (σ : DS) (p1 : Int32) (p2 : Int32) (p3 : Int32) : DS := (d_bl' (t7_X0_fill σ p1 p2 p3) (s_X4_lay 204 (d_bl (t7_X0_fill σ p1 p2 p3)) p1 0))
def t9_X0_fill (σ : DS) (p1 : Int32) (p2 : Int32) (p3 : Int32) : DS := (d_wr' (t8_X0_fill σ p1 p2 p3) (s_X4_lay 204 (d_wr (t8_X0_fill σ p1 p2 p3)) p1 ((s_X0_writingsOf (t8_X0_fill σ p1 p2 p3) p1) + 1)))
def t10_X0_fill (σ : DS) (p1 : Int32) (p2 : Int32) (p3 : Int32) : DS := (s_X0_blurBy (t9_X0_fill σ p1 p2 p3) (p1 - 12) (s_X0_settingOf (t9_X0_fill σ p1 p2 p3) 0))
def t11_X0_fill (σ : DS) (p1 : Int32) (p2 : Int32) (p3 : Int32) : DS := (s_X0_blurBy (t10_X0_fill σ p1 p2 p3) (p1 + 12) (s_X0_settingOf (t10_X0_fill σ p1 p2 p3) 0))
def t12_X0_fill (σ : DS) (p1 : Int32) (p2 : Int32) (p3 : Int32) : DS := (s_X0_blurBy (t11_X0_fill σ p1 p2 p3) (p1 - 24) (s_X0_settingOf (t11_X0_fill σ p1 p2 p3) 1))
def t13_X0_fill (σ : DS) (p1 : Int32) (p2 : Int32) (p3 : Int32) : DS := (s_X0_blurBy (t12_X0_fill σ p1 p2 p3) (p1 + 24) (s_X0_settingOf (t12_X0_fill σ p1 p2 p3) 1))
def s_X0_fill (σ : DS) (p1 : Int32) (p2 : Int32) (p3 : Int32) : DS := (if p1 = (s_X0_sectorFor σ p2) then (if (s_X4_isSpare p1) = 0 then (t6_X0_fill σ p1 p2 p3) else (t2_X0_fill σ p1 p2 p3)) else (if (s_X4_isSpare p1) = 0 then (t13_X0_fill σ p1 p2 p3) else (t9_X0_fill σ p1 p2 p3)))
set_option maxHeartbeats 4000000 in
set_option maxRecDepth 100000 in
theorem c_X0_fill (l : Launch) (G : GG) (α : Nat → Nat) (σ : DS) (p1 : Int32) (p2 : Int32) (p3 : Int32) : Wr G l yX0_fill wsX0_fill 3 64 [.ref (α 0), .int p1, .int p2, .int p3] (dW G.2.1 α σ) none (dW G.2.1 α (s_X0_fill σ p1 p2 p3)) := by
  refine Met.ofW (cc := cX0_fill) (maxL := 4) (ret := none) (by decide) rfl ?_
  intro p e s m args below meth c s₁ B hml hv
  obtain ⟨rfl, hP, hK, hD0⟩ := hv
  have C0 : cA p s m meth c ([.ref (α 0), .int p1, .int p2, .int p3] : List Value).toArray cX0_fill 4 none wsX0_fill RX0 := ⟨B.exec, B.bytes, B.returns, hml, findClass_of_methodNamed B.named, atoms_spec (ws := wsX0_fill) B.pre, B.notSynchronized⟩
  obtain ⟨hx, hb, hr, hml, hown, hts, hlocks⟩ := id C0
  have hF : CallFix p m c cX0_fill 4 s _ wsX0_fill RX0 := ⟨hx, hb, hml, hown, hts⟩
  have hinX0 : ∀ w ∈ wsX00, w ∈ wsX0_fill := by decide +kernel
  obtain ⟨w0, hw0⟩ : ∃ w0 : va_W, w0 = (dW G.2.1 α σ) := ⟨_, rfl⟩
  have hD : va_D (inW w0) (dW G.2.1 α σ) := by rw [hw0]; exact inW.D hD0
  have hS : va_S (inW w0) s.heap s.heap [] := va_S.rf
  rw [show QW G (dW G.2.1 α σ) = QW G w0 from by rw [hw0], show inW (dW G.2.1 α σ) = inW w0 from by rw [hw0]]
  have hl := lv_entry ([.ref (α 0), .int p1, .int p2, .int p3]) (n := 4) (Nat.le_of_ble_eq_true rfl)
  rw [lg_entry_eq]
  generalize (lg_sl ([.ref (α 0), .int p1, .int p2, .int p3]) ++ List.replicate (4 - (lg_sl ([.ref (α 0), .int p1, .int p2, .int p3])).length) Slot.unset).toArray = ls at hl ⊢
  have hl : lv_has ls 4 [(0, .ref (α 0)), (1, .int p1), (2, .int p2), (3, .int p3)] := hl
  refine lv_iload_n hx hb dX0_fill_0 rfl (lv_at hl 1 rfl) ?_
  refine lv_aload_n hx hb dX0_fill_1 rfl (lv_at hl 0 rfl) ?_
  refine lv_iload_n hx hb dX0_fill_2 rfl (lv_at hl 2 rfl) ?_
  refine rdV (As := [.int p2]) (rest := [.int p1]) (c_X0_sectorFor l G α σ p2) hF (cwV 1 hts gX0_fill_X0_sectorFor rfl rfl rfl (by decide +kernel) ⟨Nat.le_of_ble_eq_true rfl, Nat.le_of_ble_eq_true rfl⟩) (rcv_D hK hP) hK hP rfl hl.1 rfl (Nat.le_of_ble_eq_true rfl) dX0_fill_3 ⟨Nat.zero_le _, Nat.zero_le _⟩ ?_
  refine lv_icmp_eq (tgt := 28) hx hb dX0_fill_6 (by decide) (fun (c_1 : p1 = (s_X0_sectorFor σ p2)) => ?_) (fun (c_1 : ¬ p1 = (s_X0_sectorFor σ p2)) => ?_)
  · skip
    refine lv_aload_n hx hb dX0_fill_28 rfl (lv_at hl 0 rfl) ?_
    refine get_D_numbers hx hb hts hinX0 hown hK hP (hts (.fieldLink RX0 18 "GrooveTurns$Disc" "numbers" "[I") (by decide +kernel)) dX0_fill_29 ?_
    refine lv_iload_n hx hb dX0_fill_32 rfl (lv_at hl 1 rfl) ?_
    refine lv_iload_n hx hb dX0_fill_33 rfl (lv_at hl 3 rfl) ?_
    refine wrN (As := [.ref (α 2), .int p1, .int p3]) (rest := []) (c_X4_lay l G (α 2) 204 (d_nu σ) p1 p3 (by decide)) hF (va_cnB (host := RX4) 3 hts gX0_fill_X4_lay_n57 rfl rfl rfl (hK.nest 7 rfl) (hts (.initialized RX4) (by decide +kernel)) (by decide +kernel) ⟨Nat.le_of_ble_eq_true rfl, Nat.le_of_ble_eq_true rfl⟩) (hts (.static yX4_lay) (by decide +kernel)) hK hP hD hS [2] (pl_D_nu _ _ _) (pf_D_nu _ _ _) rfl (by decide) rfl hl.1 rfl (Nat.le_of_ble_eq_true rfl) dX0_fill_34 ⟨Nat.zero_le _, Nat.zero_le _⟩ (fun H locs hP hD hS => ?_)
    rw [pset_D_nu] at hP hD
    have hP : va_P G.1 vwCl (dW G.2.1 α (d_nu' σ (s_X4_lay 204 (d_nu σ) p1 p3))) H := hP
    have hD : va_D (inW w0) (dW G.2.1 α (d_nu' σ (s_X4_lay 204 (d_nu σ) p1 p3))) := hD
    refine lv_aload_n hx hb dX0_fill_37 rfl (lv_at hl 0 rfl) ?_
    refine get_D_blurs hx hb hts hinX0 hown hK hP (hts (.fieldLink RX0 21 "GrooveTurns$Disc" "blurs" "[I") (by decide +kernel)) dX0_fill_38 ?_
    refine lv_iload_n hx hb dX0_fill_41 rfl (lv_at hl 1 rfl) ?_
    refine lv_iconst (v := 0) hx hb dX0_fill_42 (by decide) ?_
    refine wrN (As := [.ref (α 3), .int p1, .int 0]) (rest := []) (c_X4_lay l G (α 3) 204 (d_bl σ) p1 0 (by decide)) hF (va_cnB (host := RX4) 3 hts gX0_fill_X4_lay_n57 rfl rfl rfl (hK.nest 7 rfl) (hts (.initialized RX4) (by decide +kernel)) (by decide +kernel) ⟨Nat.le_of_ble_eq_true rfl, Nat.le_of_ble_eq_true rfl⟩) (hts (.static yX4_lay) (by decide +kernel)) hK hP hD hS [3] (pl_D_bl _ _ _) (pf_D_bl _ _ _) rfl (by decide) rfl hl.1 rfl (Nat.le_of_ble_eq_true rfl) dX0_fill_43 ⟨Nat.zero_le _, Nat.zero_le _⟩ (fun H locs hP hD hS => ?_)
    rw [pset_D_bl] at hP hD
    have hP : va_P G.1 vwCl (dW G.2.1 α (t1_X0_fill σ p1 p2 p3)) H := hP
    have hD : va_D (inW w0) (dW G.2.1 α (t1_X0_fill σ p1 p2 p3)) := hD
    refine lv_aload_n hx hb dX0_fill_46 rfl (lv_at hl 0 rfl) ?_
    refine get_D_writings hx hb hts hinX0 hown hK hP (hts (.fieldLink RX0 24 "GrooveTurns$Disc" "writings" "[I") (by decide +kernel)) dX0_fill_47 ?_
    refine lv_iload_n hx hb dX0_fill_50 rfl (lv_at hl 1 rfl) ?_
    refine lv_aload_n hx hb dX0_fill_51 rfl (lv_at hl 0 rfl) ?_
    refine lv_iload_n hx hb dX0_fill_52 rfl (lv_at hl 1 rfl) ?_
    refine rdV (As := [.int p1]) (rest := [.int p1, .ref (α 4)]) (c_X0_writingsOf l G α (t1_X0_fill σ p1 p2 p3) p1) hF (cwV 1 hts gX0_fill_X0_writingsOf rfl rfl rfl (by decide +kernel) ⟨Nat.le_of_ble_eq_true rfl, Nat.le_of_ble_eq_true rfl⟩) (rcv_D hK hP) hK hP rfl hl.1 rfl (Nat.le_of_ble_eq_true rfl) dX0_fill_53 ⟨Nat.zero_le _, Nat.zero_le _⟩ ?_
    refine lv_iconst (v := 1) hx hb dX0_fill_56 (by decide) ?_
    refine lv_iadd hx hb dX0_fill_57 ?_
    refine wrN (As := [.ref (α 4), .int p1, .int ((s_X0_writingsOf (t1_X0_fill σ p1 p2 p3) p1) + 1)]) (rest := []) (c_X4_lay l G (α 4) 204 (d_wr (t1_X0_fill σ p1 p2 p3)) p1 ((s_X0_writingsOf (t1_X0_fill σ p1 p2 p3) p1) + 1) (by decide)) hF (va_cnB (host := RX4) 3 hts gX0_fill_X4_lay_n57 rfl rfl rfl (hK.nest 7 rfl) (hts (.initialized RX4) (by decide +kernel)) (by decide +kernel) ⟨Nat.le_of_ble_eq_true rfl, Nat.le_of_ble_eq_true rfl⟩) (hts (.static yX4_lay) (by decide +kernel)) hK hP hD hS [4] (pl_D_wr _ _ _) (pf_D_wr _ _ _) rfl (by decide) rfl hl.1 rfl (Nat.le_of_ble_eq_true rfl) dX0_fill_58 ⟨Nat.zero_le _, Nat.zero_le _⟩ (fun H locs hP hD hS => ?_)
    rw [pset_D_wr] at hP hD
    have hP : va_P G.1 vwCl (dW G.2.1 α (t2_X0_fill σ p1 p2 p3)) H := hP
    have hD : va_D (inW w0) (dW G.2.1 α (t2_X0_fill σ p1 p2 p3)) := hD
    refine lv_iload_n hx hb dX0_fill_61 rfl (lv_at hl 1 rfl) ?_
    refine rdN (As := [.int p1]) (rest := []) (c_X4_isSpare l G p1) hF (va_cnB (host := RX4) 1 hts gX0_fill_X4_isSpare_n101 rfl rfl rfl (hK.nest 3 rfl) (hts (.initialized RX4) (by decide +kernel)) (by decide +kernel) ⟨Nat.le_of_ble_eq_true rfl, Nat.le_of_ble_eq_true rfl⟩) (hts (.static yX4_isSpare) (by decide +kernel)) hK va_P0 rfl hl.1 rfl (Nat.le_of_ble_eq_true rfl) dX0_fill_62 ⟨Nat.zero_le _, Nat.zero_le _⟩ ?_
    refine lv_if_ne (tgt := 120) hx hb dX0_fill_65 (by decide) (fun (c_2 : ¬ (s_X4_isSpare p1) = 0) => ?_) (fun (c_2 : (s_X4_isSpare p1) = 0) => ?_)
    · skip
      rw [show s_X0_fill σ p1 p2 p3 = (t2_X0_fill σ p1 p2 p3) from by rw [s_X0_fill]; rw [if_pos c_1, if_neg c_2]]
      exact W.vret hx hb hr (fun t ht hW => ⟨rfl, by rw [ht]; exact hP, hS.F ht⟩) hS.2.2 dX0_fill_120
    · skip
      refine lv_aload_n hx hb dX0_fill_68 rfl (lv_at hl 0 rfl) ?_
      refine lv_iload_n hx hb dX0_fill_69 rfl (lv_at hl 1 rfl) ?_
      refine lv_bipush (v := 12) hx hb dX0_fill_70 (by decide) ?_
      refine lv_isub hx hb dX0_fill_72 ?_
      refine lv_aload_n hx hb dX0_fill_73 rfl (lv_at hl 0 rfl) ?_
      refine lv_iconst (v := 0) hx hb dX0_fill_74 (by decide) ?_
      refine rdV (As := [.int 0]) (rest := [.int (p1 - 12), .ref (α 0)]) (c_X0_settingOf l G α (t2_X0_fill σ p1 p2 p3) 0) hF (cwV 1 hts gX0_fill_X0_settingOf rfl rfl rfl (by decide +kernel) ⟨Nat.le_of_ble_eq_true rfl, Nat.le_of_ble_eq_true rfl⟩) (rcv_D hK hP) hK hP rfl hl.1 rfl (Nat.le_of_ble_eq_true rfl) dX0_fill_75 ⟨Nat.zero_le _, Nat.zero_le _⟩ ?_
      refine wrV0 (As := [.int (p1 - 12), .int (s_X0_settingOf (t2_X0_fill σ p1 p2 p3) 0)]) (rest := []) (c_X0_blurBy l G α (t2_X0_fill σ p1 p2 p3) (p1 - 12) (s_X0_settingOf (t2_X0_fill σ p1 p2 p3) 0)) hF (cwV 2 hts gX0_fill_X0_blurBy rfl rfl rfl (by decide +kernel) ⟨Nat.le_of_ble_eq_true rfl, Nat.le_of_ble_eq_true rfl⟩) (rcv_D hK hP) hK hP hD hS (fst_D _ _) rfl hl.1 rfl (Nat.le_of_ble_eq_true rfl) dX0_fill_78 ⟨Nat.zero_le _, Nat.zero_le _⟩ (fun H locs hP hD hS => ?_)
      have hP : va_P G.1 vwCl (dW G.2.1 α (t3_X0_fill σ p1 p2 p3)) H := hP
      have hD : va_D (inW w0) (dW G.2.1 α (t3_X0_fill σ p1 p2 p3)) := hD
      refine lv_aload_n hx hb dX0_fill_81 rfl (lv_at hl 0 rfl) ?_
      refine lv_iload_n hx hb dX0_fill_82 rfl (lv_at hl 1 rfl) ?_
      refine lv_bipush (v := 12) hx hb dX0_fill_83 (by decide) ?_
      refine lv_iadd hx hb dX0_fill_85 ?_
      refine lv_aload_n hx hb dX0_fill_86 rfl (lv_at hl 0 rfl) ?_
      refine lv_iconst (v := 0) hx hb dX0_fill_87 (by decide) ?_
      refine rdV (As := [.int 0]) (rest := [.int (p1 + 12), .ref (α 0)]) (c_X0_settingOf l G α (t3_X0_fill σ p1 p2 p3) 0) hF (cwV 1 hts gX0_fill_X0_settingOf rfl rfl rfl (by decide +kernel) ⟨Nat.le_of_ble_eq_true rfl, Nat.le_of_ble_eq_true rfl⟩) (rcv_D hK hP) hK hP rfl hl.1 rfl (Nat.le_of_ble_eq_true rfl) dX0_fill_88 ⟨Nat.zero_le _, Nat.zero_le _⟩ ?_
      refine wrV0 (As := [.int (p1 + 12), .int (s_X0_settingOf (t3_X0_fill σ p1 p2 p3) 0)]) (rest := []) (c_X0_blurBy l G α (t3_X0_fill σ p1 p2 p3) (p1 + 12) (s_X0_settingOf (t3_X0_fill σ p1 p2 p3) 0)) hF (cwV 2 hts gX0_fill_X0_blurBy rfl rfl rfl (by decide +kernel) ⟨Nat.le_of_ble_eq_true rfl, Nat.le_of_ble_eq_true rfl⟩) (rcv_D hK hP) hK hP hD hS (fst_D _ _) rfl hl.1 rfl (Nat.le_of_ble_eq_true rfl) dX0_fill_91 ⟨Nat.zero_le _, Nat.zero_le _⟩ (fun H locs hP hD hS => ?_)
      have hP : va_P G.1 vwCl (dW G.2.1 α (t4_X0_fill σ p1 p2 p3)) H := hP
      have hD : va_D (inW w0) (dW G.2.1 α (t4_X0_fill σ p1 p2 p3)) := hD
      refine lv_aload_n hx hb dX0_fill_94 rfl (lv_at hl 0 rfl) ?_
      refine lv_iload_n hx hb dX0_fill_95 rfl (lv_at hl 1 rfl) ?_
      refine lv_bipush (v := 24) hx hb dX0_fill_96 (by decide) ?_
      refine lv_isub hx hb dX0_fill_98 ?_
      refine lv_aload_n hx hb dX0_fill_99 rfl (lv_at hl 0 rfl) ?_
      refine lv_iconst (v := 1) hx hb dX0_fill_100 (by decide) ?_
      refine rdV (As := [.int 1]) (rest := [.int (p1 - 24), .ref (α 0)]) (c_X0_settingOf l G α (t4_X0_fill σ p1 p2 p3) 1) hF (cwV 1 hts gX0_fill_X0_settingOf rfl rfl rfl (by decide +kernel) ⟨Nat.le_of_ble_eq_true rfl, Nat.le_of_ble_eq_true rfl⟩) (rcv_D hK hP) hK hP rfl hl.1 rfl (Nat.le_of_ble_eq_true rfl) dX0_fill_101 ⟨Nat.zero_le _, Nat.zero_le _⟩ ?_
      refine wrV0 (As := [.int (p1 - 24), .int (s_X0_settingOf (t4_X0_fill σ p1 p2 p3) 1)]) (rest := []) (c_X0_blurBy l G α (t4_X0_fill σ p1 p2 p3) (p1 - 24) (s_X0_settingOf (t4_X0_fill σ p1 p2 p3) 1)) hF (cwV 2 hts gX0_fill_X0_blurBy rfl rfl rfl (by decide +kernel) ⟨Nat.le_of_ble_eq_true rfl, Nat.le_of_ble_eq_true rfl⟩) (rcv_D hK hP) hK hP hD hS (fst_D _ _) rfl hl.1 rfl (Nat.le_of_ble_eq_true rfl) dX0_fill_104 ⟨Nat.zero_le _, Nat.zero_le _⟩ (fun H locs hP hD hS => ?_)
      have hP : va_P G.1 vwCl (dW G.2.1 α (t5_X0_fill σ p1 p2 p3)) H := hP
      have hD : va_D (inW w0) (dW G.2.1 α (t5_X0_fill σ p1 p2 p3)) := hD
      refine lv_aload_n hx hb dX0_fill_107 rfl (lv_at hl 0 rfl) ?_
      refine lv_iload_n hx hb dX0_fill_108 rfl (lv_at hl 1 rfl) ?_
      refine lv_bipush (v := 24) hx hb dX0_fill_109 (by decide) ?_
      refine lv_iadd hx hb dX0_fill_111 ?_
      refine lv_aload_n hx hb dX0_fill_112 rfl (lv_at hl 0 rfl) ?_
      refine lv_iconst (v := 1) hx hb dX0_fill_113 (by decide) ?_
      refine rdV (As := [.int 1]) (rest := [.int (p1 + 24), .ref (α 0)]) (c_X0_settingOf l G α (t5_X0_fill σ p1 p2 p3) 1) hF (cwV 1 hts gX0_fill_X0_settingOf rfl rfl rfl (by decide +kernel) ⟨Nat.le_of_ble_eq_true rfl, Nat.le_of_ble_eq_true rfl⟩) (rcv_D hK hP) hK hP rfl hl.1 rfl (Nat.le_of_ble_eq_true rfl) dX0_fill_114 ⟨Nat.zero_le _, Nat.zero_le _⟩ ?_
      refine wrV0 (As := [.int (p1 + 24), .int (s_X0_settingOf (t5_X0_fill σ p1 p2 p3) 1)]) (rest := []) (c_X0_blurBy l G α (t5_X0_fill σ p1 p2 p3) (p1 + 24) (s_X0_settingOf (t5_X0_fill σ p1 p2 p3) 1)) hF (cwV 2 hts gX0_fill_X0_blurBy rfl rfl rfl (by decide +kernel) ⟨Nat.le_of_ble_eq_true rfl, Nat.le_of_ble_eq_true rfl⟩) (rcv_D hK hP) hK hP hD hS (fst_D _ _) rfl hl.1 rfl (Nat.le_of_ble_eq_true rfl) dX0_fill_117 ⟨Nat.zero_le _, Nat.zero_le _⟩ (fun H locs hP hD hS => ?_)
      have hP : va_P G.1 vwCl (dW G.2.1 α (t6_X0_fill σ p1 p2 p3)) H := hP
      have hD : va_D (inW w0) (dW G.2.1 α (t6_X0_fill σ p1 p2 p3)) := hD
      rw [show s_X0_fill σ p1 p2 p3 = (t6_X0_fill σ p1 p2 p3) from by rw [s_X0_fill]; rw [if_pos c_1, if_pos c_2]]
      exact W.vret hx hb hr (fun t ht hW => ⟨rfl, by rw [ht]; exact hP, hS.F ht⟩) hS.2.2 dX0_fill_120
  · skip
    refine lv_aload_n hx hb dX0_fill_9 rfl (lv_at hl 0 rfl) ?_
    refine get_D_sectors hx hb hts hinX0 hown hK hP (hts (.fieldLink RX0 27 "GrooveTurns$Disc" "sectors" "[I") (by decide +kernel)) dX0_fill_10 ?_
    refine lv_iload_n hx hb dX0_fill_13 rfl (lv_at hl 2 rfl) ?_
    refine lv_iload_n hx hb dX0_fill_14 rfl (lv_at hl 1 rfl) ?_
    refine wrN (As := [.ref (α 5), .int p2, .int p1]) (rest := []) (c_X4_lay l G (α 5) 192 (d_se σ) p2 p1 (by decide)) hF (va_cnB (host := RX4) 3 hts gX0_fill_X4_lay_n57 rfl rfl rfl (hK.nest 7 rfl) (hts (.initialized RX4) (by decide +kernel)) (by decide +kernel) ⟨Nat.le_of_ble_eq_true rfl, Nat.le_of_ble_eq_true rfl⟩) (hts (.static yX4_lay) (by decide +kernel)) hK hP hD hS [5] (pl_D_se _ _ _) (pf_D_se _ _ _) rfl (by decide) rfl hl.1 rfl (Nat.le_of_ble_eq_true rfl) dX0_fill_15 ⟨Nat.zero_le _, Nat.zero_le _⟩ (fun H locs hP hD hS => ?_)
    rw [pset_D_se] at hP hD
    have hP : va_P G.1 vwCl (dW G.2.1 α (d_se' σ (s_X4_lay 192 (d_se σ) p2 p1))) H := hP
    have hD : va_D (inW w0) (dW G.2.1 α (d_se' σ (s_X4_lay 192 (d_se σ) p2 p1))) := hD
    refine lv_aload_n hx hb dX0_fill_18 rfl (lv_at hl 0 rfl) ?_
    refine lv_dup hx hb dX0_fill_19 rfl ?_
    refine get_D_sparesTaken hx hb hts hinX0 hown hK hP (hts (.fieldLink RX0 30 "GrooveTurns$Disc" "sparesTaken" "I") (by decide +kernel)) dX0_fill_20 ?_
    refine lv_iconst (v := 1) hx hb dX0_fill_23 (by decide) ?_
    refine lv_iadd hx hb dX0_fill_24 ?_
    refine put_D_sparesTaken hx hb hts hinX0 hown hK hP hD hS (hts (.fieldLink RX0 30 "GrooveTurns$Disc" "sparesTaken" "I") (by decide +kernel)) dX0_fill_25 (fun H locs hP hD hS => ?_)
    have hP : va_P G.1 vwCl (dW G.2.1 α (d_sp' (d_se' σ (s_X4_lay 192 (d_se σ) p2 p1)) ((d_sp σ) + 1))) H := hP
    have hD : va_D (inW w0) (dW G.2.1 α (d_sp' (d_se' σ (s_X4_lay 192 (d_se σ) p2 p1)) ((d_sp σ) + 1))) := hD
    refine lv_aload_n hx hb dX0_fill_28 rfl (lv_at hl 0 rfl) ?_
    refine get_D_numbers hx hb hts hinX0 hown hK hP (hts (.fieldLink RX0 18 "GrooveTurns$Disc" "numbers" "[I") (by decide +kernel)) dX0_fill_29 ?_
    refine lv_iload_n hx hb dX0_fill_32 rfl (lv_at hl 1 rfl) ?_
    refine lv_iload_n hx hb dX0_fill_33 rfl (lv_at hl 3 rfl) ?_
    refine wrN (As := [.ref (α 2), .int p1, .int p3]) (rest := []) (c_X4_lay l G (α 2) 204 (d_nu σ) p1 p3 (by decide)) hF (va_cnB (host := RX4) 3 hts gX0_fill_X4_lay_n57 rfl rfl rfl (hK.nest 7 rfl) (hts (.initialized RX4) (by decide +kernel)) (by decide +kernel) ⟨Nat.le_of_ble_eq_true rfl, Nat.le_of_ble_eq_true rfl⟩) (hts (.static yX4_lay) (by decide +kernel)) hK hP hD hS [2] (pl_D_nu _ _ _) (pf_D_nu _ _ _) rfl (by decide) rfl hl.1 rfl (Nat.le_of_ble_eq_true rfl) dX0_fill_34 ⟨Nat.zero_le _, Nat.zero_le _⟩ (fun H locs hP hD hS => ?_)
    rw [pset_D_nu] at hP hD
    have hP : va_P G.1 vwCl (dW G.2.1 α (t7_X0_fill σ p1 p2 p3)) H := hP
    have hD : va_D (inW w0) (dW G.2.1 α (t7_X0_fill σ p1 p2 p3)) := hD
    refine lv_aload_n hx hb dX0_fill_37 rfl (lv_at hl 0 rfl) ?_
    refine get_D_blurs hx hb hts hinX0 hown hK hP (hts (.fieldLink RX0 21 "GrooveTurns$Disc" "blurs" "[I") (by decide +kernel)) dX0_fill_38 ?_
    refine lv_iload_n hx hb dX0_fill_41 rfl (lv_at hl 1 rfl) ?_
    refine lv_iconst (v := 0) hx hb dX0_fill_42 (by decide) ?_
    refine wrN (As := [.ref (α 3), .int p1, .int 0]) (rest := []) (c_X4_lay l G (α 3) 204 (d_bl (t7_X0_fill σ p1 p2 p3)) p1 0 (by decide)) hF (va_cnB (host := RX4) 3 hts gX0_fill_X4_lay_n57 rfl rfl rfl (hK.nest 7 rfl) (hts (.initialized RX4) (by decide +kernel)) (by decide +kernel) ⟨Nat.le_of_ble_eq_true rfl, Nat.le_of_ble_eq_true rfl⟩) (hts (.static yX4_lay) (by decide +kernel)) hK hP hD hS [3] (pl_D_bl _ _ _) (pf_D_bl _ _ _) rfl (by decide) rfl hl.1 rfl (Nat.le_of_ble_eq_true rfl) dX0_fill_43 ⟨Nat.zero_le _, Nat.zero_le _⟩ (fun H locs hP hD hS => ?_)
    rw [pset_D_bl] at hP hD
    have hP : va_P G.1 vwCl (dW G.2.1 α (t8_X0_fill σ p1 p2 p3)) H := hP
    have hD : va_D (inW w0) (dW G.2.1 α (t8_X0_fill σ p1 p2 p3)) := hD
    refine lv_aload_n hx hb dX0_fill_46 rfl (lv_at hl 0 rfl) ?_
    refine get_D_writings hx hb hts hinX0 hown hK hP (hts (.fieldLink RX0 24 "GrooveTurns$Disc" "writings" "[I") (by decide +kernel)) dX0_fill_47 ?_
    refine lv_iload_n hx hb dX0_fill_50 rfl (lv_at hl 1 rfl) ?_
    refine lv_aload_n hx hb dX0_fill_51 rfl (lv_at hl 0 rfl) ?_
    refine lv_iload_n hx hb dX0_fill_52 rfl (lv_at hl 1 rfl) ?_
    refine rdV (As := [.int p1]) (rest := [.int p1, .ref (α 4)]) (c_X0_writingsOf l G α (t8_X0_fill σ p1 p2 p3) p1) hF (cwV 1 hts gX0_fill_X0_writingsOf rfl rfl rfl (by decide +kernel) ⟨Nat.le_of_ble_eq_true rfl, Nat.le_of_ble_eq_true rfl⟩) (rcv_D hK hP) hK hP rfl hl.1 rfl (Nat.le_of_ble_eq_true rfl) dX0_fill_53 ⟨Nat.zero_le _, Nat.zero_le _⟩ ?_
    refine lv_iconst (v := 1) hx hb dX0_fill_56 (by decide) ?_
    refine lv_iadd hx hb dX0_fill_57 ?_
    refine wrN (As := [.ref (α 4), .int p1, .int ((s_X0_writingsOf (t8_X0_fill σ p1 p2 p3) p1) + 1)]) (rest := []) (c_X4_lay l G (α 4) 204 (d_wr (t8_X0_fill σ p1 p2 p3)) p1 ((s_X0_writingsOf (t8_X0_fill σ p1 p2 p3) p1) + 1) (by decide)) hF (va_cnB (host := RX4) 3 hts gX0_fill_X4_lay_n57 rfl rfl rfl (hK.nest 7 rfl) (hts (.initialized RX4) (by decide +kernel)) (by decide +kernel) ⟨Nat.le_of_ble_eq_true rfl, Nat.le_of_ble_eq_true rfl⟩) (hts (.static yX4_lay) (by decide +kernel)) hK hP hD hS [4] (pl_D_wr _ _ _) (pf_D_wr _ _ _) rfl (by decide) rfl hl.1 rfl (Nat.le_of_ble_eq_true rfl) dX0_fill_58 ⟨Nat.zero_le _, Nat.zero_le _⟩ (fun H locs hP hD hS => ?_)
    rw [pset_D_wr] at hP hD
    have hP : va_P G.1 vwCl (dW G.2.1 α (t9_X0_fill σ p1 p2 p3)) H := hP
    have hD : va_D (inW w0) (dW G.2.1 α (t9_X0_fill σ p1 p2 p3)) := hD
    refine lv_iload_n hx hb dX0_fill_61 rfl (lv_at hl 1 rfl) ?_
    refine rdN (As := [.int p1]) (rest := []) (c_X4_isSpare l G p1) hF (va_cnB (host := RX4) 1 hts gX0_fill_X4_isSpare_n101 rfl rfl rfl (hK.nest 3 rfl) (hts (.initialized RX4) (by decide +kernel)) (by decide +kernel) ⟨Nat.le_of_ble_eq_true rfl, Nat.le_of_ble_eq_true rfl⟩) (hts (.static yX4_isSpare) (by decide +kernel)) hK va_P0 rfl hl.1 rfl (Nat.le_of_ble_eq_true rfl) dX0_fill_62 ⟨Nat.zero_le _, Nat.zero_le _⟩ ?_
    refine lv_if_ne (tgt := 120) hx hb dX0_fill_65 (by decide) (fun (c_3 : ¬ (s_X4_isSpare p1) = 0) => ?_) (fun (c_3 : (s_X4_isSpare p1) = 0) => ?_)
    · skip
      rw [show s_X0_fill σ p1 p2 p3 = (t9_X0_fill σ p1 p2 p3) from by rw [s_X0_fill]; rw [if_neg c_1, if_neg c_3]]
      exact W.vret hx hb hr (fun t ht hW => ⟨rfl, by rw [ht]; exact hP, hS.F ht⟩) hS.2.2 dX0_fill_120
    · skip
      refine lv_aload_n hx hb dX0_fill_68 rfl (lv_at hl 0 rfl) ?_
      refine lv_iload_n hx hb dX0_fill_69 rfl (lv_at hl 1 rfl) ?_
      refine lv_bipush (v := 12) hx hb dX0_fill_70 (by decide) ?_
      refine lv_isub hx hb dX0_fill_72 ?_
      refine lv_aload_n hx hb dX0_fill_73 rfl (lv_at hl 0 rfl) ?_
      refine lv_iconst (v := 0) hx hb dX0_fill_74 (by decide) ?_
      refine rdV (As := [.int 0]) (rest := [.int (p1 - 12), .ref (α 0)]) (c_X0_settingOf l G α (t9_X0_fill σ p1 p2 p3) 0) hF (cwV 1 hts gX0_fill_X0_settingOf rfl rfl rfl (by decide +kernel) ⟨Nat.le_of_ble_eq_true rfl, Nat.le_of_ble_eq_true rfl⟩) (rcv_D hK hP) hK hP rfl hl.1 rfl (Nat.le_of_ble_eq_true rfl) dX0_fill_75 ⟨Nat.zero_le _, Nat.zero_le _⟩ ?_
      refine wrV0 (As := [.int (p1 - 12), .int (s_X0_settingOf (t9_X0_fill σ p1 p2 p3) 0)]) (rest := []) (c_X0_blurBy l G α (t9_X0_fill σ p1 p2 p3) (p1 - 12) (s_X0_settingOf (t9_X0_fill σ p1 p2 p3) 0)) hF (cwV 2 hts gX0_fill_X0_blurBy rfl rfl rfl (by decide +kernel) ⟨Nat.le_of_ble_eq_true rfl, Nat.le_of_ble_eq_true rfl⟩) (rcv_D hK hP) hK hP hD hS (fst_D _ _) rfl hl.1 rfl (Nat.le_of_ble_eq_true rfl) dX0_fill_78 ⟨Nat.zero_le _, Nat.zero_le _⟩ (fun H locs hP hD hS => ?_)
      have hP : va_P G.1 vwCl (dW G.2.1 α (t10_X0_fill σ p1 p2 p3)) H := hP
      have hD : va_D (inW w0) (dW G.2.1 α (t10_X0_fill σ p1 p2 p3)) := hD
      refine lv_aload_n hx hb dX0_fill_81 rfl (lv_at hl 0 rfl) ?_
      refine lv_iload_n hx hb dX0_fill_82 rfl (lv_at hl 1 rfl) ?_
      refine lv_bipush (v := 12) hx hb dX0_fill_83 (by decide) ?_
      refine lv_iadd hx hb dX0_fill_85 ?_
      refine lv_aload_n hx hb dX0_fill_86 rfl (lv_at hl 0 rfl) ?_
      refine lv_iconst (v := 0) hx hb dX0_fill_87 (by decide) ?_
      refine rdV (As := [.int 0]) (rest := [.int (p1 + 12), .ref (α 0)]) (c_X0_settingOf l G α (t10_X0_fill σ p1 p2 p3) 0) hF (cwV 1 hts gX0_fill_X0_settingOf rfl rfl rfl (by decide +kernel) ⟨Nat.le_of_ble_eq_true rfl, Nat.le_of_ble_eq_true rfl⟩) (rcv_D hK hP) hK hP rfl hl.1 rfl (Nat.le_of_ble_eq_true rfl) dX0_fill_88 ⟨Nat.zero_le _, Nat.zero_le _⟩ ?_
      refine wrV0 (As := [.int (p1 + 12), .int (s_X0_settingOf (t10_X0_fill σ p1 p2 p3) 0)]) (rest := []) (c_X0_blurBy l G α (t10_X0_fill σ p1 p2 p3) (p1 + 12) (s_X0_settingOf (t10_X0_fill σ p1 p2 p3) 0)) hF (cwV 2 hts gX0_fill_X0_blurBy rfl rfl rfl (by decide +kernel) ⟨Nat.le_of_ble_eq_true rfl, Nat.le_of_ble_eq_true rfl⟩) (rcv_D hK hP) hK hP hD hS (fst_D _ _) rfl hl.1 rfl (Nat.le_of_ble_eq_true rfl) dX0_fill_91 ⟨Nat.zero_le _, Nat.zero_le _⟩ (fun H locs hP hD hS => ?_)
      have hP : va_P G.1 vwCl (dW G.2.1 α (t11_X0_fill σ p1 p2 p3)) H := hP
      have hD : va_D (inW w0) (dW G.2.1 α (t11_X0_fill σ p1 p2 p3)) := hD
      refine lv_aload_n hx hb dX0_fill_94 rfl (lv_at hl 0 rfl) ?_
      refine lv_iload_n hx hb dX0_fill_95 rfl (lv_at hl 1 rfl) ?_
      refine lv_bipush (v := 24) hx hb dX0_fill_96 (by decide) ?_
      refine lv_isub hx hb dX0_fill_98 ?_
      refine lv_aload_n hx hb dX0_fill_99 rfl (lv_at hl 0 rfl) ?_
      refine lv_iconst (v := 1) hx hb dX0_fill_100 (by decide) ?_
      refine rdV (As := [.int 1]) (rest := [.int (p1 - 24), .ref (α 0)]) (c_X0_settingOf l G α (t11_X0_fill σ p1 p2 p3) 1) hF (cwV 1 hts gX0_fill_X0_settingOf rfl rfl rfl (by decide +kernel) ⟨Nat.le_of_ble_eq_true rfl, Nat.le_of_ble_eq_true rfl⟩) (rcv_D hK hP) hK hP rfl hl.1 rfl (Nat.le_of_ble_eq_true rfl) dX0_fill_101 ⟨Nat.zero_le _, Nat.zero_le _⟩ ?_
      refine wrV0 (As := [.int (p1 - 24), .int (s_X0_settingOf (t11_X0_fill σ p1 p2 p3) 1)]) (rest := []) (c_X0_blurBy l G α (t11_X0_fill σ p1 p2 p3) (p1 - 24) (s_X0_settingOf (t11_X0_fill σ p1 p2 p3) 1)) hF (cwV 2 hts gX0_fill_X0_blurBy rfl rfl rfl (by decide +kernel) ⟨Nat.le_of_ble_eq_true rfl, Nat.le_of_ble_eq_true rfl⟩) (rcv_D hK hP) hK hP hD hS (fst_D _ _) rfl hl.1 rfl (Nat.le_of_ble_eq_true rfl) dX0_fill_104 ⟨Nat.zero_le _, Nat.zero_le _⟩ (fun H locs hP hD hS => ?_)
      have hP : va_P G.1 vwCl (dW G.2.1 α (t12_X0_fill σ p1 p2 p3)) H := hP
      have hD : va_D (inW w0) (dW G.2.1 α (t12_X0_fill σ p1 p2 p3)) := hD
      refine lv_aload_n hx hb dX0_fill_107 rfl (lv_at hl 0 rfl) ?_
      refine lv_iload_n hx hb dX0_fill_108 rfl (lv_at hl 1 rfl) ?_
      refine lv_bipush (v := 24) hx hb dX0_fill_109 (by decide) ?_
      refine lv_iadd hx hb dX0_fill_111 ?_
      refine lv_aload_n hx hb dX0_fill_112 rfl (lv_at hl 0 rfl) ?_
      refine lv_iconst (v := 1) hx hb dX0_fill_113 (by decide) ?_
      refine rdV (As := [.int 1]) (rest := [.int (p1 + 24), .ref (α 0)]) (c_X0_settingOf l G α (t12_X0_fill σ p1 p2 p3) 1) hF (cwV 1 hts gX0_fill_X0_settingOf rfl rfl rfl (by decide +kernel) ⟨Nat.le_of_ble_eq_true rfl, Nat.le_of_ble_eq_true rfl⟩) (rcv_D hK hP) hK hP rfl hl.1 rfl (Nat.le_of_ble_eq_true rfl) dX0_fill_114 ⟨Nat.zero_le _, Nat.zero_le _⟩ ?_
      refine wrV0 (As := [.int (p1 + 24), .int (s_X0_settingOf (t12_X0_fill σ p1 p2 p3) 1)]) (rest := []) (c_X0_blurBy l G α (t12_X0_fill σ p1 p2 p3) (p1 + 24) (s_X0_settingOf (t12_X0_fill σ p1 p2 p3) 1)) hF (cwV 2 hts gX0_fill_X0_blurBy rfl rfl rfl (by decide +kernel) ⟨Nat.le_of_ble_eq_true rfl, Nat.le_of_ble_eq_true rfl⟩) (rcv_D hK hP) hK hP hD hS (fst_D _ _) rfl hl.1 rfl (Nat.le_of_ble_eq_true rfl) dX0_fill_117 ⟨Nat.zero_le _, Nat.zero_le _⟩ (fun H locs hP hD hS => ?_)
      have hP : va_P G.1 vwCl (dW G.2.1 α (t13_X0_fill σ p1 p2 p3)) H := hP
      have hD : va_D (inW w0) (dW G.2.1 α (t13_X0_fill σ p1 p2 p3)) := hD
      rw [show s_X0_fill σ p1 p2 p3 = (t13_X0_fill σ p1 p2 p3) from by rw [s_X0_fill]; rw [if_neg c_1, if_pos c_3]]
      exact W.vret hx hb hr (fun t ht hW => ⟨rfl, by rw [ht]; exact hP, hS.F ht⟩) hS.2.2 dX0_fill_120
def t1_X0_writeTo (σ : DS) (p1 : Int32) (p2 : Int32) : DS := (s_X0_pass (s_X0_fill σ (s_X0_sectorToWrite σ p1) p1 p2) (s_X0_ticksTo σ (s_X0_sectorToWrite σ p1)) (s_X4_trackOf (s_X0_sectorToWrite σ p1)))
def s_X0_writeTo (σ : DS) (p1 : Int32) (p2 : Int32) : Int32 × DS := (if (s_X0_hasTime σ (s_X0_ticksTo σ (s_X0_sectorToWrite σ p1))) = 0 then ((-4), σ) else ((s_X0_ticksTo σ (s_X0_sectorToWrite σ p1)), (t1_X0_writeTo σ p1 p2)))
set_option maxHeartbeats 4000000 in
set_option maxRecDepth 100000 in
theorem c_X0_writeTo (l : Launch) (G : GG) (α : Nat → Nat) (σ : DS) (p1 : Int32) (p2 : Int32) : Wr G l yX0_writeTo wsX0_writeTo 4 87 [.ref (α 0), .int p1, .int p2] (dW G.2.1 α σ) (some (.int (s_X0_writeTo σ p1 p2).1)) (dW G.2.1 α ((s_X0_writeTo σ p1 p2).2)) := by
  refine Met.ofW (cc := cX0_writeTo) (maxL := 5) (ret := (some .int)) (by decide) rfl ?_
  intro p e s m args below meth c s₁ B hml hv
  obtain ⟨rfl, hP, hK, hD0⟩ := hv
  have C0 : cA p s m meth c ([.ref (α 0), .int p1, .int p2] : List Value).toArray cX0_writeTo 5 (some .int) wsX0_writeTo RX0 := ⟨B.exec, B.bytes, B.returns, hml, findClass_of_methodNamed B.named, atoms_spec (ws := wsX0_writeTo) B.pre, B.notSynchronized⟩
  obtain ⟨hx, hb, hr, hml, hown, hts, hlocks⟩ := id C0
  have hF : CallFix p m c cX0_writeTo 5 s _ wsX0_writeTo RX0 := ⟨hx, hb, hml, hown, hts⟩
  obtain ⟨w0, hw0⟩ : ∃ w0 : va_W, w0 = (dW G.2.1 α σ) := ⟨_, rfl⟩
  have hD : va_D (inW w0) (dW G.2.1 α σ) := by rw [hw0]; exact inW.D hD0
  have hS : va_S (inW w0) s.heap s.heap [] := va_S.rf
  rw [show QW G (dW G.2.1 α σ) = QW G w0 from by rw [hw0], show inW (dW G.2.1 α σ) = inW w0 from by rw [hw0]]
  have hl := lv_entry ([.ref (α 0), .int p1, .int p2]) (n := 5) (Nat.le_of_ble_eq_true rfl)
  rw [lg_entry_eq]
  generalize (lg_sl ([.ref (α 0), .int p1, .int p2]) ++ List.replicate (5 - (lg_sl ([.ref (α 0), .int p1, .int p2])).length) Slot.unset).toArray = ls at hl ⊢
  have hl : lv_has ls 5 [(0, .ref (α 0)), (1, .int p1), (2, .int p2)] := hl
  refine lv_aload_n hx hb dX0_writeTo_0 rfl (lv_at hl 0 rfl) ?_
  refine lv_iload_n hx hb dX0_writeTo_1 rfl (lv_at hl 1 rfl) ?_
  refine rdV (As := [.int p1]) (rest := []) (c_X0_sectorToWrite l G α σ p1) hF (cwV 1 hts gX0_writeTo_X0_sectorToWrite rfl rfl rfl (by decide +kernel) ⟨Nat.le_of_ble_eq_true rfl, Nat.le_of_ble_eq_true rfl⟩) (rcv_D hK hP) hK hP rfl hl.1 rfl (Nat.le_of_ble_eq_true rfl) dX0_writeTo_2 ⟨Nat.zero_le _, Nat.zero_le _⟩ ?_
  refine lv_istore_n (lv' := [(3, .int (s_X0_sectorToWrite σ p1)), (0, .ref (α 0)), (1, .int p1), (2, .int p2)]) hx hb dX0_writeTo_5 rfl hl (by decide) rfl (fun ls hl => ?_)
  refine lv_aload_n hx hb dX0_writeTo_6 rfl (lv_at hl 1 rfl) ?_
  refine lv_iload_n hx hb dX0_writeTo_7 rfl (lv_at hl 0 rfl) ?_
  refine rdV (As := [.int (s_X0_sectorToWrite σ p1)]) (rest := []) (c_X0_ticksTo l G α σ (s_X0_sectorToWrite σ p1)) hF (cwV 1 hts gX0_writeTo_X0_ticksTo rfl rfl rfl (by decide +kernel) ⟨Nat.le_of_ble_eq_true rfl, Nat.le_of_ble_eq_true rfl⟩) (rcv_D hK hP) hK hP rfl hl.1 rfl (Nat.le_of_ble_eq_true rfl) dX0_writeTo_8 ⟨Nat.zero_le _, Nat.zero_le _⟩ ?_
  refine lv_istore (lv' := [(4, .int (s_X0_ticksTo σ (s_X0_sectorToWrite σ p1))), (3, .int (s_X0_sectorToWrite σ p1)), (0, .ref (α 0)), (1, .int p1), (2, .int p2)]) hx hb dX0_writeTo_11 hl (by decide) rfl (fun ls hl => ?_)
  refine lv_aload_n hx hb dX0_writeTo_13 rfl (lv_at hl 2 rfl) ?_
  refine lv_iload hx hb dX0_writeTo_14 (lv_at hl 0 rfl) ?_
  refine rdV (As := [.int (s_X0_ticksTo σ (s_X0_sectorToWrite σ p1))]) (rest := []) (c_X0_hasTime l G α σ (s_X0_ticksTo σ (s_X0_sectorToWrite σ p1))) hF (cwV 1 hts gX0_writeTo_X0_hasTime rfl rfl rfl (by decide +kernel) ⟨Nat.le_of_ble_eq_true rfl, Nat.le_of_ble_eq_true rfl⟩) (rcv_D hK hP) hK hP rfl hl.1 rfl (Nat.le_of_ble_eq_true rfl) dX0_writeTo_16 ⟨Nat.zero_le _, Nat.zero_le _⟩ ?_
  refine lv_if_ne (tgt := 25) hx hb dX0_writeTo_19 (by decide) (fun (c_1 : ¬ (s_X0_hasTime σ (s_X0_ticksTo σ (s_X0_sectorToWrite σ p1))) = 0) => ?_) (fun (c_1 : (s_X0_hasTime σ (s_X0_ticksTo σ (s_X0_sectorToWrite σ p1))) = 0) => ?_)
  · skip
    refine lv_aload_n hx hb dX0_writeTo_25 rfl (lv_at hl 2 rfl) ?_
    refine lv_iload_n hx hb dX0_writeTo_26 rfl (lv_at hl 1 rfl) ?_
    refine lv_iload_n hx hb dX0_writeTo_27 rfl (lv_at hl 3 rfl) ?_
    refine lv_iload_n hx hb dX0_writeTo_28 rfl (lv_at hl 4 rfl) ?_
    refine wrV0 (As := [.int (s_X0_sectorToWrite σ p1), .int p1, .int p2]) (rest := []) (c_X0_fill l G α σ (s_X0_sectorToWrite σ p1) p1 p2) hF (cwV 3 hts gX0_writeTo_X0_fill rfl rfl rfl (by decide +kernel) ⟨Nat.le_of_ble_eq_true rfl, Nat.le_of_ble_eq_true rfl⟩) (rcv_D hK hP) hK hP hD hS (fst_D _ _) rfl hl.1 rfl (Nat.le_of_ble_eq_true rfl) dX0_writeTo_29 ⟨Nat.zero_le _, Nat.zero_le _⟩ (fun H locs hP hD hS => ?_)
    have hP : va_P G.1 vwCl (dW G.2.1 α (s_X0_fill σ (s_X0_sectorToWrite σ p1) p1 p2)) H := hP
    have hD : va_D (inW w0) (dW G.2.1 α (s_X0_fill σ (s_X0_sectorToWrite σ p1) p1 p2)) := hD
    refine lv_aload_n hx hb dX0_writeTo_32 rfl (lv_at hl 2 rfl) ?_
    refine lv_iload hx hb dX0_writeTo_33 (lv_at hl 0 rfl) ?_
    refine lv_iload_n hx hb dX0_writeTo_35 rfl (lv_at hl 1 rfl) ?_
    refine rdN (As := [.int (s_X0_sectorToWrite σ p1)]) (rest := [.int (s_X0_ticksTo σ (s_X0_sectorToWrite σ p1)), .ref (α 0)]) (c_X4_trackOf l G (s_X0_sectorToWrite σ p1)) hF (va_cnB (host := RX4) 1 hts gX0_writeTo_X4_trackOf_n75 rfl rfl rfl (hK.nest 8 rfl) (hts (.initialized RX4) (by decide +kernel)) (by decide +kernel) ⟨Nat.le_of_ble_eq_true rfl, Nat.le_of_ble_eq_true rfl⟩) (hts (.static yX4_trackOf) (by decide +kernel)) hK va_P0 rfl hl.1 rfl (Nat.le_of_ble_eq_true rfl) dX0_writeTo_36 ⟨Nat.zero_le _, Nat.zero_le _⟩ ?_
    refine wrV0 (As := [.int (s_X0_ticksTo σ (s_X0_sectorToWrite σ p1)), .int (s_X4_trackOf (s_X0_sectorToWrite σ p1))]) (rest := []) (c_X0_pass l G α (s_X0_fill σ (s_X0_sectorToWrite σ p1) p1 p2) (s_X0_ticksTo σ (s_X0_sectorToWrite σ p1)) (s_X4_trackOf (s_X0_sectorToWrite σ p1))) hF (cwV 2 hts gX0_writeTo_X0_pass rfl rfl rfl (by decide +kernel) ⟨Nat.le_of_ble_eq_true rfl, Nat.le_of_ble_eq_true rfl⟩) (rcv_D hK hP) hK hP hD hS (fst_D _ _) rfl hl.1 rfl (Nat.le_of_ble_eq_true rfl) dX0_writeTo_39 ⟨Nat.zero_le _, Nat.zero_le _⟩ (fun H locs hP hD hS => ?_)
    have hP : va_P G.1 vwCl (dW G.2.1 α (t1_X0_writeTo σ p1 p2)) H := hP
    have hD : va_D (inW w0) (dW G.2.1 α (t1_X0_writeTo σ p1 p2)) := hD
    refine lv_iload hx hb dX0_writeTo_42 (lv_at hl 0 rfl) ?_
    rw [show s_X0_writeTo σ p1 p2 = ((s_X0_ticksTo σ (s_X0_sectorToWrite σ p1)), (t1_X0_writeTo σ p1 p2)) from by rw [s_X0_writeTo]; rw [if_neg c_1]]
    exact W.iret hx hb hr (fun t ht hW => ⟨rfl, by rw [ht]; exact hP, hS.F ht⟩) hS.2.2 dX0_writeTo_44
  · skip
    refine lv_bipush (v := (-4)) hx hb dX0_writeTo_22 (by decide) ?_
    rw [show s_X0_writeTo σ p1 p2 = ((-4), σ) from by rw [s_X0_writeTo]; rw [if_pos c_1]]
    exact W.iret hx hb hr (fun t ht hW => ⟨rfl, by rw [ht]; exact hP, hS.F ht⟩) hS.2.2 dX0_writeTo_24
def t1_X0_readFrom (σ : DS) (p1 : Int32) : DS := (s_X0_pass σ (s_X0_ticksTo σ (s_X0_sectorFor σ p1)) (s_X4_trackOf (s_X0_sectorFor σ p1)))
def s_X0_readFrom (σ : DS) (p1 : Int32) : Int32 × DS := (if (s_X0_isReadable σ (s_X0_sectorFor σ p1)) = 0 then ((-5), σ) else (if (s_X0_hasTime σ (s_X0_ticksTo σ (s_X0_sectorFor σ p1))) = 0 then ((-4), σ) else ((s_X0_numberIn (d_rd' (t1_X0_readFrom σ p1) ((d_rd (t1_X0_readFrom σ p1)) + 1)) (s_X0_sectorFor σ p1)), (d_rd' (t1_X0_readFrom σ p1) ((d_rd (t1_X0_readFrom σ p1)) + 1)))))
set_option maxHeartbeats 4000000 in
set_option maxRecDepth 100000 in
theorem c_X0_readFrom (l : Launch) (G : GG) (α : Nat → Nat) (σ : DS) (p1 : Int32) : Wr G l yX0_readFrom wsX0_readFrom 4 86 [.ref (α 0), .int p1] (dW G.2.1 α σ) (some (.int (s_X0_readFrom σ p1).1)) (dW G.2.1 α ((s_X0_readFrom σ p1).2)) := by
  refine Met.ofW (cc := cX0_readFrom) (maxL := 4) (ret := (some .int)) (by decide) rfl ?_
  intro p e s m args below meth c s₁ B hml hv
  obtain ⟨rfl, hP, hK, hD0⟩ := hv
  have C0 : cA p s m meth c ([.ref (α 0), .int p1] : List Value).toArray cX0_readFrom 4 (some .int) wsX0_readFrom RX0 := ⟨B.exec, B.bytes, B.returns, hml, findClass_of_methodNamed B.named, atoms_spec (ws := wsX0_readFrom) B.pre, B.notSynchronized⟩
  obtain ⟨hx, hb, hr, hml, hown, hts, hlocks⟩ := id C0
  have hF : CallFix p m c cX0_readFrom 4 s _ wsX0_readFrom RX0 := ⟨hx, hb, hml, hown, hts⟩
  have hinX0 : ∀ w ∈ wsX00, w ∈ wsX0_readFrom := by decide +kernel
  obtain ⟨w0, hw0⟩ : ∃ w0 : va_W, w0 = (dW G.2.1 α σ) := ⟨_, rfl⟩
  have hD : va_D (inW w0) (dW G.2.1 α σ) := by rw [hw0]; exact inW.D hD0
  have hS : va_S (inW w0) s.heap s.heap [] := va_S.rf
  rw [show QW G (dW G.2.1 α σ) = QW G w0 from by rw [hw0], show inW (dW G.2.1 α σ) = inW w0 from by rw [hw0]]
  have hl := lv_entry ([.ref (α 0), .int p1]) (n := 4) (Nat.le_of_ble_eq_true rfl)
  rw [lg_entry_eq]
  generalize (lg_sl ([.ref (α 0), .int p1]) ++ List.replicate (4 - (lg_sl ([.ref (α 0), .int p1])).length) Slot.unset).toArray = ls at hl ⊢
  have hl : lv_has ls 4 [(0, .ref (α 0)), (1, .int p1)] := hl
  refine lv_aload_n hx hb dX0_readFrom_0 rfl (lv_at hl 0 rfl) ?_
  refine lv_iload_n hx hb dX0_readFrom_1 rfl (lv_at hl 1 rfl) ?_
  refine rdV (As := [.int p1]) (rest := []) (c_X0_sectorFor l G α σ p1) hF (cwV 1 hts gX0_readFrom_X0_sectorFor rfl rfl rfl (by decide +kernel) ⟨Nat.le_of_ble_eq_true rfl, Nat.le_of_ble_eq_true rfl⟩) (rcv_D hK hP) hK hP rfl hl.1 rfl (Nat.le_of_ble_eq_true rfl) dX0_readFrom_2 ⟨Nat.zero_le _, Nat.zero_le _⟩ ?_
  refine lv_istore_n (lv' := [(2, .int (s_X0_sectorFor σ p1)), (0, .ref (α 0)), (1, .int p1)]) hx hb dX0_readFrom_5 rfl hl (by decide) rfl (fun ls hl => ?_)
  refine lv_aload_n hx hb dX0_readFrom_6 rfl (lv_at hl 1 rfl) ?_
  refine lv_iload_n hx hb dX0_readFrom_7 rfl (lv_at hl 0 rfl) ?_
  refine rdV (As := [.int (s_X0_sectorFor σ p1)]) (rest := []) (c_X0_isReadable l G α σ (s_X0_sectorFor σ p1)) hF (cwV 1 hts gX0_readFrom_X0_isReadable rfl rfl rfl (by decide +kernel) ⟨Nat.le_of_ble_eq_true rfl, Nat.le_of_ble_eq_true rfl⟩) (rcv_D hK hP) hK hP rfl hl.1 rfl (Nat.le_of_ble_eq_true rfl) dX0_readFrom_8 ⟨Nat.zero_le _, Nat.zero_le _⟩ ?_
  refine lv_if_ne (tgt := 17) hx hb dX0_readFrom_11 (by decide) (fun (c_1 : ¬ (s_X0_isReadable σ (s_X0_sectorFor σ p1)) = 0) => ?_) (fun (c_1 : (s_X0_isReadable σ (s_X0_sectorFor σ p1)) = 0) => ?_)
  · skip
    refine lv_aload_n hx hb dX0_readFrom_17 rfl (lv_at hl 1 rfl) ?_
    refine lv_iload_n hx hb dX0_readFrom_18 rfl (lv_at hl 0 rfl) ?_
    refine rdV (As := [.int (s_X0_sectorFor σ p1)]) (rest := []) (c_X0_ticksTo l G α σ (s_X0_sectorFor σ p1)) hF (cwV 1 hts gX0_readFrom_X0_ticksTo rfl rfl rfl (by decide +kernel) ⟨Nat.le_of_ble_eq_true rfl, Nat.le_of_ble_eq_true rfl⟩) (rcv_D hK hP) hK hP rfl hl.1 rfl (Nat.le_of_ble_eq_true rfl) dX0_readFrom_19 ⟨Nat.zero_le _, Nat.zero_le _⟩ ?_
    refine lv_istore_n (lv' := [(3, .int (s_X0_ticksTo σ (s_X0_sectorFor σ p1))), (2, .int (s_X0_sectorFor σ p1)), (0, .ref (α 0)), (1, .int p1)]) hx hb dX0_readFrom_22 rfl hl (by decide) rfl (fun ls hl => ?_)
    refine lv_aload_n hx hb dX0_readFrom_23 rfl (lv_at hl 2 rfl) ?_
    refine lv_iload_n hx hb dX0_readFrom_24 rfl (lv_at hl 0 rfl) ?_
    refine rdV (As := [.int (s_X0_ticksTo σ (s_X0_sectorFor σ p1))]) (rest := []) (c_X0_hasTime l G α σ (s_X0_ticksTo σ (s_X0_sectorFor σ p1))) hF (cwV 1 hts gX0_readFrom_X0_hasTime rfl rfl rfl (by decide +kernel) ⟨Nat.le_of_ble_eq_true rfl, Nat.le_of_ble_eq_true rfl⟩) (rcv_D hK hP) hK hP rfl hl.1 rfl (Nat.le_of_ble_eq_true rfl) dX0_readFrom_25 ⟨Nat.zero_le _, Nat.zero_le _⟩ ?_
    refine lv_if_ne (tgt := 34) hx hb dX0_readFrom_28 (by decide) (fun (c_2 : ¬ (s_X0_hasTime σ (s_X0_ticksTo σ (s_X0_sectorFor σ p1))) = 0) => ?_) (fun (c_2 : (s_X0_hasTime σ (s_X0_ticksTo σ (s_X0_sectorFor σ p1))) = 0) => ?_)
    · skip
      refine lv_aload_n hx hb dX0_readFrom_34 rfl (lv_at hl 2 rfl) ?_
      refine lv_iload_n hx hb dX0_readFrom_35 rfl (lv_at hl 0 rfl) ?_
      refine lv_iload_n hx hb dX0_readFrom_36 rfl (lv_at hl 1 rfl) ?_
      refine rdN (As := [.int (s_X0_sectorFor σ p1)]) (rest := [.int (s_X0_ticksTo σ (s_X0_sectorFor σ p1)), .ref (α 0)]) (c_X4_trackOf l G (s_X0_sectorFor σ p1)) hF (va_cnB (host := RX4) 1 hts gX0_readFrom_X4_trackOf_n75 rfl rfl rfl (hK.nest 8 rfl) (hts (.initialized RX4) (by decide +kernel)) (by decide +kernel) ⟨Nat.le_of_ble_eq_true rfl, Nat.le_of_ble_eq_true rfl⟩) (hts (.static yX4_trackOf) (by decide +kernel)) hK va_P0 rfl hl.1 rfl (Nat.le_of_ble_eq_true rfl) dX0_readFrom_37 ⟨Nat.zero_le _, Nat.zero_le _⟩ ?_
      refine wrV0 (As := [.int (s_X0_ticksTo σ (s_X0_sectorFor σ p1)), .int (s_X4_trackOf (s_X0_sectorFor σ p1))]) (rest := []) (c_X0_pass l G α σ (s_X0_ticksTo σ (s_X0_sectorFor σ p1)) (s_X4_trackOf (s_X0_sectorFor σ p1))) hF (cwV 2 hts gX0_readFrom_X0_pass rfl rfl rfl (by decide +kernel) ⟨Nat.le_of_ble_eq_true rfl, Nat.le_of_ble_eq_true rfl⟩) (rcv_D hK hP) hK hP hD hS (fst_D _ _) rfl hl.1 rfl (Nat.le_of_ble_eq_true rfl) dX0_readFrom_40 ⟨Nat.zero_le _, Nat.zero_le _⟩ (fun H locs hP hD hS => ?_)
      have hP : va_P G.1 vwCl (dW G.2.1 α (t1_X0_readFrom σ p1)) H := hP
      have hD : va_D (inW w0) (dW G.2.1 α (t1_X0_readFrom σ p1)) := hD
      refine lv_aload_n hx hb dX0_readFrom_43 rfl (lv_at hl 2 rfl) ?_
      refine lv_dup hx hb dX0_readFrom_44 rfl ?_
      refine get_D_reads hx hb hts hinX0 hown hK hP (hts (.fieldLink RX0 34 "GrooveTurns$Disc" "reads" "I") (by decide +kernel)) dX0_readFrom_45 ?_
      refine lv_iconst (v := 1) hx hb dX0_readFrom_48 (by decide) ?_
      refine lv_iadd hx hb dX0_readFrom_49 ?_
      refine put_D_reads hx hb hts hinX0 hown hK hP hD hS (hts (.fieldLink RX0 34 "GrooveTurns$Disc" "reads" "I") (by decide +kernel)) dX0_readFrom_50 (fun H locs hP hD hS => ?_)
      have hP : va_P G.1 vwCl (dW G.2.1 α (d_rd' (t1_X0_readFrom σ p1) ((d_rd (t1_X0_readFrom σ p1)) + 1))) H := hP
      have hD : va_D (inW w0) (dW G.2.1 α (d_rd' (t1_X0_readFrom σ p1) ((d_rd (t1_X0_readFrom σ p1)) + 1))) := hD
      refine lv_aload_n hx hb dX0_readFrom_53 rfl (lv_at hl 2 rfl) ?_
      refine lv_iload_n hx hb dX0_readFrom_54 rfl (lv_at hl 1 rfl) ?_
      refine rdV (As := [.int (s_X0_sectorFor σ p1)]) (rest := []) (c_X0_numberIn l G α (d_rd' (t1_X0_readFrom σ p1) ((d_rd (t1_X0_readFrom σ p1)) + 1)) (s_X0_sectorFor σ p1)) hF (cwV 1 hts gX0_readFrom_X0_numberIn rfl rfl rfl (by decide +kernel) ⟨Nat.le_of_ble_eq_true rfl, Nat.le_of_ble_eq_true rfl⟩) (rcv_D hK hP) hK hP rfl hl.1 rfl (Nat.le_of_ble_eq_true rfl) dX0_readFrom_55 ⟨Nat.zero_le _, Nat.zero_le _⟩ ?_
      rw [show s_X0_readFrom σ p1 = ((s_X0_numberIn (d_rd' (t1_X0_readFrom σ p1) ((d_rd (t1_X0_readFrom σ p1)) + 1)) (s_X0_sectorFor σ p1)), (d_rd' (t1_X0_readFrom σ p1) ((d_rd (t1_X0_readFrom σ p1)) + 1))) from by rw [s_X0_readFrom]; rw [if_neg c_1, if_neg c_2]]
      exact W.iret hx hb hr (fun t ht hW => ⟨rfl, by rw [ht]; exact hP, hS.F ht⟩) hS.2.2 dX0_readFrom_58
    · skip
      refine lv_bipush (v := (-4)) hx hb dX0_readFrom_31 (by decide) ?_
      rw [show s_X0_readFrom σ p1 = ((-4), σ) from by rw [s_X0_readFrom]; rw [if_neg c_1, if_pos c_2]]
      exact W.iret hx hb hr (fun t ht hW => ⟨rfl, by rw [ht]; exact hP, hS.F ht⟩) hS.2.2 dX0_readFrom_33
  · skip
    refine lv_bipush (v := (-5)) hx hb dX0_readFrom_14 (by decide) ?_
    rw [show s_X0_readFrom σ p1 = ((-5), σ) from by rw [s_X0_readFrom]; rw [if_pos c_1]]
    exact W.iret hx hb hr (fun t ht hW => ⟨rfl, by rw [ht]; exact hP, hS.F ht⟩) hS.2.2 dX0_readFrom_16
def s_X0_moveHead (σ : DS) (p1 : Int32) : Int32 × DS := (if (s_X0_hasTime σ (s_X0_ticksToTrack σ p1)) = 0 then ((-4), σ) else ((s_X0_ticksToTrack σ p1), (s_X0_pass σ (s_X0_ticksToTrack σ p1) p1)))
set_option maxHeartbeats 4000000 in
set_option maxRecDepth 100000 in
theorem c_X0_moveHead (l : Launch) (G : GG) (α : Nat → Nat) (σ : DS) (p1 : Int32) : Wr G l yX0_moveHead wsX0_moveHead 3 63 [.ref (α 0), .int p1] (dW G.2.1 α σ) (some (.int (s_X0_moveHead σ p1).1)) (dW G.2.1 α ((s_X0_moveHead σ p1).2)) := by
  refine Met.ofW (cc := cX0_moveHead) (maxL := 3) (ret := (some .int)) (by decide) rfl ?_
  intro p e s m args below meth c s₁ B hml hv
  obtain ⟨rfl, hP, hK, hD0⟩ := hv
  have C0 : cA p s m meth c ([.ref (α 0), .int p1] : List Value).toArray cX0_moveHead 3 (some .int) wsX0_moveHead RX0 := ⟨B.exec, B.bytes, B.returns, hml, findClass_of_methodNamed B.named, atoms_spec (ws := wsX0_moveHead) B.pre, B.notSynchronized⟩
  obtain ⟨hx, hb, hr, hml, hown, hts, hlocks⟩ := id C0
  have hF : CallFix p m c cX0_moveHead 3 s _ wsX0_moveHead RX0 := ⟨hx, hb, hml, hown, hts⟩
  obtain ⟨w0, hw0⟩ : ∃ w0 : va_W, w0 = (dW G.2.1 α σ) := ⟨_, rfl⟩
  have hD : va_D (inW w0) (dW G.2.1 α σ) := by rw [hw0]; exact inW.D hD0
  have hS : va_S (inW w0) s.heap s.heap [] := va_S.rf
  rw [show QW G (dW G.2.1 α σ) = QW G w0 from by rw [hw0], show inW (dW G.2.1 α σ) = inW w0 from by rw [hw0]]
  have hl := lv_entry ([.ref (α 0), .int p1]) (n := 3) (Nat.le_of_ble_eq_true rfl)
  rw [lg_entry_eq]
  generalize (lg_sl ([.ref (α 0), .int p1]) ++ List.replicate (3 - (lg_sl ([.ref (α 0), .int p1])).length) Slot.unset).toArray = ls at hl ⊢
  have hl : lv_has ls 3 [(0, .ref (α 0)), (1, .int p1)] := hl
  refine lv_aload_n hx hb dX0_moveHead_0 rfl (lv_at hl 0 rfl) ?_
  refine lv_iload_n hx hb dX0_moveHead_1 rfl (lv_at hl 1 rfl) ?_
  refine rdV (As := [.int p1]) (rest := []) (c_X0_ticksToTrack l G α σ p1) hF (cwV 1 hts gX0_moveHead_X0_ticksToTrack rfl rfl rfl (by decide +kernel) ⟨Nat.le_of_ble_eq_true rfl, Nat.le_of_ble_eq_true rfl⟩) (rcv_D hK hP) hK hP rfl hl.1 rfl (Nat.le_of_ble_eq_true rfl) dX0_moveHead_2 ⟨Nat.zero_le _, Nat.zero_le _⟩ ?_
  refine lv_istore_n (lv' := [(2, .int (s_X0_ticksToTrack σ p1)), (0, .ref (α 0)), (1, .int p1)]) hx hb dX0_moveHead_5 rfl hl (by decide) rfl (fun ls hl => ?_)
  refine lv_aload_n hx hb dX0_moveHead_6 rfl (lv_at hl 1 rfl) ?_
  refine lv_iload_n hx hb dX0_moveHead_7 rfl (lv_at hl 0 rfl) ?_
  refine rdV (As := [.int (s_X0_ticksToTrack σ p1)]) (rest := []) (c_X0_hasTime l G α σ (s_X0_ticksToTrack σ p1)) hF (cwV 1 hts gX0_moveHead_X0_hasTime rfl rfl rfl (by decide +kernel) ⟨Nat.le_of_ble_eq_true rfl, Nat.le_of_ble_eq_true rfl⟩) (rcv_D hK hP) hK hP rfl hl.1 rfl (Nat.le_of_ble_eq_true rfl) dX0_moveHead_8 ⟨Nat.zero_le _, Nat.zero_le _⟩ ?_
  refine lv_if_ne (tgt := 17) hx hb dX0_moveHead_11 (by decide) (fun (c_1 : ¬ (s_X0_hasTime σ (s_X0_ticksToTrack σ p1)) = 0) => ?_) (fun (c_1 : (s_X0_hasTime σ (s_X0_ticksToTrack σ p1)) = 0) => ?_)
  · skip
    refine lv_aload_n hx hb dX0_moveHead_17 rfl (lv_at hl 1 rfl) ?_
    refine lv_iload_n hx hb dX0_moveHead_18 rfl (lv_at hl 0 rfl) ?_
    refine lv_iload_n hx hb dX0_moveHead_19 rfl (lv_at hl 2 rfl) ?_
    refine wrV0 (As := [.int (s_X0_ticksToTrack σ p1), .int p1]) (rest := []) (c_X0_pass l G α σ (s_X0_ticksToTrack σ p1) p1) hF (cwV 2 hts gX0_moveHead_X0_pass rfl rfl rfl (by decide +kernel) ⟨Nat.le_of_ble_eq_true rfl, Nat.le_of_ble_eq_true rfl⟩) (rcv_D hK hP) hK hP hD hS (fst_D _ _) rfl hl.1 rfl (Nat.le_of_ble_eq_true rfl) dX0_moveHead_20 ⟨Nat.zero_le _, Nat.zero_le _⟩ (fun H locs hP hD hS => ?_)
    have hP : va_P G.1 vwCl (dW G.2.1 α (s_X0_pass σ (s_X0_ticksToTrack σ p1) p1)) H := hP
    have hD : va_D (inW w0) (dW G.2.1 α (s_X0_pass σ (s_X0_ticksToTrack σ p1) p1)) := hD
    refine lv_iload_n hx hb dX0_moveHead_23 rfl (lv_at hl 0 rfl) ?_
    rw [show s_X0_moveHead σ p1 = ((s_X0_ticksToTrack σ p1), (s_X0_pass σ (s_X0_ticksToTrack σ p1) p1)) from by rw [s_X0_moveHead]; rw [if_neg c_1]]
    exact W.iret hx hb hr (fun t ht hW => ⟨rfl, by rw [ht]; exact hP, hS.F ht⟩) hS.2.2 dX0_moveHead_24
  · skip
    refine lv_bipush (v := (-4)) hx hb dX0_moveHead_14 (by decide) ?_
    rw [show s_X0_moveHead σ p1 = ((-4), σ) from by rw [s_X0_moveHead]; rw [if_pos c_1]]
    exact W.iret hx hb hr (fun t ht hW => ⟨rfl, by rw [ht]; exact hP, hS.F ht⟩) hS.2.2 dX0_moveHead_16
def s_X0_waitFor (σ : DS) (p1 : Int32) : Int32 × DS := (if (s_X0_hasTime σ p1) = 0 then ((-4), σ) else ((s_X0_sectorUnderHead (s_X0_pass σ p1 (d_hd σ))), (s_X0_pass σ p1 (d_hd σ))))
set_option maxHeartbeats 4000000 in
set_option maxRecDepth 100000 in
theorem c_X0_waitFor (l : Launch) (G : GG) (α : Nat → Nat) (σ : DS) (p1 : Int32) : Wr G l yX0_waitFor wsX0_waitFor 1 22 [.ref (α 0), .int p1] (dW G.2.1 α σ) (some (.int (s_X0_waitFor σ p1).1)) (dW G.2.1 α ((s_X0_waitFor σ p1).2)) := by
  refine Met.ofW (cc := cX0_waitFor) (maxL := 2) (ret := (some .int)) (by decide) rfl ?_
  intro p e s m args below meth c s₁ B hml hv
  obtain ⟨rfl, hP, hK, hD0⟩ := hv
  have C0 : cA p s m meth c ([.ref (α 0), .int p1] : List Value).toArray cX0_waitFor 2 (some .int) wsX0_waitFor RX0 := ⟨B.exec, B.bytes, B.returns, hml, findClass_of_methodNamed B.named, atoms_spec (ws := wsX0_waitFor) B.pre, B.notSynchronized⟩
  obtain ⟨hx, hb, hr, hml, hown, hts, hlocks⟩ := id C0
  have hF : CallFix p m c cX0_waitFor 2 s _ wsX0_waitFor RX0 := ⟨hx, hb, hml, hown, hts⟩
  have hinX0 : ∀ w ∈ wsX00, w ∈ wsX0_waitFor := by decide +kernel
  obtain ⟨w0, hw0⟩ : ∃ w0 : va_W, w0 = (dW G.2.1 α σ) := ⟨_, rfl⟩
  have hD : va_D (inW w0) (dW G.2.1 α σ) := by rw [hw0]; exact inW.D hD0
  have hS : va_S (inW w0) s.heap s.heap [] := va_S.rf
  rw [show QW G (dW G.2.1 α σ) = QW G w0 from by rw [hw0], show inW (dW G.2.1 α σ) = inW w0 from by rw [hw0]]
  have hl := lv_entry ([.ref (α 0), .int p1]) (n := 2) (Nat.le_of_ble_eq_true rfl)
  rw [lg_entry_eq]
  generalize (lg_sl ([.ref (α 0), .int p1]) ++ List.replicate (2 - (lg_sl ([.ref (α 0), .int p1])).length) Slot.unset).toArray = ls at hl ⊢
  have hl : lv_has ls 2 [(0, .ref (α 0)), (1, .int p1)] := hl
  refine lv_aload_n hx hb dX0_waitFor_0 rfl (lv_at hl 0 rfl) ?_
  refine lv_iload_n hx hb dX0_waitFor_1 rfl (lv_at hl 1 rfl) ?_
  refine rdV (As := [.int p1]) (rest := []) (c_X0_hasTime l G α σ p1) hF (cwV 1 hts gX0_waitFor_X0_hasTime rfl rfl rfl (by decide +kernel) ⟨Nat.le_of_ble_eq_true rfl, Nat.le_of_ble_eq_true rfl⟩) (rcv_D hK hP) hK hP rfl hl.1 rfl (Nat.le_of_ble_eq_true rfl) dX0_waitFor_2 ⟨Nat.zero_le _, Nat.zero_le _⟩ ?_
  refine lv_if_ne (tgt := 11) hx hb dX0_waitFor_5 (by decide) (fun (c_1 : ¬ (s_X0_hasTime σ p1) = 0) => ?_) (fun (c_1 : (s_X0_hasTime σ p1) = 0) => ?_)
  · skip
    refine lv_aload_n hx hb dX0_waitFor_11 rfl (lv_at hl 0 rfl) ?_
    refine lv_iload_n hx hb dX0_waitFor_12 rfl (lv_at hl 1 rfl) ?_
    refine lv_aload_n hx hb dX0_waitFor_13 rfl (lv_at hl 0 rfl) ?_
    refine get_D_head hx hb hts hinX0 hown hK hP (hts (.fieldLink RX0 40 "GrooveTurns$Disc" "head" "I") (by decide +kernel)) dX0_waitFor_14 ?_
    refine wrV0 (As := [.int p1, .int (d_hd σ)]) (rest := []) (c_X0_pass l G α σ p1 (d_hd σ)) hF (cwV 2 hts gX0_waitFor_X0_pass rfl rfl rfl (by decide +kernel) ⟨Nat.le_of_ble_eq_true rfl, Nat.le_of_ble_eq_true rfl⟩) (rcv_D hK hP) hK hP hD hS (fst_D _ _) rfl hl.1 rfl (Nat.le_of_ble_eq_true rfl) dX0_waitFor_17 ⟨Nat.zero_le _, Nat.zero_le _⟩ (fun H locs hP hD hS => ?_)
    have hP : va_P G.1 vwCl (dW G.2.1 α (s_X0_pass σ p1 (d_hd σ))) H := hP
    have hD : va_D (inW w0) (dW G.2.1 α (s_X0_pass σ p1 (d_hd σ))) := hD
    refine lv_aload_n hx hb dX0_waitFor_20 rfl (lv_at hl 0 rfl) ?_
    refine rdV (As := []) (rest := []) (c_X0_sectorUnderHead l G α (s_X0_pass σ p1 (d_hd σ))) hF (cwV 0 hts gX0_waitFor_X0_sectorUnderHead rfl rfl rfl (by decide +kernel) ⟨Nat.le_of_ble_eq_true rfl, Nat.le_of_ble_eq_true rfl⟩) (rcv_D hK hP) hK hP rfl hl.1 rfl (Nat.le_of_ble_eq_true rfl) dX0_waitFor_21 ⟨Nat.zero_le _, Nat.zero_le _⟩ ?_
    rw [show s_X0_waitFor σ p1 = ((s_X0_sectorUnderHead (s_X0_pass σ p1 (d_hd σ))), (s_X0_pass σ p1 (d_hd σ))) from by rw [s_X0_waitFor]; rw [if_neg c_1]]
    exact W.iret hx hb hr (fun t ht hW => ⟨rfl, by rw [ht]; exact hP, hS.F ht⟩) hS.2.2 dX0_waitFor_24
  · skip
    refine lv_bipush (v := (-4)) hx hb dX0_waitFor_8 (by decide) ?_
    rw [show s_X0_waitFor σ p1 = ((-4), σ) from by rw [s_X0_waitFor]; rw [if_pos c_1]]
    exact W.iret hx hb hr (fun t ht hW => ⟨rfl, by rw [ht]; exact hP, hS.F ht⟩) hS.2.2 dX0_waitFor_10
end
section
def s_X0_isWithin (p0 : Int32) (p1 : Int32) (p2 : Int32) : Int32 := (if (s_X4_trackOf p0) < p1 then 0 else (if p2 < (s_X4_trackOf p0) then 0 else 1))
theorem b_X0_isWithin (p0 : Int32) (p1 : Int32) (p2 : Int32) : s_X0_isWithin p0 p1 p2 = 0 ∨ s_X0_isWithin p0 p1 p2 = 1 := by
  unfold s_X0_isWithin
  repeat' split
  all_goals first | exact Or.inl rfl | exact Or.inr rfl
set_option maxHeartbeats 4000000 in
set_option maxRecDepth 100000 in
theorem c_X0_isWithin (l : Launch) (G : GG) (p0 : Int32) (p1 : Int32) (p2 : Int32) : Rd G l yX0_isWithin wsX0_isWithin 1 20 [.int p0, .int p1, .int p2] [] (.int (s_X0_isWithin p0 p1 p2)) := by
  refine Met.ofW (cc := cX0_isWithin) (maxL := 3) (ret := (some .boolean)) (by decide) rfl ?_
  intro p e s m args below meth c s₁ B hml hv
  obtain ⟨rfl, hP, hK⟩ := hv
  have C0 : cA p s m meth c ([.int p0, .int p1, .int p2] : List Value).toArray cX0_isWithin 3 (some .boolean) wsX0_isWithin RX0 := ⟨B.exec, B.bytes, B.returns, hml, findClass_of_methodNamed B.named, atoms_spec (ws := wsX0_isWithin) B.pre, B.notSynchronized⟩
  obtain ⟨hx, hb, hr, hml, hown, hts, hlocks⟩ := id C0
  have hF : CallFix p m c cX0_isWithin 3 s _ wsX0_isWithin RX0 := ⟨hx, hb, hml, hown, hts⟩
  have hl := lv_entry ([.int p0, .int p1, .int p2]) (n := 3) (Nat.le_of_ble_eq_true rfl)
  rw [lg_entry_eq]
  generalize (lg_sl ([.int p0, .int p1, .int p2]) ++ List.replicate (3 - (lg_sl ([.int p0, .int p1, .int p2])).length) Slot.unset).toArray = ls at hl ⊢
  have hl : lv_has ls 3 [(0, .int p0), (1, .int p1), (2, .int p2)] := hl
  refine lv_iload_n hx hb dX0_isWithin_0 rfl (lv_at hl 0 rfl) ?_
  refine rdN (As := [.int p0]) (rest := []) (c_X4_trackOf l G p0) hF (va_cnB (host := RX4) 1 hts gX0_isWithin_X4_trackOf_n75 rfl rfl rfl (hK.nest 8 rfl) (hts (.initialized RX4) (by decide +kernel)) (by decide +kernel) ⟨Nat.le_of_ble_eq_true rfl, Nat.le_of_ble_eq_true rfl⟩) (hts (.static yX4_trackOf) (by decide +kernel)) hK va_P0 rfl hl.1 rfl (Nat.le_of_ble_eq_true rfl) dX0_isWithin_1 ⟨Nat.zero_le _, Nat.zero_le _⟩ ?_
  refine lv_iload_n hx hb dX0_isWithin_4 rfl (lv_at hl 1 rfl) ?_
  refine lv_icmp_lt (tgt := 20) hx hb dX0_isWithin_5 (by decide) (fun (c_1 : (s_X4_trackOf p0) < p1) => ?_) (fun (c_1 : ¬ (s_X4_trackOf p0) < p1) => ?_)
  · skip
    refine lv_iconst (v := 0) hx hb dX0_isWithin_20 (by decide) ?_
    rw [show s_X0_isWithin p0 p1 p2 = 0 from by rw [s_X0_isWithin]; rw [if_pos c_1]]
    exact W.zret (ty := .boolean) hx hb hr rfl (fun t ht hW => ⟨rfl, ht⟩) (fun _ h => nomatch h) dX0_isWithin_21
  · skip
    refine lv_iload_n hx hb dX0_isWithin_8 rfl (lv_at hl 0 rfl) ?_
    refine rdN (As := [.int p0]) (rest := []) (c_X4_trackOf l G p0) hF (va_cnB (host := RX4) 1 hts gX0_isWithin_X4_trackOf_n75 rfl rfl rfl (hK.nest 8 rfl) (hts (.initialized RX4) (by decide +kernel)) (by decide +kernel) ⟨Nat.le_of_ble_eq_true rfl, Nat.le_of_ble_eq_true rfl⟩) (hts (.static yX4_trackOf) (by decide +kernel)) hK va_P0 rfl hl.1 rfl (Nat.le_of_ble_eq_true rfl) dX0_isWithin_9 ⟨Nat.zero_le _, Nat.zero_le _⟩ ?_
    refine lv_iload_n hx hb dX0_isWithin_12 rfl (lv_at hl 2 rfl) ?_
    refine lv_icmp_gt (tgt := 20) hx hb dX0_isWithin_13 (by decide) (fun (c_2 : p2 < (s_X4_trackOf p0)) => ?_) (fun (c_2 : ¬ p2 < (s_X4_trackOf p0)) => ?_)
    · skip
      refine lv_iconst (v := 0) hx hb dX0_isWithin_20 (by decide) ?_
      rw [show s_X0_isWithin p0 p1 p2 = 0 from by rw [s_X0_isWithin]; rw [if_neg c_1, if_pos c_2]]
      exact W.zret (ty := .boolean) hx hb hr rfl (fun t ht hW => ⟨rfl, ht⟩) (fun _ h => nomatch h) dX0_isWithin_21
    · skip
      refine lv_iconst (v := 1) hx hb dX0_isWithin_16 (by decide) ?_
      refine lv_goto (tgt := 21) hx hb dX0_isWithin_17 (by decide) ?_
      rw [show s_X0_isWithin p0 p1 p2 = 1 from by rw [s_X0_isWithin]; rw [if_neg c_1, if_neg c_2]]
      exact W.zret (ty := .boolean) hx hb hr rfl (fun t ht hW => ⟨rfl, ht⟩) (fun _ h => nomatch h) dX0_isWithin_21
def L1_X0_sumOnTrack (f : NI) (p1 : Int32) : Nat → Int32 → Int32 → Int32
  | 0, v1_2, v1_3 => 0
  | n + 1, v1_2, v1_3 => (if 12 ≤ v1_3 then v1_2 else (L1_X0_sumOnTrack f p1 n (v1_2 + (s_X4_at 204 f ((p1 * 12) + v1_3))) (v1_3 + 1)))
def okL1_X0_sumOnTrack (f : NI) (p1 : Int32) : Nat → Int32 → Int32 → Prop
  | 0, _, _ => False
  | n + 1, v1_2, v1_3 => (12 ≤ v1_3 → True) ∧ (¬ 12 ≤ v1_3 → (okL1_X0_sumOnTrack f p1 n (v1_2 + (s_X4_at 204 f ((p1 * 12) + v1_3))) (v1_3 + 1)))
def s_X0_sumOnTrack (f : NI) (p1 : Int32) : Int32 := (L1_X0_sumOnTrack f p1 FU 0 0)
def ok_X0_sumOnTrack (f : NI) (p1 : Int32) : Prop := okL1_X0_sumOnTrack f p1 FU 0 0
set_option maxHeartbeats 4000000 in
set_option maxRecDepth 100000 in
theorem wL1_X0_sumOnTrack {p : Program} {e : Env} {s : State} {m : MethodId} {args : Array Value} {below : List Frame} {meth : Method} {c : Code} (l : Launch) (G : GG) (q : Nat) (f : NI) (p1 : Int32) (hP : va_P G.1 vwCl (aW G.2.1 q 204 f) s.heap) (C0 : cA p s m meth c args cX0_sumOnTrack 4 (some .int) wsX0_sumOnTrack RX0) (hK : cK G s) : ∀ (n : Nat) (v1_2 : Int32) (v1_3 : Int32)  (hok : okL1_X0_sumOnTrack f p1 n v1_2 v1_3) (ls : Array Slot), lv_has ls 4 [(0, .ref q), (1, .int p1), (2, .int v1_2), (3, .int v1_3)] → W p l e (rmm 1 21) s m args below meth c s.heap [] 0 0 (MQ below (QR (some (.int (L1_X0_sumOnTrack f p1 n v1_2 v1_3)))) args s 0 0 (fun _ => False)) (F0 m 4 ls []) := by
  obtain ⟨hx, hb, hr, hml, hown, hts, hlocks⟩ := id C0
  have hF : CallFix p m c cX0_sumOnTrack 4 s args wsX0_sumOnTrack RX0 := ⟨hx, hb, hml, hown, hts⟩
  intro n
  induction n with
  | zero =>
    intro v1_2 v1_3 hok
    exact hok.elim
  | succ n ih =>
    intro v1_2 v1_3 hok ls hl
    have hok : (12 ≤ v1_3 → True) ∧ (¬ 12 ≤ v1_3 → (okL1_X0_sumOnTrack f p1 n (v1_2 + (s_X4_at 204 f ((p1 * 12) + v1_3))) (v1_3 + 1))) := hok
    refine lv_iload_n hx hb dX0_sumOnTrack_4 rfl (lv_at hl 3 rfl) ?_
    refine lv_bipush (v := 12) hx hb dX0_sumOnTrack_5 (by decide) ?_
    refine lv_icmp_ge (tgt := 29) hx hb dX0_sumOnTrack_7 (by decide) (fun (c_1 : 12 ≤ v1_3) => ?_) (fun (c_1 : ¬ 12 ≤ v1_3) => ?_)
    · skip
      refine lv_iload_n hx hb dX0_sumOnTrack_29 rfl (lv_at hl 2 rfl) ?_
      rw [show (L1_X0_sumOnTrack f p1 (n + 1) v1_2 v1_3) = v1_2 from by rw [L1_X0_sumOnTrack]; rw [if_pos c_1]]
      exact W.iret hx hb hr (fun t ht hW => ⟨rfl, ht⟩) (fun _ h => nomatch h) dX0_sumOnTrack_30
    · skip
      have hok := hok.2 c_1
      refine lv_iload_n hx hb dX0_sumOnTrack_10 rfl (lv_at hl 2 rfl) ?_
      refine lv_aload_n hx hb dX0_sumOnTrack_11 rfl (lv_at hl 0 rfl) ?_
      refine lv_iload_n hx hb dX0_sumOnTrack_12 rfl (lv_at hl 1 rfl) ?_
      refine lv_bipush (v := 12) hx hb dX0_sumOnTrack_13 (by decide) ?_
      refine lv_imul hx hb dX0_sumOnTrack_15 ?_
      refine lv_iload_n hx hb dX0_sumOnTrack_16 rfl (lv_at hl 3 rfl) ?_
      refine lv_iadd hx hb dX0_sumOnTrack_17 ?_
      refine rdN (As := [.ref q, .int ((p1 * 12) + v1_3)]) (rest := [.int v1_2]) (c_X4_at l G q 204 f ((p1 * 12) + v1_3) (by decide)) hF (va_cnB (host := RX4) 2 hts gX0_sumOnTrack_X4_at_n53 rfl rfl rfl (hK.nest 6 rfl) (hts (.initialized RX4) (by decide +kernel)) (by decide +kernel) ⟨Nat.le_of_ble_eq_true rfl, Nat.le_of_ble_eq_true rfl⟩) (hts (.static yX4_at) (by decide +kernel)) hK hP rfl hl.1 rfl (Nat.le_of_ble_eq_true rfl) dX0_sumOnTrack_18 ⟨Nat.zero_le _, Nat.zero_le _⟩ ?_
      refine lv_iadd hx hb dX0_sumOnTrack_21 ?_
      refine lv_istore_n (lv' := [(2, .int (v1_2 + (s_X4_at 204 f ((p1 * 12) + v1_3)))), (0, .ref q), (1, .int p1), (3, .int v1_3)]) hx hb dX0_sumOnTrack_22 rfl hl (by decide) rfl (fun ls hl => ?_)
      refine lv_iinc (v := (v1_3 + 1)) (lv' := [(3, .int (v1_3 + 1)), (2, .int (v1_2 + (s_X4_at 204 f ((p1 * 12) + v1_3)))), (0, .ref q), (1, .int p1)]) hx hb dX0_sumOnTrack_23 hl (k := 3) rfl rfl (by decide) rfl (fun ls hl => ?_)
      refine lv_goto (tgt := 4) hx hb dX0_sumOnTrack_26 (by decide) ?_
      rw [show (L1_X0_sumOnTrack f p1 (n + 1) v1_2 v1_3) = (L1_X0_sumOnTrack f p1 n (v1_2 + (s_X4_at 204 f ((p1 * 12) + v1_3))) (v1_3 + 1)) from by rw [L1_X0_sumOnTrack]; rw [if_neg c_1]]
      exact ih (v1_2 + (s_X4_at 204 f ((p1 * 12) + v1_3))) (v1_3 + 1) hok ls (lv_sub hl [2, 3, 1, 0] rfl)
set_option maxHeartbeats 4000000 in
set_option maxRecDepth 100000 in
theorem c_X0_sumOnTrack (l : Launch) (G : GG) (q : Nat) (f : NI) (p1 : Int32) (hok : ok_X0_sumOnTrack f p1) : Rd G l yX0_sumOnTrack wsX0_sumOnTrack 1 21 [.ref q, .int p1] (aW G.2.1 q 204 f) (.int (s_X0_sumOnTrack f p1)) := by
  refine Met.ofW (cc := cX0_sumOnTrack) (maxL := 4) (ret := (some .int)) (by decide) rfl ?_
  intro p e s m args below meth c s₁ B hml hv
  obtain ⟨rfl, hP, hK⟩ := hv
  have C0 : cA p s m meth c ([.ref q, .int p1] : List Value).toArray cX0_sumOnTrack 4 (some .int) wsX0_sumOnTrack RX0 := ⟨B.exec, B.bytes, B.returns, hml, findClass_of_methodNamed B.named, atoms_spec (ws := wsX0_sumOnTrack) B.pre, B.notSynchronized⟩
  obtain ⟨hx, hb, hr, hml, hown, hts, hlocks⟩ := id C0
  have hF : CallFix p m c cX0_sumOnTrack 4 s _ wsX0_sumOnTrack RX0 := ⟨hx, hb, hml, hown, hts⟩
  have hl := lv_entry ([.ref q, .int p1]) (n := 4) (Nat.le_of_ble_eq_true rfl)
  rw [lg_entry_eq]
  generalize (lg_sl ([.ref q, .int p1]) ++ List.replicate (4 - (lg_sl ([.ref q, .int p1])).length) Slot.unset).toArray = ls at hl ⊢
  have hl : lv_has ls 4 [(0, .ref q), (1, .int p1)] := hl
  have hok : okL1_X0_sumOnTrack f p1 FU 0 0 := hok
  refine lv_iconst (v := 0) hx hb dX0_sumOnTrack_0 (by decide) ?_
  refine lv_istore_n (lv' := [(2, .int 0), (0, .ref q), (1, .int p1)]) hx hb dX0_sumOnTrack_1 rfl hl (by decide) rfl (fun ls hl => ?_)
  refine lv_iconst (v := 0) hx hb dX0_sumOnTrack_2 (by decide) ?_
  refine lv_istore_n (lv' := [(3, .int 0), (2, .int 0), (0, .ref q), (1, .int p1)]) hx hb dX0_sumOnTrack_3 rfl hl (by decide) rfl (fun ls hl => ?_)
  rw [show s_X0_sumOnTrack f p1 = (L1_X0_sumOnTrack f p1 FU 0 0) from by rw [s_X0_sumOnTrack]]
  exact wL1_X0_sumOnTrack l G q f p1 hP C0 hK FU 0 0 hok ls (lv_sub hl [2, 3, 1, 0] rfl)
def s_X0_blurOnTrack (σ : DS) (p1 : Int32) : Int32 := (s_X0_sumOnTrack (d_bl σ) p1)
def ok_X0_blurOnTrack (σ : DS) (p1 : Int32) : Prop := ok_X0_sumOnTrack (d_bl σ) p1
set_option maxHeartbeats 4000000 in
set_option maxRecDepth 100000 in
theorem c_X0_blurOnTrack (l : Launch) (G : GG) (α : Nat → Nat) (σ : DS) (p1 : Int32) (hok : ok_X0_blurOnTrack σ p1) : Rd G l yX0_blurOnTrack wsX0_blurOnTrack 2 44 [.ref (α 0), .int p1] (dW G.2.1 α σ) (.int (s_X0_blurOnTrack σ p1)) := by
  refine Met.ofW (cc := cX0_blurOnTrack) (maxL := 2) (ret := (some .int)) (by decide) rfl ?_
  intro p e s m args below meth c s₁ B hml hv
  obtain ⟨rfl, hP, hK⟩ := hv
  have C0 : cA p s m meth c ([.ref (α 0), .int p1] : List Value).toArray cX0_blurOnTrack 2 (some .int) wsX0_blurOnTrack RX0 := ⟨B.exec, B.bytes, B.returns, hml, findClass_of_methodNamed B.named, atoms_spec (ws := wsX0_blurOnTrack) B.pre, B.notSynchronized⟩
  obtain ⟨hx, hb, hr, hml, hown, hts, hlocks⟩ := id C0
  have hF : CallFix p m c cX0_blurOnTrack 2 s _ wsX0_blurOnTrack RX0 := ⟨hx, hb, hml, hown, hts⟩
  have hinX0 : ∀ w ∈ wsX00, w ∈ wsX0_blurOnTrack := by decide +kernel
  have hl := lv_entry ([.ref (α 0), .int p1]) (n := 2) (Nat.le_of_ble_eq_true rfl)
  rw [lg_entry_eq]
  generalize (lg_sl ([.ref (α 0), .int p1]) ++ List.replicate (2 - (lg_sl ([.ref (α 0), .int p1])).length) Slot.unset).toArray = ls at hl ⊢
  have hl : lv_has ls 2 [(0, .ref (α 0)), (1, .int p1)] := hl
  have hok : ok_X0_sumOnTrack (d_bl σ) p1 := hok
  have h_1 := hok
  refine lv_aload_n hx hb dX0_blurOnTrack_0 rfl (lv_at hl 0 rfl) ?_
  refine get_D_blurs hx hb hts hinX0 hown hK hP (hts (.fieldLink RX0 21 "GrooveTurns$Disc" "blurs" "[I") (by decide +kernel)) dX0_blurOnTrack_1 ?_
  refine lv_iload_n hx hb dX0_blurOnTrack_4 rfl (lv_at hl 1 rfl) ?_
  refine rdS (As := [.ref (α 3), .int p1]) (rest := []) (c_X0_sumOnTrack l G (α 3) (d_bl σ) p1 h_1) hF (va_cwS 2 hts gX0_blurOnTrack_X0_sumOnTrack rfl rfl rfl (by decide +kernel) ⟨Nat.le_of_ble_eq_true rfl, Nat.le_of_ble_eq_true rfl⟩) hK (cell_D_bl hP) rfl hl.1 rfl (Nat.le_of_ble_eq_true rfl) dX0_blurOnTrack_5 ⟨Nat.zero_le _, Nat.zero_le _⟩ ?_
  rw [show s_X0_blurOnTrack σ p1 = (s_X0_sumOnTrack (d_bl σ) p1) from by rw [s_X0_blurOnTrack]]
  exact W.iret hx hb hr (fun t ht hW => ⟨rfl, ht⟩) (fun _ h => nomatch h) dX0_blurOnTrack_8
def s_X0_writingsOnTrack (σ : DS) (p1 : Int32) : Int32 := (s_X0_sumOnTrack (d_wr σ) p1)
def ok_X0_writingsOnTrack (σ : DS) (p1 : Int32) : Prop := ok_X0_sumOnTrack (d_wr σ) p1
set_option maxHeartbeats 4000000 in
set_option maxRecDepth 100000 in
theorem c_X0_writingsOnTrack (l : Launch) (G : GG) (α : Nat → Nat) (σ : DS) (p1 : Int32) (hok : ok_X0_writingsOnTrack σ p1) : Rd G l yX0_writingsOnTrack wsX0_writingsOnTrack 2 44 [.ref (α 0), .int p1] (dW G.2.1 α σ) (.int (s_X0_writingsOnTrack σ p1)) := by
  refine Met.ofW (cc := cX0_writingsOnTrack) (maxL := 2) (ret := (some .int)) (by decide) rfl ?_
  intro p e s m args below meth c s₁ B hml hv
  obtain ⟨rfl, hP, hK⟩ := hv
  have C0 : cA p s m meth c ([.ref (α 0), .int p1] : List Value).toArray cX0_writingsOnTrack 2 (some .int) wsX0_writingsOnTrack RX0 := ⟨B.exec, B.bytes, B.returns, hml, findClass_of_methodNamed B.named, atoms_spec (ws := wsX0_writingsOnTrack) B.pre, B.notSynchronized⟩
  obtain ⟨hx, hb, hr, hml, hown, hts, hlocks⟩ := id C0
  have hF : CallFix p m c cX0_writingsOnTrack 2 s _ wsX0_writingsOnTrack RX0 := ⟨hx, hb, hml, hown, hts⟩
  have hinX0 : ∀ w ∈ wsX00, w ∈ wsX0_writingsOnTrack := by decide +kernel
  have hl := lv_entry ([.ref (α 0), .int p1]) (n := 2) (Nat.le_of_ble_eq_true rfl)
  rw [lg_entry_eq]
  generalize (lg_sl ([.ref (α 0), .int p1]) ++ List.replicate (2 - (lg_sl ([.ref (α 0), .int p1])).length) Slot.unset).toArray = ls at hl ⊢
  have hl : lv_has ls 2 [(0, .ref (α 0)), (1, .int p1)] := hl
  have hok : ok_X0_sumOnTrack (d_wr σ) p1 := hok
  have h_1 := hok
  refine lv_aload_n hx hb dX0_writingsOnTrack_0 rfl (lv_at hl 0 rfl) ?_
  refine get_D_writings hx hb hts hinX0 hown hK hP (hts (.fieldLink RX0 24 "GrooveTurns$Disc" "writings" "[I") (by decide +kernel)) dX0_writingsOnTrack_1 ?_
  refine lv_iload_n hx hb dX0_writingsOnTrack_4 rfl (lv_at hl 1 rfl) ?_
  refine rdS (As := [.ref (α 4), .int p1]) (rest := []) (c_X0_sumOnTrack l G (α 4) (d_wr σ) p1 h_1) hF (va_cwS 2 hts gX0_writingsOnTrack_X0_sumOnTrack rfl rfl rfl (by decide +kernel) ⟨Nat.le_of_ble_eq_true rfl, Nat.le_of_ble_eq_true rfl⟩) hK (cell_D_wr hP) rfl hl.1 rfl (Nat.le_of_ble_eq_true rfl) dX0_writingsOnTrack_5 ⟨Nat.zero_le _, Nat.zero_le _⟩ ?_
  rw [show s_X0_writingsOnTrack σ p1 = (s_X0_sumOnTrack (d_wr σ) p1) from by rw [s_X0_writingsOnTrack]]
  exact W.iret hx hb hr (fun t ht hW => ⟨rfl, ht⟩) (fun _ h => nomatch h) dX0_writingsOnTrack_8
def L1_X0_filledOn (σ : DS) (p1 : Int32) (p2 : Int32) : Nat → Int32 → Int32 → Int32
  | 0, v1_3, v1_4 => 0
  | n + 1, v1_3, v1_4 => (if 192 ≤ v1_4 then v1_3 else (if (s_X0_isWithin (s_X0_sectorFor σ v1_4) p1 p2) = 0 then (L1_X0_filledOn σ p1 p2 n v1_3 (v1_4 + 1)) else (if (s_X0_holdsNumber σ (s_X0_sectorFor σ v1_4)) = 0 then (L1_X0_filledOn σ p1 p2 n v1_3 (v1_4 + 1)) else (L1_X0_filledOn σ p1 p2 n (v1_3 + 1) (v1_4 + 1)))))
def okL1_X0_filledOn (σ : DS) (p1 : Int32) (p2 : Int32) : Nat → Int32 → Int32 → Prop
  | 0, _, _ => False
  | n + 1, v1_3, v1_4 => (192 ≤ v1_4 → True) ∧ (¬ 192 ≤ v1_4 → (((s_X0_isWithin (s_X0_sectorFor σ v1_4) p1 p2) = 0 → (okL1_X0_filledOn σ p1 p2 n v1_3 (v1_4 + 1))) ∧ (¬ (s_X0_isWithin (s_X0_sectorFor σ v1_4) p1 p2) = 0 → (((s_X0_holdsNumber σ (s_X0_sectorFor σ v1_4)) = 0 → (okL1_X0_filledOn σ p1 p2 n v1_3 (v1_4 + 1))) ∧ (¬ (s_X0_holdsNumber σ (s_X0_sectorFor σ v1_4)) = 0 → (okL1_X0_filledOn σ p1 p2 n (v1_3 + 1) (v1_4 + 1)))))))
def s_X0_filledOn (σ : DS) (p1 : Int32) (p2 : Int32) : Int32 := (L1_X0_filledOn σ p1 p2 FU 0 0)
def ok_X0_filledOn (σ : DS) (p1 : Int32) (p2 : Int32) : Prop := okL1_X0_filledOn σ p1 p2 FU 0 0
set_option maxHeartbeats 4000000 in
set_option maxRecDepth 100000 in
theorem wL1_X0_filledOn {p : Program} {e : Env} {s : State} {m : MethodId} {args : Array Value} {below : List Frame} {meth : Method} {c : Code} (l : Launch) (G : GG) (α : Nat → Nat) (σ : DS) (p1 : Int32) (p2 : Int32) (hP : va_P G.1 vwCl (dW G.2.1 α σ) s.heap) (C0 : cA p s m meth c args cX0_filledOn 6 (some .int) wsX0_filledOn RX0) (hK : cK G s) : ∀ (n : Nat) (v1_3 : Int32) (v1_4 : Int32)  (hok : okL1_X0_filledOn σ p1 p2 n v1_3 v1_4) (ls : Array Slot), lv_has ls 6 [(0, .ref (α 0)), (1, .int p1), (2, .int p2), (3, .int v1_3), (4, .int v1_4)] → W p l e (rmm 2 42) s m args below meth c s.heap [] 0 0 (MQ below (QR (some (.int (L1_X0_filledOn σ p1 p2 n v1_3 v1_4)))) args s 0 0 (fun _ => False)) (F0 m 5 ls []) := by
  obtain ⟨hx, hb, hr, hml, hown, hts, hlocks⟩ := id C0
  have hF : CallFix p m c cX0_filledOn 6 s args wsX0_filledOn RX0 := ⟨hx, hb, hml, hown, hts⟩
  intro n
  induction n with
  | zero =>
    intro v1_3 v1_4 hok
    exact hok.elim
  | succ n ih =>
    intro v1_3 v1_4 hok ls hl
    have hok : (192 ≤ v1_4 → True) ∧ (¬ 192 ≤ v1_4 → (((s_X0_isWithin (s_X0_sectorFor σ v1_4) p1 p2) = 0 → (okL1_X0_filledOn σ p1 p2 n v1_3 (v1_4 + 1))) ∧ (¬ (s_X0_isWithin (s_X0_sectorFor σ v1_4) p1 p2) = 0 → (((s_X0_holdsNumber σ (s_X0_sectorFor σ v1_4)) = 0 → (okL1_X0_filledOn σ p1 p2 n v1_3 (v1_4 + 1))) ∧ (¬ (s_X0_holdsNumber σ (s_X0_sectorFor σ v1_4)) = 0 → (okL1_X0_filledOn σ p1 p2 n (v1_3 + 1) (v1_4 + 1))))))) := hok
    refine lv_iload hx hb dX0_filledOn_5 (lv_at hl 4 rfl) ?_
    refine lv_sipush (v := 192) hx hb dX0_filledOn_7 (by decide) ?_
    refine lv_icmp_ge (tgt := 49) hx hb dX0_filledOn_10 (by decide) (fun (c_1 : 192 ≤ v1_4) => ?_) (fun (c_1 : ¬ 192 ≤ v1_4) => ?_)
    · skip
      refine lv_iload_n hx hb dX0_filledOn_49 rfl (lv_at hl 3 rfl) ?_
      rw [show (L1_X0_filledOn σ p1 p2 (n + 1) v1_3 v1_4) = v1_3 from by rw [L1_X0_filledOn]; rw [if_pos c_1]]
      exact W.iret hx hb hr (fun t ht hW => ⟨rfl, ht⟩) (fun _ h => nomatch h) dX0_filledOn_50
    · skip
      have hok := hok.2 c_1
      refine lv_aload_n hx hb dX0_filledOn_13 rfl (lv_at hl 0 rfl) ?_
      refine lv_iload hx hb dX0_filledOn_14 (lv_at hl 4 rfl) ?_
      refine rdV (As := [.int v1_4]) (rest := []) (c_X0_sectorFor l G α σ v1_4) hF (cwV 1 hts gX0_filledOn_X0_sectorFor rfl rfl rfl (by decide +kernel) ⟨Nat.le_of_ble_eq_true rfl, Nat.le_of_ble_eq_true rfl⟩) (rcv_D hK hP) hK hP rfl hl.1 rfl (Nat.le_of_ble_eq_true rfl) dX0_filledOn_16 ⟨Nat.zero_le _, Nat.zero_le _⟩ ?_
      refine lv_istore (lv' := [(5, .int (s_X0_sectorFor σ v1_4)), (0, .ref (α 0)), (1, .int p1), (2, .int p2), (3, .int v1_3), (4, .int v1_4)]) hx hb dX0_filledOn_19 hl (by decide) rfl (fun ls hl => ?_)
      refine lv_iload hx hb dX0_filledOn_21 (lv_at hl 0 rfl) ?_
      refine lv_iload_n hx hb dX0_filledOn_23 rfl (lv_at hl 2 rfl) ?_
      refine lv_iload_n hx hb dX0_filledOn_24 rfl (lv_at hl 3 rfl) ?_
      refine rdS (As := [.int (s_X0_sectorFor σ v1_4), .int p1, .int p2]) (rest := []) (c_X0_isWithin l G (s_X0_sectorFor σ v1_4) p1 p2) hF (va_cwS 3 hts gX0_filledOn_X0_isWithin rfl rfl rfl (by decide +kernel) ⟨Nat.le_of_ble_eq_true rfl, Nat.le_of_ble_eq_true rfl⟩) hK va_P0 rfl hl.1 rfl (Nat.le_of_ble_eq_true rfl) dX0_filledOn_25 ⟨Nat.zero_le _, Nat.zero_le _⟩ ?_
      refine lv_if_eq (tgt := 43) hx hb dX0_filledOn_28 (by decide) (fun (c_2 : (s_X0_isWithin (s_X0_sectorFor σ v1_4) p1 p2) = 0) => ?_) (fun (c_2 : ¬ (s_X0_isWithin (s_X0_sectorFor σ v1_4) p1 p2) = 0) => ?_)
      · skip
        have hok := hok.1 c_2
        refine lv_iinc (v := (v1_4 + 1)) (lv' := [(4, .int (v1_4 + 1)), (5, .int (s_X0_sectorFor σ v1_4)), (0, .ref (α 0)), (1, .int p1), (2, .int p2), (3, .int v1_3)]) hx hb dX0_filledOn_43 hl (k := 5) rfl rfl (by decide) rfl (fun ls hl => ?_)
        refine lv_goto (tgt := 5) hx hb dX0_filledOn_46 (by decide) ?_
        rw [show (L1_X0_filledOn σ p1 p2 (n + 1) v1_3 v1_4) = (L1_X0_filledOn σ p1 p2 n v1_3 (v1_4 + 1)) from by rw [L1_X0_filledOn]; rw [if_neg c_1, if_pos c_2]]
        exact ih v1_3 (v1_4 + 1) hok ls (lv_sub hl [2, 3, 4, 5, 0] rfl)
      · skip
        have hok := hok.2 c_2
        refine lv_aload_n hx hb dX0_filledOn_31 rfl (lv_at hl 1 rfl) ?_
        refine lv_iload hx hb dX0_filledOn_32 (lv_at hl 0 rfl) ?_
        refine rdV (As := [.int (s_X0_sectorFor σ v1_4)]) (rest := []) (c_X0_holdsNumber l G α σ (s_X0_sectorFor σ v1_4)) hF (cwV 1 hts gX0_filledOn_X0_holdsNumber rfl rfl rfl (by decide +kernel) ⟨Nat.le_of_ble_eq_true rfl, Nat.le_of_ble_eq_true rfl⟩) (rcv_D hK hP) hK hP rfl hl.1 rfl (Nat.le_of_ble_eq_true rfl) dX0_filledOn_34 ⟨Nat.zero_le _, Nat.zero_le _⟩ ?_
        refine lv_if_eq (tgt := 43) hx hb dX0_filledOn_37 (by decide) (fun (c_3 : (s_X0_holdsNumber σ (s_X0_sectorFor σ v1_4)) = 0) => ?_) (fun (c_3 : ¬ (s_X0_holdsNumber σ (s_X0_sectorFor σ v1_4)) = 0) => ?_)
        · skip
          have hok := hok.1 c_3
          refine lv_iinc (v := (v1_4 + 1)) (lv' := [(4, .int (v1_4 + 1)), (5, .int (s_X0_sectorFor σ v1_4)), (0, .ref (α 0)), (1, .int p1), (2, .int p2), (3, .int v1_3)]) hx hb dX0_filledOn_43 hl (k := 5) rfl rfl (by decide) rfl (fun ls hl => ?_)
          refine lv_goto (tgt := 5) hx hb dX0_filledOn_46 (by decide) ?_
          rw [show (L1_X0_filledOn σ p1 p2 (n + 1) v1_3 v1_4) = (L1_X0_filledOn σ p1 p2 n v1_3 (v1_4 + 1)) from by rw [L1_X0_filledOn]; rw [if_neg c_1, if_neg c_2, if_pos c_3]]
          exact ih v1_3 (v1_4 + 1) hok ls (lv_sub hl [2, 3, 4, 5, 0] rfl)
        · skip
          have hok := hok.2 c_3
          refine lv_iinc (v := (v1_3 + 1)) (lv' := [(3, .int (v1_3 + 1)), (5, .int (s_X0_sectorFor σ v1_4)), (0, .ref (α 0)), (1, .int p1), (2, .int p2), (4, .int v1_4)]) hx hb dX0_filledOn_40 hl (k := 4) rfl rfl (by decide) rfl (fun ls hl => ?_)
          refine lv_iinc (v := (v1_4 + 1)) (lv' := [(4, .int (v1_4 + 1)), (3, .int (v1_3 + 1)), (5, .int (s_X0_sectorFor σ v1_4)), (0, .ref (α 0)), (1, .int p1), (2, .int p2)]) hx hb dX0_filledOn_43 hl (k := 5) rfl rfl (by decide) rfl (fun ls hl => ?_)
          refine lv_goto (tgt := 5) hx hb dX0_filledOn_46 (by decide) ?_
          rw [show (L1_X0_filledOn σ p1 p2 (n + 1) v1_3 v1_4) = (L1_X0_filledOn σ p1 p2 n (v1_3 + 1) (v1_4 + 1)) from by rw [L1_X0_filledOn]; rw [if_neg c_1, if_neg c_2, if_neg c_3]]
          exact ih (v1_3 + 1) (v1_4 + 1) hok ls (lv_sub hl [3, 4, 5, 1, 0] rfl)
set_option maxHeartbeats 4000000 in
set_option maxRecDepth 100000 in
theorem c_X0_filledOn (l : Launch) (G : GG) (α : Nat → Nat) (σ : DS) (p1 : Int32) (p2 : Int32) (hok : ok_X0_filledOn σ p1 p2) : Rd G l yX0_filledOn wsX0_filledOn 2 42 [.ref (α 0), .int p1, .int p2] (dW G.2.1 α σ) (.int (s_X0_filledOn σ p1 p2)) := by
  refine Met.ofW (cc := cX0_filledOn) (maxL := 6) (ret := (some .int)) (by decide) rfl ?_
  intro p e s m args below meth c s₁ B hml hv
  obtain ⟨rfl, hP, hK⟩ := hv
  have C0 : cA p s m meth c ([.ref (α 0), .int p1, .int p2] : List Value).toArray cX0_filledOn 6 (some .int) wsX0_filledOn RX0 := ⟨B.exec, B.bytes, B.returns, hml, findClass_of_methodNamed B.named, atoms_spec (ws := wsX0_filledOn) B.pre, B.notSynchronized⟩
  obtain ⟨hx, hb, hr, hml, hown, hts, hlocks⟩ := id C0
  have hF : CallFix p m c cX0_filledOn 6 s _ wsX0_filledOn RX0 := ⟨hx, hb, hml, hown, hts⟩
  have hl := lv_entry ([.ref (α 0), .int p1, .int p2]) (n := 6) (Nat.le_of_ble_eq_true rfl)
  rw [lg_entry_eq]
  generalize (lg_sl ([.ref (α 0), .int p1, .int p2]) ++ List.replicate (6 - (lg_sl ([.ref (α 0), .int p1, .int p2])).length) Slot.unset).toArray = ls at hl ⊢
  have hl : lv_has ls 6 [(0, .ref (α 0)), (1, .int p1), (2, .int p2)] := hl
  have hok : okL1_X0_filledOn σ p1 p2 FU 0 0 := hok
  refine lv_iconst (v := 0) hx hb dX0_filledOn_0 (by decide) ?_
  refine lv_istore_n (lv' := [(3, .int 0), (0, .ref (α 0)), (1, .int p1), (2, .int p2)]) hx hb dX0_filledOn_1 rfl hl (by decide) rfl (fun ls hl => ?_)
  refine lv_iconst (v := 0) hx hb dX0_filledOn_2 (by decide) ?_
  refine lv_istore (lv' := [(4, .int 0), (3, .int 0), (0, .ref (α 0)), (1, .int p1), (2, .int p2)]) hx hb dX0_filledOn_3 hl (by decide) rfl (fun ls hl => ?_)
  rw [show s_X0_filledOn σ p1 p2 = (L1_X0_filledOn σ p1 p2 FU 0 0) from by rw [s_X0_filledOn]]
  exact wL1_X0_filledOn l G α σ p1 p2 hP C0 hK FU 0 0 hok ls (lv_sub hl [2, 3, 4, 1, 0] rfl)
def L1_X0_unreadableOn (σ : DS) (p1 : Int32) (p2 : Int32) : Nat → Int32 → Int32 → Int32
  | 0, v1_3, v1_4 => 0
  | n + 1, v1_3, v1_4 => (if 192 ≤ v1_4 then v1_3 else (if (s_X0_isWithin (s_X0_sectorFor σ v1_4) p1 p2) = 0 then (L1_X0_unreadableOn σ p1 p2 n v1_3 (v1_4 + 1)) else (if (s_X0_holdsNumber σ (s_X0_sectorFor σ v1_4)) = 0 then (L1_X0_unreadableOn σ p1 p2 n v1_3 (v1_4 + 1)) else (if (s_X0_isReadable σ (s_X0_sectorFor σ v1_4)) = 0 then (L1_X0_unreadableOn σ p1 p2 n (v1_3 + 1) (v1_4 + 1)) else (L1_X0_unreadableOn σ p1 p2 n v1_3 (v1_4 + 1))))))
def okL1_X0_unreadableOn (σ : DS) (p1 : Int32) (p2 : Int32) : Nat → Int32 → Int32 → Prop
  | 0, _, _ => False
  | n + 1, v1_3, v1_4 => (192 ≤ v1_4 → True) ∧ (¬ 192 ≤ v1_4 → (((s_X0_isWithin (s_X0_sectorFor σ v1_4) p1 p2) = 0 → (okL1_X0_unreadableOn σ p1 p2 n v1_3 (v1_4 + 1))) ∧ (¬ (s_X0_isWithin (s_X0_sectorFor σ v1_4) p1 p2) = 0 → (((s_X0_holdsNumber σ (s_X0_sectorFor σ v1_4)) = 0 → (okL1_X0_unreadableOn σ p1 p2 n v1_3 (v1_4 + 1))) ∧ (¬ (s_X0_holdsNumber σ (s_X0_sectorFor σ v1_4)) = 0 → (((s_X0_isReadable σ (s_X0_sectorFor σ v1_4)) = 0 → (okL1_X0_unreadableOn σ p1 p2 n (v1_3 + 1) (v1_4 + 1))) ∧ (¬ (s_X0_isReadable σ (s_X0_sectorFor σ v1_4)) = 0 → (okL1_X0_unreadableOn σ p1 p2 n v1_3 (v1_4 + 1)))))))))
def s_X0_unreadableOn (σ : DS) (p1 : Int32) (p2 : Int32) : Int32 := (L1_X0_unreadableOn σ p1 p2 FU 0 0)
def ok_X0_unreadableOn (σ : DS) (p1 : Int32) (p2 : Int32) : Prop := okL1_X0_unreadableOn σ p1 p2 FU 0 0
set_option maxHeartbeats 4000000 in
set_option maxRecDepth 100000 in
theorem wL1_X0_unreadableOn {p : Program} {e : Env} {s : State} {m : MethodId} {args : Array Value} {below : List Frame} {meth : Method} {c : Code} (l : Launch) (G : GG) (α : Nat → Nat) (σ : DS) (p1 : Int32) (p2 : Int32) (hP : va_P G.1 vwCl (dW G.2.1 α σ) s.heap) (C0 : cA p s m meth c args cX0_unreadableOn 6 (some .int) wsX0_unreadableOn RX0) (hK : cK G s) : ∀ (n : Nat) (v1_3 : Int32) (v1_4 : Int32)  (hok : okL1_X0_unreadableOn σ p1 p2 n v1_3 v1_4) (ls : Array Slot), lv_has ls 6 [(0, .ref (α 0)), (1, .int p1), (2, .int p2), (3, .int v1_3), (4, .int v1_4)] → W p l e (rmm 3 63) s m args below meth c s.heap [] 0 0 (MQ below (QR (some (.int (L1_X0_unreadableOn σ p1 p2 n v1_3 v1_4)))) args s 0 0 (fun _ => False)) (F0 m 5 ls []) := by
  obtain ⟨hx, hb, hr, hml, hown, hts, hlocks⟩ := id C0
  have hF : CallFix p m c cX0_unreadableOn 6 s args wsX0_unreadableOn RX0 := ⟨hx, hb, hml, hown, hts⟩
  intro n
  induction n with
  | zero =>
    intro v1_3 v1_4 hok
    exact hok.elim
  | succ n ih =>
    intro v1_3 v1_4 hok ls hl
    have hok : (192 ≤ v1_4 → True) ∧ (¬ 192 ≤ v1_4 → (((s_X0_isWithin (s_X0_sectorFor σ v1_4) p1 p2) = 0 → (okL1_X0_unreadableOn σ p1 p2 n v1_3 (v1_4 + 1))) ∧ (¬ (s_X0_isWithin (s_X0_sectorFor σ v1_4) p1 p2) = 0 → (((s_X0_holdsNumber σ (s_X0_sectorFor σ v1_4)) = 0 → (okL1_X0_unreadableOn σ p1 p2 n v1_3 (v1_4 + 1))) ∧ (¬ (s_X0_holdsNumber σ (s_X0_sectorFor σ v1_4)) = 0 → (((s_X0_isReadable σ (s_X0_sectorFor σ v1_4)) = 0 → (okL1_X0_unreadableOn σ p1 p2 n (v1_3 + 1) (v1_4 + 1))) ∧ (¬ (s_X0_isReadable σ (s_X0_sectorFor σ v1_4)) = 0 → (okL1_X0_unreadableOn σ p1 p2 n v1_3 (v1_4 + 1))))))))) := hok
    refine lv_iload hx hb dX0_unreadableOn_5 (lv_at hl 4 rfl) ?_
    refine lv_sipush (v := 192) hx hb dX0_unreadableOn_7 (by decide) ?_
    refine lv_icmp_ge (tgt := 58) hx hb dX0_unreadableOn_10 (by decide) (fun (c_1 : 192 ≤ v1_4) => ?_) (fun (c_1 : ¬ 192 ≤ v1_4) => ?_)
    · skip
      refine lv_iload_n hx hb dX0_unreadableOn_58 rfl (lv_at hl 3 rfl) ?_
      rw [show (L1_X0_unreadableOn σ p1 p2 (n + 1) v1_3 v1_4) = v1_3 from by rw [L1_X0_unreadableOn]; rw [if_pos c_1]]
      exact W.iret hx hb hr (fun t ht hW => ⟨rfl, ht⟩) (fun _ h => nomatch h) dX0_unreadableOn_59
    · skip
      have hok := hok.2 c_1
      refine lv_aload_n hx hb dX0_unreadableOn_13 rfl (lv_at hl 0 rfl) ?_
      refine lv_iload hx hb dX0_unreadableOn_14 (lv_at hl 4 rfl) ?_
      refine rdV (As := [.int v1_4]) (rest := []) (c_X0_sectorFor l G α σ v1_4) hF (cwV 1 hts gX0_unreadableOn_X0_sectorFor rfl rfl rfl (by decide +kernel) ⟨Nat.le_of_ble_eq_true rfl, Nat.le_of_ble_eq_true rfl⟩) (rcv_D hK hP) hK hP rfl hl.1 rfl (Nat.le_of_ble_eq_true rfl) dX0_unreadableOn_16 ⟨Nat.zero_le _, Nat.zero_le _⟩ ?_
      refine lv_istore (lv' := [(5, .int (s_X0_sectorFor σ v1_4)), (0, .ref (α 0)), (1, .int p1), (2, .int p2), (3, .int v1_3), (4, .int v1_4)]) hx hb dX0_unreadableOn_19 hl (by decide) rfl (fun ls hl => ?_)
      refine lv_iload hx hb dX0_unreadableOn_21 (lv_at hl 0 rfl) ?_
      refine lv_iload_n hx hb dX0_unreadableOn_23 rfl (lv_at hl 2 rfl) ?_
      refine lv_iload_n hx hb dX0_unreadableOn_24 rfl (lv_at hl 3 rfl) ?_
      refine rdS (As := [.int (s_X0_sectorFor σ v1_4), .int p1, .int p2]) (rest := []) (c_X0_isWithin l G (s_X0_sectorFor σ v1_4) p1 p2) hF (va_cwS 3 hts gX0_unreadableOn_X0_isWithin rfl rfl rfl (by decide +kernel) ⟨Nat.le_of_ble_eq_true rfl, Nat.le_of_ble_eq_true rfl⟩) hK va_P0 rfl hl.1 rfl (Nat.le_of_ble_eq_true rfl) dX0_unreadableOn_25 ⟨Nat.zero_le _, Nat.zero_le _⟩ ?_
      refine lv_if_eq (tgt := 52) hx hb dX0_unreadableOn_28 (by decide) (fun (c_2 : (s_X0_isWithin (s_X0_sectorFor σ v1_4) p1 p2) = 0) => ?_) (fun (c_2 : ¬ (s_X0_isWithin (s_X0_sectorFor σ v1_4) p1 p2) = 0) => ?_)
      · skip
        have hok := hok.1 c_2
        refine lv_iinc (v := (v1_4 + 1)) (lv' := [(4, .int (v1_4 + 1)), (5, .int (s_X0_sectorFor σ v1_4)), (0, .ref (α 0)), (1, .int p1), (2, .int p2), (3, .int v1_3)]) hx hb dX0_unreadableOn_52 hl (k := 5) rfl rfl (by decide) rfl (fun ls hl => ?_)
        refine lv_goto (tgt := 5) hx hb dX0_unreadableOn_55 (by decide) ?_
        rw [show (L1_X0_unreadableOn σ p1 p2 (n + 1) v1_3 v1_4) = (L1_X0_unreadableOn σ p1 p2 n v1_3 (v1_4 + 1)) from by rw [L1_X0_unreadableOn]; rw [if_neg c_1, if_pos c_2]]
        exact ih v1_3 (v1_4 + 1) hok ls (lv_sub hl [2, 3, 4, 5, 0] rfl)
      · skip
        have hok := hok.2 c_2
        refine lv_aload_n hx hb dX0_unreadableOn_31 rfl (lv_at hl 1 rfl) ?_
        refine lv_iload hx hb dX0_unreadableOn_32 (lv_at hl 0 rfl) ?_
        refine rdV (As := [.int (s_X0_sectorFor σ v1_4)]) (rest := []) (c_X0_holdsNumber l G α σ (s_X0_sectorFor σ v1_4)) hF (cwV 1 hts gX0_unreadableOn_X0_holdsNumber rfl rfl rfl (by decide +kernel) ⟨Nat.le_of_ble_eq_true rfl, Nat.le_of_ble_eq_true rfl⟩) (rcv_D hK hP) hK hP rfl hl.1 rfl (Nat.le_of_ble_eq_true rfl) dX0_unreadableOn_34 ⟨Nat.zero_le _, Nat.zero_le _⟩ ?_
        refine lv_if_eq (tgt := 52) hx hb dX0_unreadableOn_37 (by decide) (fun (c_3 : (s_X0_holdsNumber σ (s_X0_sectorFor σ v1_4)) = 0) => ?_) (fun (c_3 : ¬ (s_X0_holdsNumber σ (s_X0_sectorFor σ v1_4)) = 0) => ?_)
        · skip
          have hok := hok.1 c_3
          refine lv_iinc (v := (v1_4 + 1)) (lv' := [(4, .int (v1_4 + 1)), (5, .int (s_X0_sectorFor σ v1_4)), (0, .ref (α 0)), (1, .int p1), (2, .int p2), (3, .int v1_3)]) hx hb dX0_unreadableOn_52 hl (k := 5) rfl rfl (by decide) rfl (fun ls hl => ?_)
          refine lv_goto (tgt := 5) hx hb dX0_unreadableOn_55 (by decide) ?_
          rw [show (L1_X0_unreadableOn σ p1 p2 (n + 1) v1_3 v1_4) = (L1_X0_unreadableOn σ p1 p2 n v1_3 (v1_4 + 1)) from by rw [L1_X0_unreadableOn]; rw [if_neg c_1, if_neg c_2, if_pos c_3]]
          exact ih v1_3 (v1_4 + 1) hok ls (lv_sub hl [2, 3, 4, 5, 0] rfl)
        · skip
          have hok := hok.2 c_3
          refine lv_aload_n hx hb dX0_unreadableOn_40 rfl (lv_at hl 1 rfl) ?_
          refine lv_iload hx hb dX0_unreadableOn_41 (lv_at hl 0 rfl) ?_
          refine rdV (As := [.int (s_X0_sectorFor σ v1_4)]) (rest := []) (c_X0_isReadable l G α σ (s_X0_sectorFor σ v1_4)) hF (cwV 1 hts gX0_unreadableOn_X0_isReadable rfl rfl rfl (by decide +kernel) ⟨Nat.le_of_ble_eq_true rfl, Nat.le_of_ble_eq_true rfl⟩) (rcv_D hK hP) hK hP rfl hl.1 rfl (Nat.le_of_ble_eq_true rfl) dX0_unreadableOn_43 ⟨Nat.zero_le _, Nat.zero_le _⟩ ?_
          refine lv_if_ne (tgt := 52) hx hb dX0_unreadableOn_46 (by decide) (fun (c_4 : ¬ (s_X0_isReadable σ (s_X0_sectorFor σ v1_4)) = 0) => ?_) (fun (c_4 : (s_X0_isReadable σ (s_X0_sectorFor σ v1_4)) = 0) => ?_)
          · skip
            have hok := hok.2 c_4
            refine lv_iinc (v := (v1_4 + 1)) (lv' := [(4, .int (v1_4 + 1)), (5, .int (s_X0_sectorFor σ v1_4)), (0, .ref (α 0)), (1, .int p1), (2, .int p2), (3, .int v1_3)]) hx hb dX0_unreadableOn_52 hl (k := 5) rfl rfl (by decide) rfl (fun ls hl => ?_)
            refine lv_goto (tgt := 5) hx hb dX0_unreadableOn_55 (by decide) ?_
            rw [show (L1_X0_unreadableOn σ p1 p2 (n + 1) v1_3 v1_4) = (L1_X0_unreadableOn σ p1 p2 n v1_3 (v1_4 + 1)) from by rw [L1_X0_unreadableOn]; rw [if_neg c_1, if_neg c_2, if_neg c_3, if_neg c_4]]
            exact ih v1_3 (v1_4 + 1) hok ls (lv_sub hl [2, 3, 4, 5, 0] rfl)
          · skip
            have hok := hok.1 c_4
            refine lv_iinc (v := (v1_3 + 1)) (lv' := [(3, .int (v1_3 + 1)), (5, .int (s_X0_sectorFor σ v1_4)), (0, .ref (α 0)), (1, .int p1), (2, .int p2), (4, .int v1_4)]) hx hb dX0_unreadableOn_49 hl (k := 4) rfl rfl (by decide) rfl (fun ls hl => ?_)
            refine lv_iinc (v := (v1_4 + 1)) (lv' := [(4, .int (v1_4 + 1)), (3, .int (v1_3 + 1)), (5, .int (s_X0_sectorFor σ v1_4)), (0, .ref (α 0)), (1, .int p1), (2, .int p2)]) hx hb dX0_unreadableOn_52 hl (k := 5) rfl rfl (by decide) rfl (fun ls hl => ?_)
            refine lv_goto (tgt := 5) hx hb dX0_unreadableOn_55 (by decide) ?_
            rw [show (L1_X0_unreadableOn σ p1 p2 (n + 1) v1_3 v1_4) = (L1_X0_unreadableOn σ p1 p2 n (v1_3 + 1) (v1_4 + 1)) from by rw [L1_X0_unreadableOn]; rw [if_neg c_1, if_neg c_2, if_neg c_3, if_pos c_4]]
            exact ih (v1_3 + 1) (v1_4 + 1) hok ls (lv_sub hl [3, 4, 5, 1, 0] rfl)
set_option maxHeartbeats 4000000 in
set_option maxRecDepth 100000 in
theorem c_X0_unreadableOn (l : Launch) (G : GG) (α : Nat → Nat) (σ : DS) (p1 : Int32) (p2 : Int32) (hok : ok_X0_unreadableOn σ p1 p2) : Rd G l yX0_unreadableOn wsX0_unreadableOn 3 63 [.ref (α 0), .int p1, .int p2] (dW G.2.1 α σ) (.int (s_X0_unreadableOn σ p1 p2)) := by
  refine Met.ofW (cc := cX0_unreadableOn) (maxL := 6) (ret := (some .int)) (by decide) rfl ?_
  intro p e s m args below meth c s₁ B hml hv
  obtain ⟨rfl, hP, hK⟩ := hv
  have C0 : cA p s m meth c ([.ref (α 0), .int p1, .int p2] : List Value).toArray cX0_unreadableOn 6 (some .int) wsX0_unreadableOn RX0 := ⟨B.exec, B.bytes, B.returns, hml, findClass_of_methodNamed B.named, atoms_spec (ws := wsX0_unreadableOn) B.pre, B.notSynchronized⟩
  obtain ⟨hx, hb, hr, hml, hown, hts, hlocks⟩ := id C0
  have hF : CallFix p m c cX0_unreadableOn 6 s _ wsX0_unreadableOn RX0 := ⟨hx, hb, hml, hown, hts⟩
  have hl := lv_entry ([.ref (α 0), .int p1, .int p2]) (n := 6) (Nat.le_of_ble_eq_true rfl)
  rw [lg_entry_eq]
  generalize (lg_sl ([.ref (α 0), .int p1, .int p2]) ++ List.replicate (6 - (lg_sl ([.ref (α 0), .int p1, .int p2])).length) Slot.unset).toArray = ls at hl ⊢
  have hl : lv_has ls 6 [(0, .ref (α 0)), (1, .int p1), (2, .int p2)] := hl
  have hok : okL1_X0_unreadableOn σ p1 p2 FU 0 0 := hok
  refine lv_iconst (v := 0) hx hb dX0_unreadableOn_0 (by decide) ?_
  refine lv_istore_n (lv' := [(3, .int 0), (0, .ref (α 0)), (1, .int p1), (2, .int p2)]) hx hb dX0_unreadableOn_1 rfl hl (by decide) rfl (fun ls hl => ?_)
  refine lv_iconst (v := 0) hx hb dX0_unreadableOn_2 (by decide) ?_
  refine lv_istore (lv' := [(4, .int 0), (3, .int 0), (0, .ref (α 0)), (1, .int p1), (2, .int p2)]) hx hb dX0_unreadableOn_3 hl (by decide) rfl (fun ls hl => ?_)
  rw [show s_X0_unreadableOn σ p1 p2 = (L1_X0_unreadableOn σ p1 p2 FU 0 0) from by rw [s_X0_unreadableOn]]
  exact wL1_X0_unreadableOn l G α σ p1 p2 hP C0 hK FU 0 0 hok ls (lv_sub hl [2, 3, 4, 1, 0] rfl)
def L1_X0_writingsOnTracks (σ : DS) (p1 : Int32) (p2 : Int32) : Nat → Int32 → Int32 → Int32
  | 0, v1_3, v1_4 => 0
  | n + 1, v1_3, v1_4 => (if 16 ≤ v1_4 then v1_3 else (if p2 ≤ 0 then (L1_X0_writingsOnTracks σ p1 p2 n v1_3 (v1_4 + 1)) else (if (jrem v1_4 p2) = p1 then (L1_X0_writingsOnTracks σ p1 p2 n (v1_3 + (s_X0_writingsOnTrack σ v1_4)) (v1_4 + 1)) else (L1_X0_writingsOnTracks σ p1 p2 n v1_3 (v1_4 + 1)))))
def okL1_X0_writingsOnTracks (σ : DS) (p1 : Int32) (p2 : Int32) : Nat → Int32 → Int32 → Prop
  | 0, _, _ => False
  | n + 1, v1_3, v1_4 => (16 ≤ v1_4 → True) ∧ (¬ 16 ≤ v1_4 → ((p2 ≤ 0 → (okL1_X0_writingsOnTracks σ p1 p2 n v1_3 (v1_4 + 1))) ∧ (¬ p2 ≤ 0 → (((jrem v1_4 p2) = p1 → ((ok_X0_writingsOnTrack σ v1_4) ∧ (okL1_X0_writingsOnTracks σ p1 p2 n (v1_3 + (s_X0_writingsOnTrack σ v1_4)) (v1_4 + 1)))) ∧ (¬ (jrem v1_4 p2) = p1 → (okL1_X0_writingsOnTracks σ p1 p2 n v1_3 (v1_4 + 1)))))))
def s_X0_writingsOnTracks (σ : DS) (p1 : Int32) (p2 : Int32) : Int32 := (L1_X0_writingsOnTracks σ p1 p2 FU 0 0)
def ok_X0_writingsOnTracks (σ : DS) (p1 : Int32) (p2 : Int32) : Prop := okL1_X0_writingsOnTracks σ p1 p2 FU 0 0
set_option maxHeartbeats 4000000 in
set_option maxRecDepth 100000 in
theorem wL1_X0_writingsOnTracks {p : Program} {e : Env} {s : State} {m : MethodId} {args : Array Value} {below : List Frame} {meth : Method} {c : Code} (l : Launch) (G : GG) (α : Nat → Nat) (σ : DS) (p1 : Int32) (p2 : Int32) (hP : va_P G.1 vwCl (dW G.2.1 α σ) s.heap) (C0 : cA p s m meth c args cX0_writingsOnTracks 5 (some .int) wsX0_writingsOnTracks RX0) (hK : cK G s) : ∀ (n : Nat) (v1_3 : Int32) (v1_4 : Int32)  (hok : okL1_X0_writingsOnTracks σ p1 p2 n v1_3 v1_4) (ls : Array Slot), lv_has ls 5 [(0, .ref (α 0)), (1, .int p1), (2, .int p2), (3, .int v1_3), (4, .int v1_4)] → W p l e (rmm 3 65) s m args below meth c s.heap [] 0 0 (MQ below (QR (some (.int (L1_X0_writingsOnTracks σ p1 p2 n v1_3 v1_4)))) args s 0 0 (fun _ => False)) (F0 m 5 ls []) := by
  obtain ⟨hx, hb, hr, hml, hown, hts, hlocks⟩ := id C0
  have hF : CallFix p m c cX0_writingsOnTracks 5 s args wsX0_writingsOnTracks RX0 := ⟨hx, hb, hml, hown, hts⟩
  intro n
  induction n with
  | zero =>
    intro v1_3 v1_4 hok
    exact hok.elim
  | succ n ih =>
    intro v1_3 v1_4 hok ls hl
    have hok : (16 ≤ v1_4 → True) ∧ (¬ 16 ≤ v1_4 → ((p2 ≤ 0 → (okL1_X0_writingsOnTracks σ p1 p2 n v1_3 (v1_4 + 1))) ∧ (¬ p2 ≤ 0 → (((jrem v1_4 p2) = p1 → ((ok_X0_writingsOnTrack σ v1_4) ∧ (okL1_X0_writingsOnTracks σ p1 p2 n (v1_3 + (s_X0_writingsOnTrack σ v1_4)) (v1_4 + 1)))) ∧ (¬ (jrem v1_4 p2) = p1 → (okL1_X0_writingsOnTracks σ p1 p2 n v1_3 (v1_4 + 1))))))) := hok
    refine lv_iload hx hb dX0_writingsOnTracks_5 (lv_at hl 4 rfl) ?_
    refine lv_bipush (v := 16) hx hb dX0_writingsOnTracks_7 (by decide) ?_
    refine lv_icmp_ge (tgt := 39) hx hb dX0_writingsOnTracks_9 (by decide) (fun (c_1 : 16 ≤ v1_4) => ?_) (fun (c_1 : ¬ 16 ≤ v1_4) => ?_)
    · skip
      refine lv_iload_n hx hb dX0_writingsOnTracks_39 rfl (lv_at hl 3 rfl) ?_
      rw [show (L1_X0_writingsOnTracks σ p1 p2 (n + 1) v1_3 v1_4) = v1_3 from by rw [L1_X0_writingsOnTracks]; rw [if_pos c_1]]
      exact W.iret hx hb hr (fun t ht hW => ⟨rfl, ht⟩) (fun _ h => nomatch h) dX0_writingsOnTracks_40
    · skip
      have hok := hok.2 c_1
      refine lv_iload_n hx hb dX0_writingsOnTracks_12 rfl (lv_at hl 2 rfl) ?_
      refine lv_if_le (tgt := 33) hx hb dX0_writingsOnTracks_13 (by decide) (fun (c_2 : p2 ≤ 0) => ?_) (fun (c_2 : ¬ p2 ≤ 0) => ?_)
      · skip
        have hok := hok.1 c_2
        refine lv_iinc (v := (v1_4 + 1)) (lv' := [(4, .int (v1_4 + 1)), (0, .ref (α 0)), (1, .int p1), (2, .int p2), (3, .int v1_3)]) hx hb dX0_writingsOnTracks_33 hl (k := 4) rfl rfl (by decide) rfl (fun ls hl => ?_)
        refine lv_goto (tgt := 5) hx hb dX0_writingsOnTracks_36 (by decide) ?_
        rw [show (L1_X0_writingsOnTracks σ p1 p2 (n + 1) v1_3 v1_4) = (L1_X0_writingsOnTracks σ p1 p2 n v1_3 (v1_4 + 1)) from by rw [L1_X0_writingsOnTracks]; rw [if_neg c_1, if_pos c_2]]
        exact ih v1_3 (v1_4 + 1) hok ls (lv_sub hl [1, 2, 3, 4, 0] rfl)
      · skip
        have hok := hok.2 c_2
        refine lv_iload hx hb dX0_writingsOnTracks_16 (lv_at hl 4 rfl) ?_
        refine lv_iload_n hx hb dX0_writingsOnTracks_18 rfl (lv_at hl 2 rfl) ?_
        refine lv_irem hx hb dX0_writingsOnTracks_19 (nz_of c_2) ?_
        refine lv_iload_n hx hb dX0_writingsOnTracks_20 rfl (lv_at hl 1 rfl) ?_
        refine lv_icmp_ne (tgt := 33) hx hb dX0_writingsOnTracks_21 (by decide) (fun (c_3 : ¬ (jrem v1_4 p2) = p1) => ?_) (fun (c_3 : (jrem v1_4 p2) = p1) => ?_)
        · skip
          have hok := hok.2 c_3
          refine lv_iinc (v := (v1_4 + 1)) (lv' := [(4, .int (v1_4 + 1)), (0, .ref (α 0)), (1, .int p1), (2, .int p2), (3, .int v1_3)]) hx hb dX0_writingsOnTracks_33 hl (k := 4) rfl rfl (by decide) rfl (fun ls hl => ?_)
          refine lv_goto (tgt := 5) hx hb dX0_writingsOnTracks_36 (by decide) ?_
          rw [show (L1_X0_writingsOnTracks σ p1 p2 (n + 1) v1_3 v1_4) = (L1_X0_writingsOnTracks σ p1 p2 n v1_3 (v1_4 + 1)) from by rw [L1_X0_writingsOnTracks]; rw [if_neg c_1, if_neg c_2, if_neg c_3]]
          exact ih v1_3 (v1_4 + 1) hok ls (lv_sub hl [1, 2, 3, 4, 0] rfl)
        · skip
          have hok := hok.1 c_3
          obtain ⟨h_4, hok⟩ := hok
          refine lv_iload_n hx hb dX0_writingsOnTracks_24 rfl (lv_at hl 3 rfl) ?_
          refine lv_aload_n hx hb dX0_writingsOnTracks_25 rfl (lv_at hl 0 rfl) ?_
          refine lv_iload hx hb dX0_writingsOnTracks_26 (lv_at hl 4 rfl) ?_
          refine rdV (As := [.int v1_4]) (rest := [.int v1_3]) (c_X0_writingsOnTrack l G α σ v1_4 h_4) hF (cwV 1 hts gX0_writingsOnTracks_X0_writingsOnTrack rfl rfl rfl (by decide +kernel) ⟨Nat.le_of_ble_eq_true rfl, Nat.le_of_ble_eq_true rfl⟩) (rcv_D hK hP) hK hP rfl hl.1 rfl (Nat.le_of_ble_eq_true rfl) dX0_writingsOnTracks_28 ⟨Nat.zero_le _, Nat.zero_le _⟩ ?_
          refine lv_iadd hx hb dX0_writingsOnTracks_31 ?_
          refine lv_istore_n (lv' := [(3, .int (v1_3 + (s_X0_writingsOnTrack σ v1_4))), (0, .ref (α 0)), (1, .int p1), (2, .int p2), (4, .int v1_4)]) hx hb dX0_writingsOnTracks_32 rfl hl (by decide) rfl (fun ls hl => ?_)
          refine lv_iinc (v := (v1_4 + 1)) (lv' := [(4, .int (v1_4 + 1)), (3, .int (v1_3 + (s_X0_writingsOnTrack σ v1_4))), (0, .ref (α 0)), (1, .int p1), (2, .int p2)]) hx hb dX0_writingsOnTracks_33 hl (k := 4) rfl rfl (by decide) rfl (fun ls hl => ?_)
          refine lv_goto (tgt := 5) hx hb dX0_writingsOnTracks_36 (by decide) ?_
          rw [show (L1_X0_writingsOnTracks σ p1 p2 (n + 1) v1_3 v1_4) = (L1_X0_writingsOnTracks σ p1 p2 n (v1_3 + (s_X0_writingsOnTrack σ v1_4)) (v1_4 + 1)) from by rw [L1_X0_writingsOnTracks]; rw [if_neg c_1, if_neg c_2, if_pos c_3]]
          exact ih (v1_3 + (s_X0_writingsOnTrack σ v1_4)) (v1_4 + 1) hok ls (lv_sub hl [2, 3, 4, 1, 0] rfl)
set_option maxHeartbeats 4000000 in
set_option maxRecDepth 100000 in
theorem c_X0_writingsOnTracks (l : Launch) (G : GG) (α : Nat → Nat) (σ : DS) (p1 : Int32) (p2 : Int32) (hok : ok_X0_writingsOnTracks σ p1 p2) : Rd G l yX0_writingsOnTracks wsX0_writingsOnTracks 3 65 [.ref (α 0), .int p1, .int p2] (dW G.2.1 α σ) (.int (s_X0_writingsOnTracks σ p1 p2)) := by
  refine Met.ofW (cc := cX0_writingsOnTracks) (maxL := 5) (ret := (some .int)) (by decide) rfl ?_
  intro p e s m args below meth c s₁ B hml hv
  obtain ⟨rfl, hP, hK⟩ := hv
  have C0 : cA p s m meth c ([.ref (α 0), .int p1, .int p2] : List Value).toArray cX0_writingsOnTracks 5 (some .int) wsX0_writingsOnTracks RX0 := ⟨B.exec, B.bytes, B.returns, hml, findClass_of_methodNamed B.named, atoms_spec (ws := wsX0_writingsOnTracks) B.pre, B.notSynchronized⟩
  obtain ⟨hx, hb, hr, hml, hown, hts, hlocks⟩ := id C0
  have hF : CallFix p m c cX0_writingsOnTracks 5 s _ wsX0_writingsOnTracks RX0 := ⟨hx, hb, hml, hown, hts⟩
  have hl := lv_entry ([.ref (α 0), .int p1, .int p2]) (n := 5) (Nat.le_of_ble_eq_true rfl)
  rw [lg_entry_eq]
  generalize (lg_sl ([.ref (α 0), .int p1, .int p2]) ++ List.replicate (5 - (lg_sl ([.ref (α 0), .int p1, .int p2])).length) Slot.unset).toArray = ls at hl ⊢
  have hl : lv_has ls 5 [(0, .ref (α 0)), (1, .int p1), (2, .int p2)] := hl
  have hok : okL1_X0_writingsOnTracks σ p1 p2 FU 0 0 := hok
  refine lv_iconst (v := 0) hx hb dX0_writingsOnTracks_0 (by decide) ?_
  refine lv_istore_n (lv' := [(3, .int 0), (0, .ref (α 0)), (1, .int p1), (2, .int p2)]) hx hb dX0_writingsOnTracks_1 rfl hl (by decide) rfl (fun ls hl => ?_)
  refine lv_iconst (v := 0) hx hb dX0_writingsOnTracks_2 (by decide) ?_
  refine lv_istore (lv' := [(4, .int 0), (3, .int 0), (0, .ref (α 0)), (1, .int p1), (2, .int p2)]) hx hb dX0_writingsOnTracks_3 hl (by decide) rfl (fun ls hl => ?_)
  rw [show s_X0_writingsOnTracks σ p1 p2 = (L1_X0_writingsOnTracks σ p1 p2 FU 0 0) from by rw [s_X0_writingsOnTracks]]
  exact wL1_X0_writingsOnTracks l G α σ p1 p2 hP C0 hK FU 0 0 hok ls (lv_sub hl [2, 3, 4, 1, 0] rfl)
def L1_X0_greatestBlur (σ : DS) : Nat → Int32 → Int32 → Int32
  | 0, v1_1, v1_2 => 0
  | n + 1, v1_1, v1_2 => (if 192 ≤ v1_2 then v1_1 else (L1_X0_greatestBlur σ n (jmax v1_1 (s_X0_blurOf σ (s_X0_sectorFor σ v1_2))) (v1_2 + 1)))
def okL1_X0_greatestBlur (σ : DS) : Nat → Int32 → Int32 → Prop
  | 0, _, _ => False
  | n + 1, v1_1, v1_2 => (192 ≤ v1_2 → True) ∧ (¬ 192 ≤ v1_2 → (okL1_X0_greatestBlur σ n (jmax v1_1 (s_X0_blurOf σ (s_X0_sectorFor σ v1_2))) (v1_2 + 1)))
def s_X0_greatestBlur (σ : DS) : Int32 := (L1_X0_greatestBlur σ FU 0 0)
def ok_X0_greatestBlur (σ : DS) : Prop := okL1_X0_greatestBlur σ FU 0 0
set_option maxHeartbeats 4000000 in
set_option maxRecDepth 100000 in
theorem wL1_X0_greatestBlur {p : Program} {e : Env} {s : State} {m : MethodId} {args : Array Value} {below : List Frame} {meth : Method} {c : Code} (l : Launch) (G : GG) (α : Nat → Nat) (σ : DS) (hP : va_P G.1 vwCl (dW G.2.1 α σ) s.heap) (C0 : cA p s m meth c args cX0_greatestBlur 3 (some .int) wsX0_greatestBlur RX0) (hK : cK G s) : ∀ (n : Nat) (v1_1 : Int32) (v1_2 : Int32)  (hok : okL1_X0_greatestBlur σ n v1_1 v1_2) (ls : Array Slot), lv_has ls 3 [(0, .ref (α 0)), (1, .int v1_1), (2, .int v1_2)] → W p l e (rmm 2 42) s m args below meth c s.heap [] 0 0 (MQ below (QR (some (.int (L1_X0_greatestBlur σ n v1_1 v1_2)))) args s 0 0 (fun _ => False)) (F0 m 4 ls []) := by
  obtain ⟨hx, hb, hr, hml, hown, hts, hlocks⟩ := id C0
  have hF : CallFix p m c cX0_greatestBlur 3 s args wsX0_greatestBlur RX0 := ⟨hx, hb, hml, hown, hts⟩
  intro n
  induction n with
  | zero =>
    intro v1_1 v1_2 hok
    exact hok.elim
  | succ n ih =>
    intro v1_1 v1_2 hok ls hl
    have hok : (192 ≤ v1_2 → True) ∧ (¬ 192 ≤ v1_2 → (okL1_X0_greatestBlur σ n (jmax v1_1 (s_X0_blurOf σ (s_X0_sectorFor σ v1_2))) (v1_2 + 1))) := hok
    refine lv_iload_n hx hb dX0_greatestBlur_4 rfl (lv_at hl 2 rfl) ?_
    refine lv_sipush (v := 192) hx hb dX0_greatestBlur_5 (by decide) ?_
    refine lv_icmp_ge (tgt := 31) hx hb dX0_greatestBlur_8 (by decide) (fun (c_1 : 192 ≤ v1_2) => ?_) (fun (c_1 : ¬ 192 ≤ v1_2) => ?_)
    · skip
      refine lv_iload_n hx hb dX0_greatestBlur_31 rfl (lv_at hl 1 rfl) ?_
      rw [show (L1_X0_greatestBlur σ (n + 1) v1_1 v1_2) = v1_1 from by rw [L1_X0_greatestBlur]; rw [if_pos c_1]]
      exact W.iret hx hb hr (fun t ht hW => ⟨rfl, ht⟩) (fun _ h => nomatch h) dX0_greatestBlur_32
    · skip
      have hok := hok.2 c_1
      refine lv_iload_n hx hb dX0_greatestBlur_11 rfl (lv_at hl 1 rfl) ?_
      refine lv_aload_n hx hb dX0_greatestBlur_12 rfl (lv_at hl 0 rfl) ?_
      refine lv_aload_n hx hb dX0_greatestBlur_13 rfl (lv_at hl 0 rfl) ?_
      refine lv_iload_n hx hb dX0_greatestBlur_14 rfl (lv_at hl 2 rfl) ?_
      refine rdV (As := [.int v1_2]) (rest := [.ref (α 0), .int v1_1]) (c_X0_sectorFor l G α σ v1_2) hF (cwV 1 hts gX0_greatestBlur_X0_sectorFor rfl rfl rfl (by decide +kernel) ⟨Nat.le_of_ble_eq_true rfl, Nat.le_of_ble_eq_true rfl⟩) (rcv_D hK hP) hK hP rfl hl.1 rfl (Nat.le_of_ble_eq_true rfl) dX0_greatestBlur_15 ⟨Nat.zero_le _, Nat.zero_le _⟩ ?_
      refine rdV (As := [.int (s_X0_sectorFor σ v1_2)]) (rest := [.int v1_1]) (c_X0_blurOf l G α σ (s_X0_sectorFor σ v1_2)) hF (cwV 1 hts gX0_greatestBlur_X0_blurOf rfl rfl rfl (by decide +kernel) ⟨Nat.le_of_ble_eq_true rfl, Nat.le_of_ble_eq_true rfl⟩) (rcv_D hK hP) hK hP rfl hl.1 rfl (Nat.le_of_ble_eq_true rfl) dX0_greatestBlur_18 ⟨Nat.zero_le _, Nat.zero_le _⟩ ?_
      refine va_mmax hx hb (by rw [hml]; exact hl.1.symm) hown (hts (.methodLink RX0 148 Lib.Math.max.name) (by decide +kernel)) (hts (.static Lib.Math.max.name) (by decide +kernel)) (hts (.initialized "java/lang/Math") (by decide +kernel)) (hts (.code Lib.Math.max.name Lib.Math.max.code 2 (some .int)) (by decide +kernel)) (Nat.le_of_ble_eq_true rfl) (Nat.le_of_ble_eq_true rfl) (Nat.zero_le _) (Nat.zero_le _) dX0_greatestBlur_21 ?_
      refine lv_istore_n (lv' := [(1, .int (jmax v1_1 (s_X0_blurOf σ (s_X0_sectorFor σ v1_2)))), (0, .ref (α 0)), (2, .int v1_2)]) hx hb dX0_greatestBlur_24 rfl hl (by decide) rfl (fun ls hl => ?_)
      refine lv_iinc (v := (v1_2 + 1)) (lv' := [(2, .int (v1_2 + 1)), (1, .int (jmax v1_1 (s_X0_blurOf σ (s_X0_sectorFor σ v1_2)))), (0, .ref (α 0))]) hx hb dX0_greatestBlur_25 hl (k := 2) rfl rfl (by decide) rfl (fun ls hl => ?_)
      refine lv_goto (tgt := 4) hx hb dX0_greatestBlur_28 (by decide) ?_
      rw [show (L1_X0_greatestBlur σ (n + 1) v1_1 v1_2) = (L1_X0_greatestBlur σ n (jmax v1_1 (s_X0_blurOf σ (s_X0_sectorFor σ v1_2))) (v1_2 + 1)) from by rw [L1_X0_greatestBlur]; rw [if_neg c_1]]
      exact ih (jmax v1_1 (s_X0_blurOf σ (s_X0_sectorFor σ v1_2))) (v1_2 + 1) hok ls (lv_sub hl [2, 1, 0] rfl)
set_option maxHeartbeats 4000000 in
set_option maxRecDepth 100000 in
theorem c_X0_greatestBlur (l : Launch) (G : GG) (α : Nat → Nat) (σ : DS) (hok : ok_X0_greatestBlur σ) : Rd G l yX0_greatestBlur wsX0_greatestBlur 2 42 [.ref (α 0)] (dW G.2.1 α σ) (.int (s_X0_greatestBlur σ)) := by
  refine Met.ofW (cc := cX0_greatestBlur) (maxL := 3) (ret := (some .int)) (by decide) rfl ?_
  intro p e s m args below meth c s₁ B hml hv
  obtain ⟨rfl, hP, hK⟩ := hv
  have C0 : cA p s m meth c ([.ref (α 0)] : List Value).toArray cX0_greatestBlur 3 (some .int) wsX0_greatestBlur RX0 := ⟨B.exec, B.bytes, B.returns, hml, findClass_of_methodNamed B.named, atoms_spec (ws := wsX0_greatestBlur) B.pre, B.notSynchronized⟩
  obtain ⟨hx, hb, hr, hml, hown, hts, hlocks⟩ := id C0
  have hF : CallFix p m c cX0_greatestBlur 3 s _ wsX0_greatestBlur RX0 := ⟨hx, hb, hml, hown, hts⟩
  have hl := lv_entry ([.ref (α 0)]) (n := 3) (Nat.le_of_ble_eq_true rfl)
  rw [lg_entry_eq]
  generalize (lg_sl ([.ref (α 0)]) ++ List.replicate (3 - (lg_sl ([.ref (α 0)])).length) Slot.unset).toArray = ls at hl ⊢
  have hl : lv_has ls 3 [(0, .ref (α 0))] := hl
  have hok : okL1_X0_greatestBlur σ FU 0 0 := hok
  refine lv_iconst (v := 0) hx hb dX0_greatestBlur_0 (by decide) ?_
  refine lv_istore_n (lv' := [(1, .int 0), (0, .ref (α 0))]) hx hb dX0_greatestBlur_1 rfl hl (by decide) rfl (fun ls hl => ?_)
  refine lv_iconst (v := 0) hx hb dX0_greatestBlur_2 (by decide) ?_
  refine lv_istore_n (lv' := [(2, .int 0), (1, .int 0), (0, .ref (α 0))]) hx hb dX0_greatestBlur_3 rfl hl (by decide) rfl (fun ls hl => ?_)
  rw [show s_X0_greatestBlur σ = (L1_X0_greatestBlur σ FU 0 0) from by rw [s_X0_greatestBlur]]
  exact wL1_X0_greatestBlur l G α σ hP C0 hK FU 0 0 hok ls (lv_sub hl [2, 1, 0] rfl)
end
section
def t1_X2_append (σ : PS) (p1 : Int64) (p3 : Int32) (v1_4 : Int32) (τ1_0 : PS) : PS := (p_si' τ1_0 (s_X4_lay 60 (p_si τ1_0) (p_le τ1_0) ((jus p1 (8 * v1_4)) &&& 255).toInt32))
def t2_X2_append (σ : PS) (p1 : Int64) (p3 : Int32) (v1_4 : Int32) (τ1_0 : PS) : PS := (p_le' (t1_X2_append σ p1 p3 v1_4 τ1_0) ((p_le (t1_X2_append σ p1 p3 v1_4 τ1_0)) + 1))
def L1_X2_append (σ : PS) (p1 : Int64) (p3 : Int32) : Nat → Int32 → PS → PS
  | 0, v1_4, τ1_0 => τ1_0
  | n + 1, v1_4, τ1_0 => (if v1_4 < 0 then τ1_0 else (L1_X2_append σ p1 p3 n (v1_4 + (-1)) (t2_X2_append σ p1 p3 v1_4 τ1_0)))
def okL1_X2_append (σ : PS) (p1 : Int64) (p3 : Int32) : Nat → Int32 → PS → Prop
  | 0, _, _ => False
  | n + 1, v1_4, τ1_0 => (v1_4 < 0 → True) ∧ (¬ v1_4 < 0 → (okL1_X2_append σ p1 p3 n (v1_4 + (-1)) (t2_X2_append σ p1 p3 v1_4 τ1_0)))
def s_X2_append (σ : PS) (p1 : Int64) (p3 : Int32) : PS := (L1_X2_append σ p1 p3 FU (p3 - 1) σ)
def ok_X2_append (σ : PS) (p1 : Int64) (p3 : Int32) : Prop := okL1_X2_append σ p1 p3 FU (p3 - 1) σ
set_option maxHeartbeats 4000000 in
set_option maxRecDepth 100000 in
theorem wL1_X2_append {p : Program} {e : Env} {s : State} {m : MethodId} {args : Array Value} {below : List Frame} {meth : Method} {c : Code} {w0 : va_W} (l : Launch) (G : GG) (α : Nat → Nat) (σ : PS) (p1 : Int64) (p3 : Int32) (C0 : cA p s m meth c args cX2_append 5 none wsX2_append RX2) (hK : cK G s) : ∀ (n : Nat) (v1_4 : Int32) (τ1_0 : PS)  (hok : okL1_X2_append σ p1 p3 n v1_4 τ1_0) (H : Heap) (locs : List Loc), va_P G.1 vwCl (pW G.2.1 α τ1_0) H → va_D (inW w0) (pW G.2.1 α τ1_0) → va_S (inW w0) s.heap H locs → ∀ (ls : Array Slot), lv_has ls 5 [(0, .ref (α 0)), (1, .long p1), (3, .int p3), (4, .int v1_4)] → W p l e (rmm 1 22) s m args below meth c H locs 0 0 (MQ below (QW G w0 (pW G.2.1 α (L1_X2_append σ p1 p3 n v1_4 τ1_0)) none) args s 0 0 (inW w0)) (F0 m 5 ls []) := by
  obtain ⟨hx, hb, hr, hml, hown, hts, hlocks⟩ := id C0
  have hF : CallFix p m c cX2_append 5 s args wsX2_append RX2 := ⟨hx, hb, hml, hown, hts⟩
  have hinX2 : ∀ w ∈ wsX20, w ∈ wsX2_append := by decide +kernel
  intro n
  induction n with
  | zero =>
    intro v1_4 τ1_0 hok
    exact hok.elim
  | succ n ih =>
    intro v1_4 τ1_0 hok H locs hP hD hS ls hl
    have hok : (v1_4 < 0 → True) ∧ (¬ v1_4 < 0 → (okL1_X2_append σ p1 p3 n (v1_4 + (-1)) (t2_X2_append σ p1 p3 v1_4 τ1_0))) := hok
    refine lv_iload hx hb dX2_append_5 (lv_at hl 3 rfl) ?_
    refine lv_if_lt (tgt := 49) hx hb dX2_append_7 (by decide) (fun (c_1 : v1_4 < 0) => ?_) (fun (c_1 : ¬ v1_4 < 0) => ?_)
    · skip
      rw [show (L1_X2_append σ p1 p3 (n + 1) v1_4 τ1_0) = τ1_0 from by rw [L1_X2_append]; rw [if_pos c_1]]
      exact W.vret hx hb hr (fun t ht hW => ⟨rfl, by rw [ht]; exact hP, hS.F ht⟩) hS.2.2 dX2_append_49
    · skip
      have hok := hok.2 c_1
      refine lv_aload_n hx hb dX2_append_10 rfl (lv_at hl 0 rfl) ?_
      refine get_P_signs hx hb hts hinX2 hown hK hP (hts (.fieldLink RX2 9 "GrooveTurns$Pad" "signs" "[I") (by decide +kernel)) dX2_append_11 ?_
      refine lv_aload_n hx hb dX2_append_14 rfl (lv_at hl 0 rfl) ?_
      refine get_P_length hx hb hts hinX2 hown hK hP (hts (.fieldLink RX2 15 "GrooveTurns$Pad" "length" "I") (by decide +kernel)) dX2_append_15 ?_
      refine lv_lload_n hx hb dX2_append_18 rfl (lv_at hl 1 rfl) ?_
      refine lv_bipush (v := 8) hx hb dX2_append_19 (by decide) ?_
      refine lv_iload hx hb dX2_append_21 (lv_at hl 3 rfl) ?_
      refine lv_imul hx hb dX2_append_23 ?_
      refine lv_lushr (v := (jus p1 (8 * v1_4))) hx hb dX2_append_24 rfl ?_
      refine lv_ldc2 (v := 255) hx hb hown (hts (.constantLong RX2 19 (255)) (by decide +kernel)) dX2_append_25 ?_
      refine lv_land hx hb dX2_append_28 ?_
      refine lv_l2i (v := ((jus p1 (8 * v1_4)) &&& 255).toInt32) hx hb dX2_append_29 rfl ?_
      refine wrN (As := [.ref (α 1), .int (p_le τ1_0), .int ((jus p1 (8 * v1_4)) &&& 255).toInt32]) (rest := []) (c_X4_lay l G (α 1) 60 (p_si τ1_0) (p_le τ1_0) ((jus p1 (8 * v1_4)) &&& 255).toInt32 (by decide)) hF (va_cnB (host := RX4) 3 hts gX2_append_X4_lay_n21 rfl rfl rfl (hK.nest 9 rfl) (hts (.initialized RX4) (by decide +kernel)) (by decide +kernel) ⟨Nat.le_of_ble_eq_true rfl, Nat.le_of_ble_eq_true rfl⟩) (hts (.static yX4_lay) (by decide +kernel)) hK hP hD hS [1] (pl_P_si _ _ _) (pf_P_si _ _ _) rfl (by decide) rfl hl.1 rfl (Nat.le_of_ble_eq_true rfl) dX2_append_30 ⟨Nat.zero_le _, Nat.zero_le _⟩ (fun H locs hP hD hS => ?_)
      rw [pset_P_si] at hP hD
      have hP : va_P G.1 vwCl (pW G.2.1 α (t1_X2_append σ p1 p3 v1_4 τ1_0)) H := hP
      have hD : va_D (inW w0) (pW G.2.1 α (t1_X2_append σ p1 p3 v1_4 τ1_0)) := hD
      refine lv_aload_n hx hb dX2_append_33 rfl (lv_at hl 0 rfl) ?_
      refine lv_dup hx hb dX2_append_34 rfl ?_
      refine get_P_length hx hb hts hinX2 hown hK hP (hts (.fieldLink RX2 15 "GrooveTurns$Pad" "length" "I") (by decide +kernel)) dX2_append_35 ?_
      refine lv_iconst (v := 1) hx hb dX2_append_38 (by decide) ?_
      refine lv_iadd hx hb dX2_append_39 ?_
      refine put_P_length hx hb hts hinX2 hown hK hP hD hS (hts (.fieldLink RX2 15 "GrooveTurns$Pad" "length" "I") (by decide +kernel)) dX2_append_40 (fun H locs hP hD hS => ?_)
      have hP : va_P G.1 vwCl (pW G.2.1 α (t2_X2_append σ p1 p3 v1_4 τ1_0)) H := hP
      have hD : va_D (inW w0) (pW G.2.1 α (t2_X2_append σ p1 p3 v1_4 τ1_0)) := hD
      refine lv_iinc (v := (v1_4 + (-1))) (lv' := [(4, .int (v1_4 + (-1))), (0, .ref (α 0)), (1, .long p1), (3, .int p3)]) hx hb dX2_append_43 hl (k := 3) rfl rfl (by decide) rfl (fun ls hl => ?_)
      refine lv_goto (tgt := 5) hx hb dX2_append_46 (by decide) ?_
      rw [show (L1_X2_append σ p1 p3 (n + 1) v1_4 τ1_0) = (L1_X2_append σ p1 p3 n (v1_4 + (-1)) (t2_X2_append σ p1 p3 v1_4 τ1_0)) from by rw [L1_X2_append]; rw [if_neg c_1]]
      exact ih (v1_4 + (-1)) (t2_X2_append σ p1 p3 v1_4 τ1_0) hok _ _ hP hD hS ls (lv_sub hl [1, 2, 3, 0] rfl)
set_option maxHeartbeats 4000000 in
set_option maxRecDepth 100000 in
theorem c_X2_append (l : Launch) (G : GG) (α : Nat → Nat) (σ : PS) (p1 : Int64) (p3 : Int32) (hok : ok_X2_append σ p1 p3) : Wr G l yX2_append wsX2_append 1 22 [.ref (α 0), .long p1, .int p3] (pW G.2.1 α σ) none (pW G.2.1 α (s_X2_append σ p1 p3)) := by
  refine Met.ofW (cc := cX2_append) (maxL := 5) (ret := none) (by decide) rfl ?_
  intro p e s m args below meth c s₁ B hml hv
  obtain ⟨rfl, hP, hK, hD0⟩ := hv
  have C0 : cA p s m meth c ([.ref (α 0), .long p1, .int p3] : List Value).toArray cX2_append 5 none wsX2_append RX2 := ⟨B.exec, B.bytes, B.returns, hml, findClass_of_methodNamed B.named, atoms_spec (ws := wsX2_append) B.pre, B.notSynchronized⟩
  obtain ⟨hx, hb, hr, hml, hown, hts, hlocks⟩ := id C0
  have hF : CallFix p m c cX2_append 5 s _ wsX2_append RX2 := ⟨hx, hb, hml, hown, hts⟩
  have hinX2 : ∀ w ∈ wsX20, w ∈ wsX2_append := by decide +kernel
  obtain ⟨w0, hw0⟩ : ∃ w0 : va_W, w0 = (pW G.2.1 α σ) := ⟨_, rfl⟩
  have hD : va_D (inW w0) (pW G.2.1 α σ) := by rw [hw0]; exact inW.D hD0
  have hS : va_S (inW w0) s.heap s.heap [] := va_S.rf
  rw [show QW G (pW G.2.1 α σ) = QW G w0 from by rw [hw0], show inW (pW G.2.1 α σ) = inW w0 from by rw [hw0]]
  have hl := lv_entry ([.ref (α 0), .long p1, .int p3]) (n := 5) (Nat.le_of_ble_eq_true rfl)
  rw [lg_entry_eq]
  generalize (lg_sl ([.ref (α 0), .long p1, .int p3]) ++ List.replicate (5 - (lg_sl ([.ref (α 0), .long p1, .int p3])).length) Slot.unset).toArray = ls at hl ⊢
  have hl : lv_has ls 5 [(0, .ref (α 0)), (1, .long p1), (3, .int p3)] := hl
  have hok : okL1_X2_append σ p1 p3 FU (p3 - 1) σ := hok
  refine lv_iload_n hx hb dX2_append_0 rfl (lv_at hl 2 rfl) ?_
  refine lv_iconst (v := 1) hx hb dX2_append_1 (by decide) ?_
  refine lv_isub hx hb dX2_append_2 ?_
  refine lv_istore (lv' := [(4, .int (p3 - 1)), (0, .ref (α 0)), (1, .long p1), (3, .int p3)]) hx hb dX2_append_3 hl (by decide) rfl (fun ls hl => ?_)
  rw [show s_X2_append σ p1 p3 = (L1_X2_append σ p1 p3 FU (p3 - 1) σ) from by rw [s_X2_append]]
  exact wL1_X2_append l G α σ p1 p3 C0 hK FU (p3 - 1) σ hok _ _ hP hD hS ls (lv_sub hl [1, 2, 3, 0] rfl)
def s_X2_clear (σ : PS) : PS := (p_le' σ 0)
set_option maxHeartbeats 4000000 in
set_option maxRecDepth 100000 in
theorem c_X2_clear (l : Launch) (G : GG) (α : Nat → Nat) (σ : PS) : Wr G l yX2_clear wsX2_clear 0 0 [.ref (α 0)] (pW G.2.1 α σ) none (pW G.2.1 α (s_X2_clear σ)) := by
  refine Met.ofW (cc := cX2_clear) (maxL := 1) (ret := none) (by decide) rfl ?_
  intro p e s m args below meth c s₁ B hml hv
  obtain ⟨rfl, hP, hK, hD0⟩ := hv
  have C0 : cA p s m meth c ([.ref (α 0)] : List Value).toArray cX2_clear 1 none wsX2_clear RX2 := ⟨B.exec, B.bytes, B.returns, hml, findClass_of_methodNamed B.named, atoms_spec (ws := wsX2_clear) B.pre, B.notSynchronized⟩
  obtain ⟨hx, hb, hr, hml, hown, hts, hlocks⟩ := id C0
  have hF : CallFix p m c cX2_clear 1 s _ wsX2_clear RX2 := ⟨hx, hb, hml, hown, hts⟩
  have hinX2 : ∀ w ∈ wsX20, w ∈ wsX2_clear := by decide +kernel
  obtain ⟨w0, hw0⟩ : ∃ w0 : va_W, w0 = (pW G.2.1 α σ) := ⟨_, rfl⟩
  have hD : va_D (inW w0) (pW G.2.1 α σ) := by rw [hw0]; exact inW.D hD0
  have hS : va_S (inW w0) s.heap s.heap [] := va_S.rf
  rw [show QW G (pW G.2.1 α σ) = QW G w0 from by rw [hw0], show inW (pW G.2.1 α σ) = inW w0 from by rw [hw0]]
  have hl := lv_entry ([.ref (α 0)]) (n := 1) (Nat.le_of_ble_eq_true rfl)
  rw [lg_entry_eq]
  generalize (lg_sl ([.ref (α 0)]) ++ List.replicate (1 - (lg_sl ([.ref (α 0)])).length) Slot.unset).toArray = ls at hl ⊢
  have hl : lv_has ls 1 [(0, .ref (α 0))] := hl
  refine lv_aload_n hx hb dX2_clear_0 rfl (lv_at hl 0 rfl) ?_
  refine lv_iconst (v := 0) hx hb dX2_clear_1 (by decide) ?_
  refine put_P_length hx hb hts hinX2 hown hK hP hD hS (hts (.fieldLink RX2 15 "GrooveTurns$Pad" "length" "I") (by decide +kernel)) dX2_clear_2 (fun H locs hP hD hS => ?_)
  have hP : va_P G.1 vwCl (pW G.2.1 α (p_le' σ 0)) H := hP
  have hD : va_D (inW w0) (pW G.2.1 α (p_le' σ 0)) := hD
  rw [show s_X2_clear σ = (p_le' σ 0) from by rw [s_X2_clear]]
  exact W.vret hx hb hr (fun t ht hW => ⟨rfl, by rw [ht]; exact hP, hS.F ht⟩) hS.2.2 dX2_clear_5
def s_X2_signAt (σ : PS) (p1 : Int32) : Int32 := (s_X4_at 60 (p_si σ) p1)
set_option maxHeartbeats 4000000 in
set_option maxRecDepth 100000 in
theorem c_X2_signAt (l : Launch) (G : GG) (α : Nat → Nat) (σ : PS) (p1 : Int32) : Rd G l yX2_signAt wsX2_signAt 1 21 [.ref (α 0), .int p1] (pW G.2.1 α σ) (.int (s_X2_signAt σ p1)) := by
  refine Met.ofW (cc := cX2_signAt) (maxL := 2) (ret := (some .int)) (by decide) rfl ?_
  intro p e s m args below meth c s₁ B hml hv
  obtain ⟨rfl, hP, hK⟩ := hv
  have C0 : cA p s m meth c ([.ref (α 0), .int p1] : List Value).toArray cX2_signAt 2 (some .int) wsX2_signAt RX2 := ⟨B.exec, B.bytes, B.returns, hml, findClass_of_methodNamed B.named, atoms_spec (ws := wsX2_signAt) B.pre, B.notSynchronized⟩
  obtain ⟨hx, hb, hr, hml, hown, hts, hlocks⟩ := id C0
  have hF : CallFix p m c cX2_signAt 2 s _ wsX2_signAt RX2 := ⟨hx, hb, hml, hown, hts⟩
  have hinX2 : ∀ w ∈ wsX20, w ∈ wsX2_signAt := by decide +kernel
  have hl := lv_entry ([.ref (α 0), .int p1]) (n := 2) (Nat.le_of_ble_eq_true rfl)
  rw [lg_entry_eq]
  generalize (lg_sl ([.ref (α 0), .int p1]) ++ List.replicate (2 - (lg_sl ([.ref (α 0), .int p1])).length) Slot.unset).toArray = ls at hl ⊢
  have hl : lv_has ls 2 [(0, .ref (α 0)), (1, .int p1)] := hl
  refine lv_aload_n hx hb dX2_signAt_0 rfl (lv_at hl 0 rfl) ?_
  refine get_P_signs hx hb hts hinX2 hown hK hP (hts (.fieldLink RX2 9 "GrooveTurns$Pad" "signs" "[I") (by decide +kernel)) dX2_signAt_1 ?_
  refine lv_iload_n hx hb dX2_signAt_4 rfl (lv_at hl 1 rfl) ?_
  refine rdN (As := [.ref (α 1), .int p1]) (rest := []) (c_X4_at l G (α 1) 60 (p_si σ) p1 (by decide)) hF (va_cnB (host := RX4) 2 hts gX2_signAt_X4_at_n25 rfl rfl rfl (hK.nest 10 rfl) (hts (.initialized RX4) (by decide +kernel)) (by decide +kernel) ⟨Nat.le_of_ble_eq_true rfl, Nat.le_of_ble_eq_true rfl⟩) (hts (.static yX4_at) (by decide +kernel)) hK (cell_P_si hP) rfl hl.1 rfl (Nat.le_of_ble_eq_true rfl) dX2_signAt_5 ⟨Nat.zero_le _, Nat.zero_le _⟩ ?_
  rw [show s_X2_signAt σ p1 = (s_X4_at 60 (p_si σ) p1) from by rw [s_X2_signAt]]
  exact W.iret hx hb hr (fun t ht hW => ⟨rfl, ht⟩) (fun _ h => nomatch h) dX2_signAt_8
end
